section
/-- a private method of a class that the tables say can be made, by its rows of tables_1 -/
def lw_okq (q : MethodName × Nat) : Prop := (q.1.cls ≠ "java/lang/invoke/MethodHandle" ∧ q.1.cls ≠ "java/lang/invoke/VarHandle") ∧ Cond.instantiable q.1.cls q.2 ∈ tables_1 ∧ Cond.privateMethod q.1 ∈ tables_1 ∧ Cond.instanceMethod q.1 ∈ tables_1
theorem lw_p0 : lw_okq (⟨"TheyHearLate$Reader", "startAnew", "()V"⟩, 10) := ⟨⟨by decide +kernel, by decide +kernel⟩, List.mem_of_getElem? (i := 176) (by decide +kernel), List.mem_of_getElem? (i := 420) (by decide +kernel), List.mem_of_getElem? (i := 421) (by decide +kernel)⟩
theorem lw_p1 : lw_okq (⟨"TheyHearLate$Reader", "take", "(ILjava/lang/String;)Z"⟩, 10) := ⟨⟨by decide +kernel, by decide +kernel⟩, List.mem_of_getElem? (i := 176) (by decide +kernel), List.mem_of_getElem? (i := 427) (by decide +kernel), List.mem_of_getElem? (i := 428) (by decide +kernel)⟩
theorem lw_p2 : lw_okq (⟨"TheyHearLate$Reader", "takeDigit", "(I)Z"⟩, 10) := ⟨⟨by decide +kernel, by decide +kernel⟩, List.mem_of_getElem? (i := 176) (by decide +kernel), List.mem_of_getElem? (i := 431) (by decide +kernel), List.mem_of_getElem? (i := 432) (by decide +kernel)⟩
theorem lw_p3 : lw_okq (⟨"TheyHearLate$Reader", "takeAhead", "(ILjava/lang/String;)Z"⟩, 10) := ⟨⟨by decide +kernel, by decide +kernel⟩, List.mem_of_getElem? (i := 176) (by decide +kernel), List.mem_of_getElem? (i := 435) (by decide +kernel), List.mem_of_getElem? (i := 436) (by decide +kernel)⟩
theorem lw_p4 : lw_okq (⟨"TheyHearLate$Reader", "putOff", "(I)V"⟩, 10) := ⟨⟨by decide +kernel, by decide +kernel⟩, List.mem_of_getElem? (i := 176) (by decide +kernel), List.mem_of_getElem? (i := 439) (by decide +kernel), List.mem_of_getElem? (i := 440) (by decide +kernel)⟩
theorem lw_p5 : lw_okq (⟨"TheyHearLate$Reader", "open", "()Z"⟩, 10) := ⟨⟨by decide +kernel, by decide +kernel⟩, List.mem_of_getElem? (i := 176) (by decide +kernel), List.mem_of_getElem? (i := 443) (by decide +kernel), List.mem_of_getElem? (i := 444) (by decide +kernel)⟩
theorem lw_p6 : lw_okq (⟨"TheyHearLate$Reader", "takeBehind", "(I)Z"⟩, 10) := ⟨⟨by decide +kernel, by decide +kernel⟩, List.mem_of_getElem? (i := 176) (by decide +kernel), List.mem_of_getElem? (i := 535) (by decide +kernel), List.mem_of_getElem? (i := 536) (by decide +kernel)⟩
theorem lw_p7 : lw_okq (⟨"TheyHearLate$Reader", "finishNumber", "()V"⟩, 10) := ⟨⟨by decide +kernel, by decide +kernel⟩, List.mem_of_getElem? (i := 176) (by decide +kernel), List.mem_of_getElem? (i := 539) (by decide +kernel), List.mem_of_getElem? (i := 540) (by decide +kernel)⟩
theorem lw_p8 : lw_okq (⟨"TheyHearLate$Reader", "close", "()Z"⟩, 10) := ⟨⟨by decide +kernel, by decide +kernel⟩, List.mem_of_getElem? (i := 176) (by decide +kernel), List.mem_of_getElem? (i := 543) (by decide +kernel), List.mem_of_getElem? (i := 544) (by decide +kernel)⟩
theorem lw_p9 : lw_okq (⟨"TheyHearLate$Reader", "finishDownTo", "(I)V"⟩, 10) := ⟨⟨by decide +kernel, by decide +kernel⟩, List.mem_of_getElem? (i := 176) (by decide +kernel), List.mem_of_getElem? (i := 547) (by decide +kernel), List.mem_of_getElem? (i := 548) (by decide +kernel)⟩
theorem lw_p10 : lw_okq (⟨"TheyHearLate", "sameMinute", "(II)I"⟩, 10) := ⟨⟨by decide +kernel, by decide +kernel⟩, List.mem_of_getElem? (i := 26) (by decide +kernel), List.mem_of_getElem? (i := 623) (by decide +kernel), List.mem_of_getElem? (i := 624) (by decide +kernel)⟩
theorem lw_p11 : lw_okq (⟨"TheyHearLate", "saidTooSoon", "(II)I"⟩, 10) := ⟨⟨by decide +kernel, by decide +kernel⟩, List.mem_of_getElem? (i := 26) (by decide +kernel), List.mem_of_getElem? (i := 635) (by decide +kernel), List.mem_of_getElem? (i := 636) (by decide +kernel)⟩
theorem lw_p12 : lw_okq (⟨"TheyHearLate", "tryOut", "(II)I"⟩, 10) := ⟨⟨by decide +kernel, by decide +kernel⟩, List.mem_of_getElem? (i := 26) (by decide +kernel), List.mem_of_getElem? (i := 651) (by decide +kernel), List.mem_of_getElem? (i := 652) (by decide +kernel)⟩
theorem lw_p13 : lw_okq (⟨"TheyHearLate$Formula", "reckon", "(II)I"⟩, 3) := ⟨⟨by decide +kernel, by decide +kernel⟩, List.mem_of_getElem? (i := 76) (by decide +kernel), List.mem_of_getElem? (i := 678) (by decide +kernel), List.mem_of_getElem? (i := 679) (by decide +kernel)⟩
theorem lw_p14 : lw_okq (⟨"TheyHearLate$Formula", "thing", "(I[I)I"⟩, 3) := ⟨⟨by decide +kernel, by decide +kernel⟩, List.mem_of_getElem? (i := 76) (by decide +kernel), List.mem_of_getElem? (i := 685) (by decide +kernel), List.mem_of_getElem? (i := 686) (by decide +kernel)⟩
theorem lw_p15 : lw_okq (⟨"TheyHearLate", "doneByAll", "(I)I"⟩, 10) := ⟨⟨by decide +kernel, by decide +kernel⟩, List.mem_of_getElem? (i := 26) (by decide +kernel), List.mem_of_getElem? (i := 741) (by decide +kernel), List.mem_of_getElem? (i := 742) (by decide +kernel)⟩
def lw_privs_1 : List (MethodName × Nat) := [(⟨"TheyHearLate$Reader", "startAnew", "()V"⟩, 10), (⟨"TheyHearLate$Reader", "take", "(ILjava/lang/String;)Z"⟩, 10), (⟨"TheyHearLate$Reader", "takeDigit", "(I)Z"⟩, 10), (⟨"TheyHearLate$Reader", "takeAhead", "(ILjava/lang/String;)Z"⟩, 10), (⟨"TheyHearLate$Reader", "putOff", "(I)V"⟩, 10), (⟨"TheyHearLate$Reader", "open", "()Z"⟩, 10), (⟨"TheyHearLate$Reader", "takeBehind", "(I)Z"⟩, 10), (⟨"TheyHearLate$Reader", "finishNumber", "()V"⟩, 10), (⟨"TheyHearLate$Reader", "close", "()Z"⟩, 10), (⟨"TheyHearLate$Reader", "finishDownTo", "(I)V"⟩, 10), (⟨"TheyHearLate", "sameMinute", "(II)I"⟩, 10), (⟨"TheyHearLate", "saidTooSoon", "(II)I"⟩, 10), (⟨"TheyHearLate", "tryOut", "(II)I"⟩, 10), (⟨"TheyHearLate$Formula", "reckon", "(II)I"⟩, 3), (⟨"TheyHearLate$Formula", "thing", "(I[I)I"⟩, 3), (⟨"TheyHearLate", "doneByAll", "(I)I"⟩, 10)]
theorem lw_r1 : ∀ q ∈ lw_privs_1, lw_okq q := List.forall_mem_cons.mpr ⟨lw_p0, List.forall_mem_cons.mpr ⟨lw_p1, List.forall_mem_cons.mpr ⟨lw_p2, List.forall_mem_cons.mpr ⟨lw_p3, List.forall_mem_cons.mpr ⟨lw_p4, List.forall_mem_cons.mpr ⟨lw_p5, List.forall_mem_cons.mpr ⟨lw_p6, List.forall_mem_cons.mpr ⟨lw_p7, List.forall_mem_cons.mpr ⟨lw_p8, List.forall_mem_cons.mpr ⟨lw_p9, List.forall_mem_cons.mpr ⟨lw_p10, List.forall_mem_cons.mpr ⟨lw_p11, List.forall_mem_cons.mpr ⟨lw_p12, List.forall_mem_cons.mpr ⟨lw_p13, List.forall_mem_cons.mpr ⟨lw_p14, List.forall_mem_cons.mpr ⟨lw_p15, fun _ h => absurd h List.not_mem_nil⟩⟩⟩⟩⟩⟩⟩⟩⟩⟩⟩⟩⟩⟩⟩⟩
theorem lw_p16 : lw_okq (⟨"TheyHearLate$Helm", "spread", "(LTheyHearLate$Yard;I)V"⟩, 5) := ⟨⟨by decide +kernel, by decide +kernel⟩, List.mem_of_getElem? (i := 251) (by decide +kernel), List.mem_of_getElem? (i := 765) (by decide +kernel), List.mem_of_getElem? (i := 766) (by decide +kernel)⟩
theorem lw_p17 : lw_okq (⟨"TheyHearLate$Helm", "reckonCosts", "(III)V"⟩, 5) := ⟨⟨by decide +kernel, by decide +kernel⟩, List.mem_of_getElem? (i := 251) (by decide +kernel), List.mem_of_getElem? (i := 769) (by decide +kernel), List.mem_of_getElem? (i := 770) (by decide +kernel)⟩
theorem lw_p18 : lw_okq (⟨"TheyHearLate$Helm", "leastAt", "(LTheyHearLate$Yard;IIJ)J"⟩, 5) := ⟨⟨by decide +kernel, by decide +kernel⟩, List.mem_of_getElem? (i := 251) (by decide +kernel), List.mem_of_getElem? (i := 778) (by decide +kernel), List.mem_of_getElem? (i := 779) (by decide +kernel)⟩
theorem lw_p19 : lw_okq (⟨"TheyHearLate$Helm", "hopedFor", "(LTheyHearLate$Yard;IJ)J"⟩, 5) := ⟨⟨by decide +kernel, by decide +kernel⟩, List.mem_of_getElem? (i := 251) (by decide +kernel), List.mem_of_getElem? (i := 782) (by decide +kernel), List.mem_of_getElem? (i := 783) (by decide +kernel)⟩
theorem lw_p20 : lw_okq (⟨"TheyHearLate$Match", "bestThing", "(ZII)I"⟩, 8) := ⟨⟨by decide +kernel, by decide +kernel⟩, List.mem_of_getElem? (i := 287) (by decide +kernel), List.mem_of_getElem? (i := 863) (by decide +kernel), List.mem_of_getElem? (i := 864) (by decide +kernel)⟩
theorem lw_p21 : lw_okq (⟨"TheyHearLate$Match", "brings", "(ZII)J"⟩, 8) := ⟨⟨by decide +kernel, by decide +kernel⟩, List.mem_of_getElem? (i := 287) (by decide +kernel), List.mem_of_getElem? (i := 867) (by decide +kernel), List.mem_of_getElem? (i := 868) (by decide +kernel)⟩
theorem lw_p22 : lw_okq (⟨"TheyHearLate$Match", "worth", "(IIII)J"⟩, 8) := ⟨⟨by decide +kernel, by decide +kernel⟩, List.mem_of_getElem? (i := 287) (by decide +kernel), List.mem_of_getElem? (i := 871) (by decide +kernel), List.mem_of_getElem? (i := 872) (by decide +kernel)⟩
theorem lw_p23 : lw_okq (⟨"TheyHearLate$Match", "changes", "(Z)Z"⟩, 8) := ⟨⟨by decide +kernel, by decide +kernel⟩, List.mem_of_getElem? (i := 287) (by decide +kernel), List.mem_of_getElem? (i := 897) (by decide +kernel), List.mem_of_getElem? (i := 898) (by decide +kernel)⟩
theorem lw_p24 : lw_okq (⟨"TheyHearLate$Words", "measure", "(LTheyHearLate$Yard;I)V"⟩, 3) := ⟨⟨by decide +kernel, by decide +kernel⟩, List.mem_of_getElem? (i := 233) (by decide +kernel), List.mem_of_getElem? (i := 925) (by decide +kernel), List.mem_of_getElem? (i := 926) (by decide +kernel)⟩
theorem lw_p25 : lw_okq (⟨"TheyHearLate$Words", "minutesBy", "(LTheyHearLate$Yard;III)I"⟩, 3) := ⟨⟨by decide +kernel, by decide +kernel⟩, List.mem_of_getElem? (i := 233) (by decide +kernel), List.mem_of_getElem? (i := 931) (by decide +kernel), List.mem_of_getElem? (i := 932) (by decide +kernel)⟩
theorem lw_p26 : lw_okq (⟨"TheyHearLate", "heardByAll", "(I)I"⟩, 10) := ⟨⟨by decide +kernel, by decide +kernel⟩, List.mem_of_getElem? (i := 26) (by decide +kernel), List.mem_of_getElem? (i := 956) (by decide +kernel), List.mem_of_getElem? (i := 957) (by decide +kernel)⟩
theorem lw_p27 : lw_okq (⟨"TheyHearLate", "answeredOfHundred", "(III)I"⟩, 10) := ⟨⟨by decide +kernel, by decide +kernel⟩, List.mem_of_getElem? (i := 26) (by decide +kernel), List.mem_of_getElem? (i := 976) (by decide +kernel), List.mem_of_getElem? (i := 977) (by decide +kernel)⟩
theorem lw_p28 : lw_okq (⟨"java/lang/Throwable", "fillInStackTrace", "(I)Ljava/lang/Throwable;"⟩, 6) := ⟨⟨by decide +kernel, by decide +kernel⟩, List.mem_of_getElem? (i := 1055) (by decide +kernel), List.mem_of_getElem? (i := 1053) (by decide +kernel), List.mem_of_getElem? (i := 1054) (by decide +kernel)⟩
theorem lw_p29 : lw_okq (⟨"TheyHearLateModel", "isPerson", "(I)Z"⟩, 54) := ⟨⟨by decide +kernel, by decide +kernel⟩, List.mem_of_getElem? (i := 1130) (by decide +kernel), List.mem_of_getElem? (i := 1128) (by decide +kernel), List.mem_of_getElem? (i := 1129) (by decide +kernel)⟩
theorem lw_p30 : lw_okq (⟨"TheyHearLateModel", "arePair", "(II)Z"⟩, 54) := ⟨⟨by decide +kernel, by decide +kernel⟩, List.mem_of_getElem? (i := 1130) (by decide +kernel), List.mem_of_getElem? (i := 1141) (by decide +kernel), List.mem_of_getElem? (i := 1142) (by decide +kernel)⟩
theorem lw_p31 : lw_okq (⟨"TheyHearLateModel", "reads", "(ILjava/lang/String;)I"⟩, 54) := ⟨⟨by decide +kernel, by decide +kernel⟩, List.mem_of_getElem? (i := 1130) (by decide +kernel), List.mem_of_getElem? (i := 1177) (by decide +kernel), List.mem_of_getElem? (i := 1178) (by decide +kernel)⟩
def lw_privs_2 : List (MethodName × Nat) := [(⟨"TheyHearLate$Helm", "spread", "(LTheyHearLate$Yard;I)V"⟩, 5), (⟨"TheyHearLate$Helm", "reckonCosts", "(III)V"⟩, 5), (⟨"TheyHearLate$Helm", "leastAt", "(LTheyHearLate$Yard;IIJ)J"⟩, 5), (⟨"TheyHearLate$Helm", "hopedFor", "(LTheyHearLate$Yard;IJ)J"⟩, 5), (⟨"TheyHearLate$Match", "bestThing", "(ZII)I"⟩, 8), (⟨"TheyHearLate$Match", "brings", "(ZII)J"⟩, 8), (⟨"TheyHearLate$Match", "worth", "(IIII)J"⟩, 8), (⟨"TheyHearLate$Match", "changes", "(Z)Z"⟩, 8), (⟨"TheyHearLate$Words", "measure", "(LTheyHearLate$Yard;I)V"⟩, 3), (⟨"TheyHearLate$Words", "minutesBy", "(LTheyHearLate$Yard;III)I"⟩, 3), (⟨"TheyHearLate", "heardByAll", "(I)I"⟩, 10), (⟨"TheyHearLate", "answeredOfHundred", "(III)I"⟩, 10), (⟨"java/lang/Throwable", "fillInStackTrace", "(I)Ljava/lang/Throwable;"⟩, 6), (⟨"TheyHearLateModel", "isPerson", "(I)Z"⟩, 54), (⟨"TheyHearLateModel", "arePair", "(II)Z"⟩, 54), (⟨"TheyHearLateModel", "reads", "(ILjava/lang/String;)I"⟩, 54)]
theorem lw_r2 : ∀ q ∈ lw_privs_2, lw_okq q := List.forall_mem_cons.mpr ⟨lw_p16, List.forall_mem_cons.mpr ⟨lw_p17, List.forall_mem_cons.mpr ⟨lw_p18, List.forall_mem_cons.mpr ⟨lw_p19, List.forall_mem_cons.mpr ⟨lw_p20, List.forall_mem_cons.mpr ⟨lw_p21, List.forall_mem_cons.mpr ⟨lw_p22, List.forall_mem_cons.mpr ⟨lw_p23, List.forall_mem_cons.mpr ⟨lw_p24, List.forall_mem_cons.mpr ⟨lw_p25, List.forall_mem_cons.mpr ⟨lw_p26, List.forall_mem_cons.mpr ⟨lw_p27, List.forall_mem_cons.mpr ⟨lw_p28, List.forall_mem_cons.mpr ⟨lw_p29, List.forall_mem_cons.mpr ⟨lw_p30, List.forall_mem_cons.mpr ⟨lw_p31, fun _ h => absurd h List.not_mem_nil⟩⟩⟩⟩⟩⟩⟩⟩⟩⟩⟩⟩⟩⟩⟩⟩
theorem lw_p32 : lw_okq (⟨"TheyHearLateModel", "ranked", "(I)Z"⟩, 54) := ⟨⟨by decide +kernel, by decide +kernel⟩, List.mem_of_getElem? (i := 1130) (by decide +kernel), List.mem_of_getElem? (i := 1181) (by decide +kernel), List.mem_of_getElem? (i := 1182) (by decide +kernel)⟩
theorem lw_p33 : lw_okq (⟨"TheyHearLateModel", "ahead", "()Z"⟩, 54) := ⟨⟨by decide +kernel, by decide +kernel⟩, List.mem_of_getElem? (i := 1130) (by decide +kernel), List.mem_of_getElem? (i := 1185) (by decide +kernel), List.mem_of_getElem? (i := 1186) (by decide +kernel)⟩
theorem lw_p34 : lw_okq (⟨"TheyHearLateModel", "among", "(Ljava/lang/String;)I"⟩, 54) := ⟨⟨by decide +kernel, by decide +kernel⟩, List.mem_of_getElem? (i := 1130) (by decide +kernel), List.mem_of_getElem? (i := 1190) (by decide +kernel), List.mem_of_getElem? (i := 1191) (by decide +kernel)⟩
theorem lw_p35 : lw_okq (⟨"TheyHearLateModel", "thing", "()Z"⟩, 54) := ⟨⟨by decide +kernel, by decide +kernel⟩, List.mem_of_getElem? (i := 1130) (by decide +kernel), List.mem_of_getElem? (i := 1215) (by decide +kernel), List.mem_of_getElem? (i := 1216) (by decide +kernel)⟩
theorem lw_p36 : lw_okq (⟨"TheyHearLateModel", "isDigit", "()Z"⟩, 54) := ⟨⟨by decide +kernel, by decide +kernel⟩, List.mem_of_getElem? (i := 1130) (by decide +kernel), List.mem_of_getElem? (i := 1219) (by decide +kernel), List.mem_of_getElem? (i := 1220) (by decide +kernel)⟩
theorem lw_p37 : lw_okq (⟨"TheyHearLateModel", "marks", "(I)V"⟩, 54) := ⟨⟨by decide +kernel, by decide +kernel⟩, List.mem_of_getElem? (i := 1130) (by decide +kernel), List.mem_of_getElem? (i := 1225) (by decide +kernel), List.mem_of_getElem? (i := 1226) (by decide +kernel)⟩
theorem lw_p38 : lw_okq (⟨"TheyHearLateModel", "refuse", "()I"⟩, 54) := ⟨⟨by decide +kernel, by decide +kernel⟩, List.mem_of_getElem? (i := 1130) (by decide +kernel), List.mem_of_getElem? (i := 1245) (by decide +kernel), List.mem_of_getElem? (i := 1246) (by decide +kernel)⟩
theorem lw_p39 : lw_okq (⟨"TheyHearLateModel", "doesNow", "(III)I"⟩, 54) := ⟨⟨by decide +kernel, by decide +kernel⟩, List.mem_of_getElem? (i := 1130) (by decide +kernel), List.mem_of_getElem? (i := 1249) (by decide +kernel), List.mem_of_getElem? (i := 1250) (by decide +kernel)⟩
theorem lw_p40 : lw_okq (⟨"TheyHearLateModel", "looks", "(II)V"⟩, 54) := ⟨⟨by decide +kernel, by decide +kernel⟩, List.mem_of_getElem? (i := 1130) (by decide +kernel), List.mem_of_getElem? (i := 1253) (by decide +kernel), List.mem_of_getElem? (i := 1254) (by decide +kernel)⟩
theorem lw_p41 : lw_okq (⟨"TheyHearLateModel", "placeAt", "(I)I"⟩, 54) := ⟨⟨by decide +kernel, by decide +kernel⟩, List.mem_of_getElem? (i := 1130) (by decide +kernel), List.mem_of_getElem? (i := 1257) (by decide +kernel), List.mem_of_getElem? (i := 1258) (by decide +kernel)⟩
theorem lw_p42 : lw_okq (⟨"TheyHearLateModel", "heardBy", "(II)I"⟩, 54) := ⟨⟨by decide +kernel, by decide +kernel⟩, List.mem_of_getElem? (i := 1130) (by decide +kernel), List.mem_of_getElem? (i := 1261) (by decide +kernel), List.mem_of_getElem? (i := 1262) (by decide +kernel)⟩
theorem lw_p43 : lw_okq (⟨"TheyHearLateModel", "lateOf", "(I)I"⟩, 54) := ⟨⟨by decide +kernel, by decide +kernel⟩, List.mem_of_getElem? (i := 1130) (by decide +kernel), List.mem_of_getElem? (i := 1268) (by decide +kernel), List.mem_of_getElem? (i := 1269) (by decide +kernel)⟩
theorem lw_p44 : lw_okq (⟨"TheyHearLateModel", "wasOf", "(III)I"⟩, 54) := ⟨⟨by decide +kernel, by decide +kernel⟩, List.mem_of_getElem? (i := 1130) (by decide +kernel), List.mem_of_getElem? (i := 1272) (by decide +kernel), List.mem_of_getElem? (i := 1273) (by decide +kernel)⟩
theorem lw_p45 : lw_okq (⟨"TheyHearLateModel", "worked", "(I)I"⟩, 54) := ⟨⟨by decide +kernel, by decide +kernel⟩, List.mem_of_getElem? (i := 1130) (by decide +kernel), List.mem_of_getElem? (i := 1279) (by decide +kernel), List.mem_of_getElem? (i := 1280) (by decide +kernel)⟩
theorem lw_p46 : lw_okq (⟨"TheyHearLateModel", "passes", "()V"⟩, 54) := ⟨⟨by decide +kernel, by decide +kernel⟩, List.mem_of_getElem? (i := 1130) (by decide +kernel), List.mem_of_getElem? (i := 1297) (by decide +kernel), List.mem_of_getElem? (i := 1298) (by decide +kernel)⟩
theorem lw_p47 : lw_okq (⟨"TheyHearLateModel", "blows", "()I"⟩, 54) := ⟨⟨by decide +kernel, by decide +kernel⟩, List.mem_of_getElem? (i := 1130) (by decide +kernel), List.mem_of_getElem? (i := 1301) (by decide +kernel), List.mem_of_getElem? (i := 1302) (by decide +kernel)⟩
def lw_privs_3 : List (MethodName × Nat) := [(⟨"TheyHearLateModel", "ranked", "(I)Z"⟩, 54), (⟨"TheyHearLateModel", "ahead", "()Z"⟩, 54), (⟨"TheyHearLateModel", "among", "(Ljava/lang/String;)I"⟩, 54), (⟨"TheyHearLateModel", "thing", "()Z"⟩, 54), (⟨"TheyHearLateModel", "isDigit", "()Z"⟩, 54), (⟨"TheyHearLateModel", "marks", "(I)V"⟩, 54), (⟨"TheyHearLateModel", "refuse", "()I"⟩, 54), (⟨"TheyHearLateModel", "doesNow", "(III)I"⟩, 54), (⟨"TheyHearLateModel", "looks", "(II)V"⟩, 54), (⟨"TheyHearLateModel", "placeAt", "(I)I"⟩, 54), (⟨"TheyHearLateModel", "heardBy", "(II)I"⟩, 54), (⟨"TheyHearLateModel", "lateOf", "(I)I"⟩, 54), (⟨"TheyHearLateModel", "wasOf", "(III)I"⟩, 54), (⟨"TheyHearLateModel", "worked", "(I)I"⟩, 54), (⟨"TheyHearLateModel", "passes", "()V"⟩, 54), (⟨"TheyHearLateModel", "blows", "()I"⟩, 54)]
theorem lw_r3 : ∀ q ∈ lw_privs_3, lw_okq q := List.forall_mem_cons.mpr ⟨lw_p32, List.forall_mem_cons.mpr ⟨lw_p33, List.forall_mem_cons.mpr ⟨lw_p34, List.forall_mem_cons.mpr ⟨lw_p35, List.forall_mem_cons.mpr ⟨lw_p36, List.forall_mem_cons.mpr ⟨lw_p37, List.forall_mem_cons.mpr ⟨lw_p38, List.forall_mem_cons.mpr ⟨lw_p39, List.forall_mem_cons.mpr ⟨lw_p40, List.forall_mem_cons.mpr ⟨lw_p41, List.forall_mem_cons.mpr ⟨lw_p42, List.forall_mem_cons.mpr ⟨lw_p43, List.forall_mem_cons.mpr ⟨lw_p44, List.forall_mem_cons.mpr ⟨lw_p45, List.forall_mem_cons.mpr ⟨lw_p46, List.forall_mem_cons.mpr ⟨lw_p47, fun _ h => absurd h List.not_mem_nil⟩⟩⟩⟩⟩⟩⟩⟩⟩⟩⟩⟩⟩⟩⟩⟩
theorem lw_p48 : lw_okq (⟨"TheyHearLateModel", "draws", "(I)I"⟩, 54) := ⟨⟨by decide +kernel, by decide +kernel⟩, List.mem_of_getElem? (i := 1130) (by decide +kernel), List.mem_of_getElem? (i := 1305) (by decide +kernel), List.mem_of_getElem? (i := 1306) (by decide +kernel)⟩
theorem lw_p49 : lw_okq (⟨"TheyHearLateModel", "begins", "()V"⟩, 54) := ⟨⟨by decide +kernel, by decide +kernel⟩, List.mem_of_getElem? (i := 1130) (by decide +kernel), List.mem_of_getElem? (i := 1314) (by decide +kernel), List.mem_of_getElem? (i := 1315) (by decide +kernel)⟩
theorem lw_p50 : lw_okq (⟨"TheyHearLateModel", "enters", "(J)V"⟩, 54) := ⟨⟨by decide +kernel, by decide +kernel⟩, List.mem_of_getElem? (i := 1130) (by decide +kernel), List.mem_of_getElem? (i := 1332) (by decide +kernel), List.mem_of_getElem? (i := 1333) (by decide +kernel)⟩
theorem lw_p51 : lw_okq (⟨"TheyHearLateModel", "costNow", "()I"⟩, 54) := ⟨⟨by decide +kernel, by decide +kernel⟩, List.mem_of_getElem? (i := 1130) (by decide +kernel), List.mem_of_getElem? (i := 1336) (by decide +kernel), List.mem_of_getElem? (i := 1337) (by decide +kernel)⟩
theorem lw_p52 : lw_okq (⟨"TheyHearLateModel", "costs", "(II)I"⟩, 54) := ⟨⟨by decide +kernel, by decide +kernel⟩, List.mem_of_getElem? (i := 1130) (by decide +kernel), List.mem_of_getElem? (i := 1352) (by decide +kernel), List.mem_of_getElem? (i := 1353) (by decide +kernel)⟩
theorem lw_p53 : lw_okq (⟨"TheyHearLateModel", "putsBy", "()V"⟩, 54) := ⟨⟨by decide +kernel, by decide +kernel⟩, List.mem_of_getElem? (i := 1130) (by decide +kernel), List.mem_of_getElem? (i := 1356) (by decide +kernel), List.mem_of_getElem? (i := 1357) (by decide +kernel)⟩
theorem lw_p54 : lw_okq (⟨"TheyHearLateModel", "takesBack", "()V"⟩, 54) := ⟨⟨by decide +kernel, by decide +kernel⟩, List.mem_of_getElem? (i := 1130) (by decide +kernel), List.mem_of_getElem? (i := 1360) (by decide +kernel), List.mem_of_getElem? (i := 1361) (by decide +kernel)⟩
theorem lw_p55 : lw_okq (⟨"TheyHearLateModel", "steers", "(IIII)J"⟩, 54) := ⟨⟨by decide +kernel, by decide +kernel⟩, List.mem_of_getElem? (i := 1130) (by decide +kernel), List.mem_of_getElem? (i := 1396) (by decide +kernel), List.mem_of_getElem? (i := 1397) (by decide +kernel)⟩
theorem lw_p56 : lw_okq (⟨"TheyHearLateModel", "sumsWinds", "(I)V"⟩, 54) := ⟨⟨by decide +kernel, by decide +kernel⟩, List.mem_of_getElem? (i := 1130) (by decide +kernel), List.mem_of_getElem? (i := 1400) (by decide +kernel), List.mem_of_getElem? (i := 1401) (by decide +kernel)⟩
theorem lw_p57 : lw_okq (⟨"TheyHearLateModel", "costOf", "(I)J"⟩, 54) := ⟨⟨by decide +kernel, by decide +kernel⟩, List.mem_of_getElem? (i := 1130) (by decide +kernel), List.mem_of_getElem? (i := 1404) (by decide +kernel), List.mem_of_getElem? (i := 1405) (by decide +kernel)⟩
theorem lw_p58 : lw_okq (⟨"TheyHearLateModel", "then", "(I)J"⟩, 54) := ⟨⟨by decide +kernel, by decide +kernel⟩, List.mem_of_getElem? (i := 1130) (by decide +kernel), List.mem_of_getElem? (i := 1408) (by decide +kernel), List.mem_of_getElem? (i := 1409) (by decide +kernel)⟩
theorem lw_p59 : lw_okq (⟨"TheyHearLateModel", "entersFraction", "(JJ)V"⟩, 54) := ⟨⟨by decide +kernel, by decide +kernel⟩, List.mem_of_getElem? (i := 1130) (by decide +kernel), List.mem_of_getElem? (i := 1420) (by decide +kernel), List.mem_of_getElem? (i := 1421) (by decide +kernel)⟩
theorem lw_p60 : lw_okq (⟨"TheyHearLateModel", "pulls", "(IIII)V"⟩, 54) := ⟨⟨by decide +kernel, by decide +kernel⟩, List.mem_of_getElem? (i := 1130) (by decide +kernel), List.mem_of_getElem? (i := 1431) (by decide +kernel), List.mem_of_getElem? (i := 1432) (by decide +kernel)⟩
theorem lw_p61 : lw_okq (⟨"TheyHearLateModel", "greatest", "(II)I"⟩, 54) := ⟨⟨by decide +kernel, by decide +kernel⟩, List.mem_of_getElem? (i := 1130) (by decide +kernel), List.mem_of_getElem? (i := 1436) (by decide +kernel), List.mem_of_getElem? (i := 1437) (by decide +kernel)⟩
theorem lw_p62 : lw_okq (⟨"TheyHearLateModel", "calm", "(I)I"⟩, 54) := ⟨⟨by decide +kernel, by decide +kernel⟩, List.mem_of_getElem? (i := 1130) (by decide +kernel), List.mem_of_getElem? (i := 1440) (by decide +kernel), List.mem_of_getElem? (i := 1441) (by decide +kernel)⟩
theorem lw_p63 : lw_okq (⟨"TheyHearLateModel", "bestOfTwo", "()J"⟩, 54) := ⟨⟨by decide +kernel, by decide +kernel⟩, List.mem_of_getElem? (i := 1130) (by decide +kernel), List.mem_of_getElem? (i := 1460) (by decide +kernel), List.mem_of_getElem? (i := 1461) (by decide +kernel)⟩
def lw_privs_4 : List (MethodName × Nat) := [(⟨"TheyHearLateModel", "draws", "(I)I"⟩, 54), (⟨"TheyHearLateModel", "begins", "()V"⟩, 54), (⟨"TheyHearLateModel", "enters", "(J)V"⟩, 54), (⟨"TheyHearLateModel", "costNow", "()I"⟩, 54), (⟨"TheyHearLateModel", "costs", "(II)I"⟩, 54), (⟨"TheyHearLateModel", "putsBy", "()V"⟩, 54), (⟨"TheyHearLateModel", "takesBack", "()V"⟩, 54), (⟨"TheyHearLateModel", "steers", "(IIII)J"⟩, 54), (⟨"TheyHearLateModel", "sumsWinds", "(I)V"⟩, 54), (⟨"TheyHearLateModel", "costOf", "(I)J"⟩, 54), (⟨"TheyHearLateModel", "then", "(I)J"⟩, 54), (⟨"TheyHearLateModel", "entersFraction", "(JJ)V"⟩, 54), (⟨"TheyHearLateModel", "pulls", "(IIII)V"⟩, 54), (⟨"TheyHearLateModel", "greatest", "(II)I"⟩, 54), (⟨"TheyHearLateModel", "calm", "(I)I"⟩, 54), (⟨"TheyHearLateModel", "bestOfTwo", "()J"⟩, 54)]
theorem lw_r4 : ∀ q ∈ lw_privs_4, lw_okq q := List.forall_mem_cons.mpr ⟨lw_p48, List.forall_mem_cons.mpr ⟨lw_p49, List.forall_mem_cons.mpr ⟨lw_p50, List.forall_mem_cons.mpr ⟨lw_p51, List.forall_mem_cons.mpr ⟨lw_p52, List.forall_mem_cons.mpr ⟨lw_p53, List.forall_mem_cons.mpr ⟨lw_p54, List.forall_mem_cons.mpr ⟨lw_p55, List.forall_mem_cons.mpr ⟨lw_p56, List.forall_mem_cons.mpr ⟨lw_p57, List.forall_mem_cons.mpr ⟨lw_p58, List.forall_mem_cons.mpr ⟨lw_p59, List.forall_mem_cons.mpr ⟨lw_p60, List.forall_mem_cons.mpr ⟨lw_p61, List.forall_mem_cons.mpr ⟨lw_p62, List.forall_mem_cons.mpr ⟨lw_p63, fun _ h => absurd h List.not_mem_nil⟩⟩⟩⟩⟩⟩⟩⟩⟩⟩⟩⟩⟩⟩⟩⟩
theorem lw_p64 : lw_okq (⟨"TheyHearLateModel", "worthOf", "(II)J"⟩, 54) := ⟨⟨by decide +kernel, by decide +kernel⟩, List.mem_of_getElem? (i := 1130) (by decide +kernel), List.mem_of_getElem? (i := 1467) (by decide +kernel), List.mem_of_getElem? (i := 1468) (by decide +kernel)⟩
theorem lw_p65 : lw_okq (⟨"TheyHearLateModel", "worth", "(IIII)J"⟩, 54) := ⟨⟨by decide +kernel, by decide +kernel⟩, List.mem_of_getElem? (i := 1130) (by decide +kernel), List.mem_of_getElem? (i := 1474) (by decide +kernel), List.mem_of_getElem? (i := 1475) (by decide +kernel)⟩
theorem lw_p66 : lw_okq (⟨"TheyHearLateModel", "stands", "(II)I"⟩, 54) := ⟨⟨by decide +kernel, by decide +kernel⟩, List.mem_of_getElem? (i := 1130) (by decide +kernel), List.mem_of_getElem? (i := 1486) (by decide +kernel), List.mem_of_getElem? (i := 1487) (by decide +kernel)⟩
theorem lw_p67 : lw_okq (⟨"TheyHearLateModel", "answers", "(III)I"⟩, 54) := ⟨⟨by decide +kernel, by decide +kernel⟩, List.mem_of_getElem? (i := 1130) (by decide +kernel), List.mem_of_getElem? (i := 1490) (by decide +kernel), List.mem_of_getElem? (i := 1491) (by decide +kernel)⟩
theorem lw_p68 : lw_okq (⟨"TheyHearLateModel", "partOf", "(IIII)J"⟩, 54) := ⟨⟨by decide +kernel, by decide +kernel⟩, List.mem_of_getElem? (i := 1130) (by decide +kernel), List.mem_of_getElem? (i := 1494) (by decide +kernel), List.mem_of_getElem? (i := 1495) (by decide +kernel)⟩
theorem lw_p69 : lw_okq (⟨"TheyHearLateModel", "minutesTo", "(II)I"⟩, 54) := ⟨⟨by decide +kernel, by decide +kernel⟩, List.mem_of_getElem? (i := 1130) (by decide +kernel), List.mem_of_getElem? (i := 1507) (by decide +kernel), List.mem_of_getElem? (i := 1508) (by decide +kernel)⟩
theorem lw_p70 : lw_okq (⟨"TheyHearLateModel", "fars", "(I)V"⟩, 54) := ⟨⟨by decide +kernel, by decide +kernel⟩, List.mem_of_getElem? (i := 1130) (by decide +kernel), List.mem_of_getElem? (i := 1511) (by decide +kernel), List.mem_of_getElem? (i := 1512) (by decide +kernel)⟩
theorem lw_p71 : lw_okq (⟨"TheyHearLateModel", "stepTo", "(II)I"⟩, 54) := ⟨⟨by decide +kernel, by decide +kernel⟩, List.mem_of_getElem? (i := 1130) (by decide +kernel), List.mem_of_getElem? (i := 1516) (by decide +kernel), List.mem_of_getElem? (i := 1517) (by decide +kernel)⟩
theorem lw_p72 : lw_okq (⟨"TheyHearLateModel", "casesBy", "(III)I"⟩, 54) := ⟨⟨by decide +kernel, by decide +kernel⟩, List.mem_of_getElem? (i := 1130) (by decide +kernel), List.mem_of_getElem? (i := 1549) (by decide +kernel), List.mem_of_getElem? (i := 1550) (by decide +kernel)⟩
theorem lw_p73 : lw_okq (⟨"TheyHearLateModel", "fogOf", "(II)I"⟩, 54) := ⟨⟨by decide +kernel, by decide +kernel⟩, List.mem_of_getElem? (i := 1130) (by decide +kernel), List.mem_of_getElem? (i := 1553) (by decide +kernel), List.mem_of_getElem? (i := 1554) (by decide +kernel)⟩
theorem lw_p74 : lw_okq (⟨"TheyHearLateModel", "rulesTold", "()I"⟩, 54) := ⟨⟨by decide +kernel, by decide +kernel⟩, List.mem_of_getElem? (i := 1130) (by decide +kernel), List.mem_of_getElem? (i := 1578) (by decide +kernel), List.mem_of_getElem? (i := 1579) (by decide +kernel)⟩
def lw_privs_5 : List (MethodName × Nat) := [(⟨"TheyHearLateModel", "worthOf", "(II)J"⟩, 54), (⟨"TheyHearLateModel", "worth", "(IIII)J"⟩, 54), (⟨"TheyHearLateModel", "stands", "(II)I"⟩, 54), (⟨"TheyHearLateModel", "answers", "(III)I"⟩, 54), (⟨"TheyHearLateModel", "partOf", "(IIII)J"⟩, 54), (⟨"TheyHearLateModel", "minutesTo", "(II)I"⟩, 54), (⟨"TheyHearLateModel", "fars", "(I)V"⟩, 54), (⟨"TheyHearLateModel", "stepTo", "(II)I"⟩, 54), (⟨"TheyHearLateModel", "casesBy", "(III)I"⟩, 54), (⟨"TheyHearLateModel", "fogOf", "(II)I"⟩, 54), (⟨"TheyHearLateModel", "rulesTold", "()I"⟩, 54)]
theorem lw_r5 : ∀ q ∈ lw_privs_5, lw_okq q := List.forall_mem_cons.mpr ⟨lw_p64, List.forall_mem_cons.mpr ⟨lw_p65, List.forall_mem_cons.mpr ⟨lw_p66, List.forall_mem_cons.mpr ⟨lw_p67, List.forall_mem_cons.mpr ⟨lw_p68, List.forall_mem_cons.mpr ⟨lw_p69, List.forall_mem_cons.mpr ⟨lw_p70, List.forall_mem_cons.mpr ⟨lw_p71, List.forall_mem_cons.mpr ⟨lw_p72, List.forall_mem_cons.mpr ⟨lw_p73, List.forall_mem_cons.mpr ⟨lw_p74, fun _ h => absurd h List.not_mem_nil⟩⟩⟩⟩⟩⟩⟩⟩⟩⟩⟩
def lw_privs : List (MethodName × Nat) := lw_privs_1 ++ (lw_privs_2 ++ (lw_privs_3 ++ (lw_privs_4 ++ (lw_privs_5))))
def lw_tbl : List Cond := k2_sels lw_privs ++ tables_1
theorem lw_privs_ok : ∀ q ∈ lw_privs, lw_okq q := by
  show ∀ q ∈ lw_privs_1 ++ (lw_privs_2 ++ (lw_privs_3 ++ (lw_privs_4 ++ (lw_privs_5)))), lw_okq q
  exact List.forall_mem_append.mpr ⟨lw_r1, List.forall_mem_append.mpr ⟨lw_r2, List.forall_mem_append.mpr ⟨lw_r3, List.forall_mem_append.mpr ⟨lw_r4, lw_r5⟩⟩⟩⟩
-- names (out of the printed names)
def RX0 : String := "TheyHearLate$Course"
def TX0 : u_T := fun k => match k with
  | 0 => ("TheyHearLate$Course", "now", "I", false)
  | 1 => ("TheyHearLate$Course", "start", "I", false)
  | 2 => ("TheyHearLate$Course", "draws", "I", false)
  | 3 => ("TheyHearLate$Course", "people", "I", false)
  | 4 => ("TheyHearLate$Course", "places", "[I", true)
  | 5 => ("TheyHearLate$Course", "did", "[I", true)
  | 6 => ("TheyHearLate$Course", "said", "[I", true)
  | 7 => ("TheyHearLate$Course", "heard", "[I", true)
  | _ => ("TheyHearLate$Course", "saw", "[I", true)
def tyX0 : Nat → FieldType := fun k => match k with
  | 0 => .int
  | 1 => .int
  | 2 => .int
  | 3 => .int
  | 4 => .array .int
  | 5 => .array .int
  | 6 => .array .int
  | 7 => .array .int
  | _ => .array .int
abbrev wsX00 : List Cond := u_ws RX0 TX0 9
theorem nmX0 : ∀ a, a < 9 → ∀ b, b < 9 → a ≠ b → (TX0 a).2.1 ≠ (TX0 b).2.1 := by decide +kernel
theorem tyX0_ok : ∀ k, k < 9 → parseFieldDescriptor (TX0 k).2.2.1 = some (tyX0 k) := by decide +kernel
abbrev cX0_init : ByteArray := prog_2_method_1_code
def yX0_init : MethodName := ⟨RX0, "<init>", "()V"⟩
abbrev cX0_restart : ByteArray := prog_2_method_2_code
def yX0_restart : MethodName := ⟨RX0, "restart", "()V"⟩
abbrev cX0_copy : ByteArray := prog_2_method_3_code
def yX0_copy : MethodName := ⟨RX0, "copy", "(LTheyHearLate$Course;)V"⟩
abbrev cX0_placeAt : ByteArray := prog_2_method_4_code
def yX0_placeAt : MethodName := ⟨RX0, "placeAt", "(I)I"⟩
abbrev cX0_noted : ByteArray := prog_2_method_5_code
def yX0_noted : MethodName := ⟨RX0, "noted", "([III)I"⟩
abbrev cX0_spoke : ByteArray := prog_2_method_6_code
def yX0_spoke : MethodName := ⟨RX0, "spoke", "(II)Z"⟩
abbrev cX0_note : ByteArray := prog_2_method_7_code
def yX0_note : MethodName := ⟨RX0, "note", "(IIIII)V"⟩
abbrev cX0_move : ByteArray := prog_2_method_8_code
def yX0_move : MethodName := ⟨RX0, "move", "(I)V"⟩
abbrev cX0_drawOfTen : ByteArray := prog_2_method_9_code
def yX0_drawOfTen : MethodName := ⟨RX0, "drawOfTen", "()I"⟩
abbrev cX0_off : ByteArray := prog_2_method_10_code
def yX0_off : MethodName := ⟨RX0, "off", "(II)I"⟩
abbrev cX0_costTo : ByteArray := prog_2_method_11_code
def yX0_costTo : MethodName := ⟨RX0, "costTo", "(I)I"⟩
abbrev cX0_settledFrom : ByteArray := prog_2_method_12_code
def yX0_settledFrom : MethodName := ⟨RX0, "settledFrom", "(I)I"⟩
abbrev cX0_widest : ByteArray := prog_2_method_13_code
def yX0_widest : MethodName := ⟨RX0, "widest", "(III)I"⟩
abbrev cX0_turnsRound : ByteArray := prog_2_method_14_code
def yX0_turnsRound : MethodName := ⟨RX0, "turnsRound", "(I)I"⟩
def RX1 : String := "TheyHearLate$Formula"
def TX1 : u_T := fun k => match k with
  | 0 => ("TheyHearLate$Formula", "codes", "[I", true)
  | 1 => ("TheyHearLate$Formula", "size", "I", false)
  | _ => ("TheyHearLate$Formula", "stack", "[I", true)
def tyX1 : Nat → FieldType := fun k => match k with
  | 0 => .array .int
  | 1 => .int
  | _ => .array .int
abbrev wsX10 : List Cond := u_ws RX1 TX1 3
theorem nmX1 : ∀ a, a < 3 → ∀ b, b < 3 → a ≠ b → (TX1 a).2.1 ≠ (TX1 b).2.1 := by decide +kernel
theorem tyX1_ok : ∀ k, k < 3 → parseFieldDescriptor (TX1 k).2.2.1 = some (tyX1 k) := by decide +kernel
abbrev cX1_init : ByteArray := prog_3_method_1_code
def yX1_init : MethodName := ⟨RX1, "<init>", "()V"⟩
abbrev cX1_add : ByteArray := prog_3_method_2_code
def yX1_add : MethodName := ⟨RX1, "add", "(I)V"⟩
abbrev cX1_copy : ByteArray := prog_3_method_3_code
def yX1_copy : MethodName := ⟨RX1, "copy", "(LTheyHearLate$Formula;)V"⟩
abbrev cX1_value : ByteArray := prog_3_method_4_code
def yX1_value : MethodName := ⟨RX1, "value", "([I)I"⟩
abbrev cX1_thing : ByteArray := prog_3_method_5_code
def yX1_thing : MethodName := ⟨RX1, "thing", "(I[I)I"⟩
abbrev cX1_reckon : ByteArray := prog_3_method_6_code
def yX1_reckon : MethodName := ⟨RX1, "reckon", "(II)I"⟩
abbrev cX1_join : ByteArray := prog_3_method_7_code
def yX1_join : MethodName := ⟨RX1, "join", "(III)I"⟩
def RX2 : String := "TheyHearLate$Helm"
def TX2 : u_T := fun k => match k with
  | 0 => ("TheyHearLate$Helm", "winds", "[J", true)
  | 1 => ("TheyHearLate$Helm", "costs", "[J", true)
  | 2 => ("TheyHearLate$Helm", "now", "[J", true)
  | 3 => ("TheyHearLate$Helm", "next", "[J", true)
  | _ => ("TheyHearLate$Helm", "first", "I", false)
def tyX2 : Nat → FieldType := fun k => match k with
  | 0 => .array .long
  | 1 => .array .long
  | 2 => .array .long
  | 3 => .array .long
  | _ => .int
abbrev wsX20 : List Cond := u_ws RX2 TX2 5
theorem nmX2 : ∀ a, a < 5 → ∀ b, b < 5 → a ≠ b → (TX2 a).2.1 ≠ (TX2 b).2.1 := by decide +kernel
theorem tyX2_ok : ∀ k, k < 5 → parseFieldDescriptor (TX2 k).2.2.1 = some (tyX2 k) := by decide +kernel
abbrev cX2_init : ByteArray := prog_4_method_1_code
def yX2_init : MethodName := ⟨RX2, "<init>", "()V"⟩
abbrev cX2_leastCost : ByteArray := prog_4_method_2_code
def yX2_leastCost : MethodName := ⟨RX2, "leastCost", "(LTheyHearLate$Yard;IIII)J"⟩
abbrev cX2_spread : ByteArray := prog_4_method_3_code
def yX2_spread : MethodName := ⟨RX2, "spread", "(LTheyHearLate$Yard;I)V"⟩
abbrev cX2_reckonCosts : ByteArray := prog_4_method_4_code
def yX2_reckonCosts : MethodName := ⟨RX2, "reckonCosts", "(III)V"⟩
abbrev cX2_leastAt : ByteArray := prog_4_method_5_code
def yX2_leastAt : MethodName := ⟨RX2, "leastAt", "(LTheyHearLate$Yard;IIJ)J"⟩
abbrev cX2_hopedFor : ByteArray := prog_4_method_6_code
def yX2_hopedFor : MethodName := ⟨RX2, "hopedFor", "(LTheyHearLate$Yard;IJ)J"⟩
abbrev cX2_inReach : ByteArray := prog_4_method_7_code
def yX2_inReach : MethodName := ⟨RX2, "inReach", "(I)I"⟩
def RX3 : String := "TheyHearLate$Match"
def TX3 : u_T := fun k => match k with
  | 0 => ("TheyHearLate$Match", "weights", "[I", true)
  | 1 => ("TheyHearLate$Match", "pay", "LTheyHearLate$Formula;", true)
  | 2 => ("TheyHearLate$Match", "paid", "[I", true)
  | 3 => ("TheyHearLate$Match", "one", "[I", true)
  | 4 => ("TheyHearLate$Match", "other", "[I", true)
  | 5 => ("TheyHearLate$Match", "bestOne", "[I", true)
  | 6 => ("TheyHearLate$Match", "bestOther", "[I", true)
  | _ => ("TheyHearLate$Match", "signs", "[I", true)
def tyX3 : Nat → FieldType := fun k => match k with
  | 0 => .array .int
  | 1 => .object "TheyHearLate$Formula"
  | 2 => .array .int
  | 3 => .array .int
  | 4 => .array .int
  | 5 => .array .int
  | 6 => .array .int
  | _ => .array .int
abbrev wsX30 : List Cond := u_ws RX3 TX3 8
theorem nmX3 : ∀ a, a < 8 → ∀ b, b < 8 → a ≠ b → (TX3 a).2.1 ≠ (TX3 b).2.1 := by decide +kernel
theorem tyX3_ok : ∀ k, k < 8 → parseFieldDescriptor (TX3 k).2.2.1 = some (tyX3 k) := by decide +kernel
abbrev cX3_init : ByteArray := prog_5_method_1_code
def yX3_init : MethodName := ⟨RX3, "<init>", "()V"⟩
abbrev cX3_tabulate : ByteArray := prog_5_method_2_code
def yX3_tabulate : MethodName := ⟨RX3, "tabulate", "()V"⟩
abbrev cX3_worth : ByteArray := prog_5_method_3_code
def yX3_worth : MethodName := ⟨RX3, "worth", "(IIII)J"⟩
abbrev cX3_sum : ByteArray := prog_5_method_4_code
def yX3_sum : MethodName := ⟨RX3, "sum", "()J"⟩
abbrev cX3_brings : ByteArray := prog_5_method_5_code
def yX3_brings : MethodName := ⟨RX3, "brings", "(ZII)J"⟩
abbrev cX3_bestThing : ByteArray := prog_5_method_6_code
def yX3_bestThing : MethodName := ⟨RX3, "bestThing", "(ZII)I"⟩
abbrev cX3_playBest : ByteArray := prog_5_method_7_code
def yX3_playBest : MethodName := ⟨RX3, "playBest", "()J"⟩
abbrev cX3_playByTurns : ByteArray := prog_5_method_8_code
def yX3_playByTurns : MethodName := ⟨RX3, "playByTurns", "(II)I"⟩
abbrev cX3_changes : ByteArray := prog_5_method_9_code
def yX3_changes : MethodName := ⟨RX3, "changes", "(Z)Z"⟩
abbrev cX3_mostSeeingBoth : ByteArray := prog_5_method_10_code
def yX3_mostSeeingBoth : MethodName := ⟨RX3, "mostSeeingBoth", "()J"⟩
abbrev cX3_spell : ByteArray := prog_5_method_11_code
def yX3_spell : MethodName := ⟨RX3, "spell", "(I[I)V"⟩
abbrev cX3_ruleNumber : ByteArray := prog_5_method_12_code
def yX3_ruleNumber : MethodName := ⟨RX3, "ruleNumber", "([I)I"⟩
def RX4 : String := "TheyHearLate$Person"
def TX4 : u_T := fun k => match k with
  | 0 => ("TheyHearLate$Person", "late", "I", false)
  | 1 => ("TheyHearLate$Person", "sight", "I", false)
  | 2 => ("TheyHearLate$Person", "thinks", "I", false)
  | 3 => ("TheyHearLate$Person", "near", "I", false)
  | 4 => ("TheyHearLate$Person", "sees", "I", false)
  | _ => ("TheyHearLate$Person", "more", "[I", true)
def tyX4 : Nat → FieldType := fun k => match k with
  | 0 => .int
  | 1 => .int
  | 2 => .int
  | 3 => .int
  | 4 => .int
  | _ => .array .int
abbrev wsX40 : List Cond := u_ws RX4 TX4 6
theorem nmX4 : ∀ a, a < 6 → ∀ b, b < 6 → a ≠ b → (TX4 a).2.1 ≠ (TX4 b).2.1 := by decide +kernel
theorem tyX4_ok : ∀ k, k < 6 → parseFieldDescriptor (TX4 k).2.2.1 = some (tyX4 k) := by decide +kernel
abbrev cX4_init : ByteArray := prog_6_method_1_code
def yX4_init : MethodName := ⟨RX4, "<init>", "()V"⟩
abbrev cX4_hearsAfter : ByteArray := prog_6_method_2_code
def yX4_hearsAfter : MethodName := ⟨RX4, "hearsAfter", "()I"⟩
def RX5 : String := "TheyHearLate$Reader"
def TX5 : u_T := fun k => match k with
  | 0 => ("TheyHearLate$Reader", "text", "[I", true)
  | 1 => ("TheyHearLate$Reader", "length", "I", false)
  | 2 => ("TheyHearLate$Reader", "draft", "LTheyHearLate$Formula;", true)
  | 3 => ("TheyHearLate$Reader", "waiting", "[I", true)
  | 4 => ("TheyHearLate$Reader", "held", "I", false)
  | 5 => ("TheyHearLate$Reader", "compared", "[Z", true)
  | 6 => ("TheyHearLate$Reader", "depth", "I", false)
  | 7 => ("TheyHearLate$Reader", "number", "I", false)
  | 8 => ("TheyHearLate$Reader", "digits", "I", false)
  | _ => ("TheyHearLate$Reader", "wantsThing", "Z", false)
def tyX5 : Nat → FieldType := fun k => match k with
  | 0 => .array .int
  | 1 => .int
  | 2 => .object "TheyHearLate$Formula"
  | 3 => .array .int
  | 4 => .int
  | 5 => .array .boolean
  | 6 => .int
  | 7 => .int
  | 8 => .int
  | _ => .boolean
abbrev wsX50 : List Cond := u_ws RX5 TX5 10
theorem nmX5 : ∀ a, a < 10 → ∀ b, b < 10 → a ≠ b → (TX5 a).2.1 ≠ (TX5 b).2.1 := by decide +kernel
theorem tyX5_ok : ∀ k, k < 10 → parseFieldDescriptor (TX5 k).2.2.1 = some (tyX5 k) := by decide +kernel
abbrev cX5_init : ByteArray := prog_7_method_1_code
def yX5_init : MethodName := ⟨RX5, "<init>", "()V"⟩
abbrev cX5_addFour : ByteArray := prog_7_method_2_code
def yX5_addFour : MethodName := ⟨RX5, "addFour", "(I)Z"⟩
abbrev cX5_read : ByteArray := prog_7_method_3_code
def yX5_read : MethodName := ⟨RX5, "read", "(Ljava/lang/String;LTheyHearLate$Formula;)I"⟩
abbrev cX5_startAnew : ByteArray := prog_7_method_4_code
def yX5_startAnew : MethodName := ⟨RX5, "startAnew", "()V"⟩
abbrev cX5_take : ByteArray := prog_7_method_5_code
def yX5_take : MethodName := ⟨RX5, "take", "(ILjava/lang/String;)Z"⟩
abbrev cX5_takeDigit : ByteArray := prog_7_method_6_code
def yX5_takeDigit : MethodName := ⟨RX5, "takeDigit", "(I)Z"⟩
abbrev cX5_takeAhead : ByteArray := prog_7_method_7_code
def yX5_takeAhead : MethodName := ⟨RX5, "takeAhead", "(ILjava/lang/String;)Z"⟩
abbrev cX5_takeBehind : ByteArray := prog_7_method_8_code
def yX5_takeBehind : MethodName := ⟨RX5, "takeBehind", "(I)Z"⟩
abbrev cX5_open : ByteArray := prog_7_method_9_code
def yX5_open : MethodName := ⟨RX5, "open", "()Z"⟩
abbrev cX5_close : ByteArray := prog_7_method_10_code
def yX5_close : MethodName := ⟨RX5, "close", "()Z"⟩
abbrev cX5_finishNumber : ByteArray := prog_7_method_11_code
def yX5_finishNumber : MethodName := ⟨RX5, "finishNumber", "()V"⟩
abbrev cX5_putOff : ByteArray := prog_7_method_12_code
def yX5_putOff : MethodName := ⟨RX5, "putOff", "(I)V"⟩
abbrev cX5_finishDownTo : ByteArray := prog_7_method_13_code
def yX5_finishDownTo : MethodName := ⟨RX5, "finishDownTo", "(I)V"⟩
abbrev cX5_rankOf : ByteArray := prog_7_method_14_code
def yX5_rankOf : MethodName := ⟨RX5, "rankOf", "(I)I"⟩
def RX6 : String := "TheyHearLate$Sway"
def TX6 : u_T := fun k => match k with
  | 0 => ("TheyHearLate$Sway", "numbers", "[I", true)
  | _ => ("TheyHearLate$Sway", "last", "I", false)
def tyX6 : Nat → FieldType := fun k => match k with
  | 0 => .array .int
  | _ => .int
abbrev wsX60 : List Cond := u_ws RX6 TX6 2
theorem nmX6 : ∀ a, a < 2 → ∀ b, b < 2 → a ≠ b → (TX6 a).2.1 ≠ (TX6 b).2.1 := by decide +kernel
theorem tyX6_ok : ∀ k, k < 2 → parseFieldDescriptor (TX6 k).2.2.1 = some (tyX6 k) := by decide +kernel
abbrev cX6_init : ByteArray := prog_8_method_1_code
def yX6_init : MethodName := ⟨RX6, "<init>", "()V"⟩
abbrev cX6_swing : ByteArray := prog_8_method_2_code
def yX6_swing : MethodName := ⟨RX6, "swing", "(IIII)V"⟩
abbrev cX6_widest : ByteArray := prog_8_method_3_code
def yX6_widest : MethodName := ⟨RX6, "widest", "(II)I"⟩
abbrev cX6_turns : ByteArray := prog_8_method_4_code
def yX6_turns : MethodName := ⟨RX6, "turns", "()I"⟩
abbrev cX6_calmFrom : ByteArray := prog_8_method_5_code
def yX6_calmFrom : MethodName := ⟨RX6, "calmFrom", "()I"⟩
def RX7 : String := "TheyHearLate$Told"
def TX7 : u_T := fun k => match k with
  | 0 => ("TheyHearLate$Told", "numbers", "[J", true)
  | _ => ("TheyHearLate$Told", "size", "I", false)
def tyX7 : Nat → FieldType := fun k => match k with
  | 0 => .array .long
  | _ => .int
abbrev wsX70 : List Cond := u_ws RX7 TX7 2
theorem nmX7 : ∀ a, a < 2 → ∀ b, b < 2 → a ≠ b → (TX7 a).2.1 ≠ (TX7 b).2.1 := by decide +kernel
theorem tyX7_ok : ∀ k, k < 2 → parseFieldDescriptor (TX7 k).2.2.1 = some (tyX7 k) := by decide +kernel
abbrev cX7_init : ByteArray := prog_9_method_1_code
def yX7_init : MethodName := ⟨RX7, "<init>", "()V"⟩
abbrev cX7_clear : ByteArray := prog_9_method_2_code
def yX7_clear : MethodName := ⟨RX7, "clear", "()V"⟩
abbrev cX7_add : ByteArray := prog_9_method_3_code
def yX7_add : MethodName := ⟨RX7, "add", "(J)V"⟩
abbrev cX7_tellOne : ByteArray := prog_9_method_4_code
def yX7_tellOne : MethodName := ⟨RX7, "tellOne", "(J)V"⟩
abbrev cX7_tellTwo : ByteArray := prog_9_method_5_code
def yX7_tellTwo : MethodName := ⟨RX7, "tellTwo", "(JJ)V"⟩
abbrev cX7_tellThree : ByteArray := prog_9_method_6_code
def yX7_tellThree : MethodName := ⟨RX7, "tellThree", "(JJJ)V"⟩
abbrev cX7_tellFraction : ByteArray := prog_9_method_7_code
def yX7_tellFraction : MethodName := ⟨RX7, "tellFraction", "(JJ)V"⟩
def RX8 : String := "TheyHearLate$Words"
def TX8 : u_T := fun k => match k with
  | 0 => ("TheyHearLate$Words", "fewest", "[I", true)
  | 1 => ("TheyHearLate$Words", "way", "[I", true)
  | _ => ("TheyHearLate$Words", "passing", "I", false)
def tyX8 : Nat → FieldType := fun k => match k with
  | 0 => .array .int
  | 1 => .array .int
  | _ => .int
abbrev wsX80 : List Cond := u_ws RX8 TX8 3
theorem nmX8 : ∀ a, a < 3 → ∀ b, b < 3 → a ≠ b → (TX8 a).2.1 ≠ (TX8 b).2.1 := by decide +kernel
theorem tyX8_ok : ∀ k, k < 3 → parseFieldDescriptor (TX8 k).2.2.1 = some (tyX8 k) := by decide +kernel
abbrev cX8_init : ByteArray := prog_10_method_1_code
def yX8_init : MethodName := ⟨RX8, "<init>", "()V"⟩
abbrev cX8_minutes : ByteArray := prog_10_method_2_code
def yX8_minutes : MethodName := ⟨RX8, "minutes", "(LTheyHearLate$Yard;II)I"⟩
abbrev cX8_measure : ByteArray := prog_10_method_3_code
def yX8_measure : MethodName := ⟨RX8, "measure", "(LTheyHearLate$Yard;I)V"⟩
abbrev cX8_minutesBy : ByteArray := prog_10_method_4_code
def yX8_minutesBy : MethodName := ⟨RX8, "minutesBy", "(LTheyHearLate$Yard;III)I"⟩
abbrev cX8_findWay : ByteArray := prog_10_method_5_code
def yX8_findWay : MethodName := ⟨RX8, "findWay", "(LTheyHearLate$Yard;I)V"⟩
def RX9 : String := "TheyHearLate$Yard"
def TX9 : u_T := fun k => match k with
  | 0 => ("TheyHearLate$Yard", "people", "[LTheyHearLate$Person;", true)
  | 1 => ("TheyHearLate$Yard", "size", "I", false)
  | 2 => ("TheyHearLate$Yard", "formulas", "[LTheyHearLate$Formula;", true)
  | 3 => ("TheyHearLate$Yard", "doing", "[I", true)
  | 4 => ("TheyHearLate$Yard", "due", "I", false)
  | 5 => ("TheyHearLate$Yard", "down", "I", false)
  | 6 => ("TheyHearLate$Yard", "up", "I", false)
  | _ => ("TheyHearLate$Yard", "seen", "[I", true)
def tyX9 : Nat → FieldType := fun k => match k with
  | 0 => .array (.object "TheyHearLate$Person")
  | 1 => .int
  | 2 => .array (.object "TheyHearLate$Formula")
  | 3 => .array .int
  | 4 => .int
  | 5 => .int
  | 6 => .int
  | _ => .array .int
abbrev wsX90 : List Cond := u_ws RX9 TX9 8
theorem nmX9 : ∀ a, a < 8 → ∀ b, b < 8 → a ≠ b → (TX9 a).2.1 ≠ (TX9 b).2.1 := by decide +kernel
theorem tyX9_ok : ∀ k, k < 8 → parseFieldDescriptor (TX9 k).2.2.1 = some (tyX9 k) := by decide +kernel
abbrev cX9_init : ByteArray := prog_11_method_1_code
def yX9_init : MethodName := ⟨RX9, "<init>", "()V"⟩
abbrev cX9_has : ByteArray := prog_11_method_2_code
def yX9_has : MethodName := ⟨RX9, "has", "(I)Z"⟩
abbrev cX9_hasTwo : ByteArray := prog_11_method_3_code
def yX9_hasTwo : MethodName := ⟨RX9, "hasTwo", "(II)Z"⟩
abbrev cX9_isNear : ByteArray := prog_11_method_4_code
def yX9_isNear : MethodName := ⟨RX9, "isNear", "(II)Z"⟩
abbrev cX9_isSeen : ByteArray := prog_11_method_5_code
def yX9_isSeen : MethodName := ⟨RX9, "isSeen", "(II)Z"⟩
abbrev cX9_isDeed : ByteArray := prog_11_method_6_code
def yX9_isDeed : MethodName := ⟨RX9, "isDeed", "(I)Z"⟩
abbrev cX9_toldRules : ByteArray := prog_11_method_7_code
def yX9_toldRules : MethodName := ⟨RX9, "toldRules", "()I"⟩
abbrev cX9_look : ByteArray := prog_11_method_8_code
def yX9_look : MethodName := ⟨RX9, "look", "(LTheyHearLate$Course;I)V"⟩
abbrev cX9_hears : ByteArray := prog_11_method_9_code
def yX9_hears : MethodName := ⟨RX9, "hears", "(LTheyHearLate$Course;I)I"⟩
abbrev cX9_deed : ByteArray := prog_11_method_10_code
def yX9_deed : MethodName := ⟨RX9, "deed", "(I)I"⟩
abbrev cX9_speech : ByteArray := prog_11_method_11_code
def yX9_speech : MethodName := ⟨RX9, "speech", "(I)I"⟩
abbrev cX9_pass : ByteArray := prog_11_method_12_code
def yX9_pass : MethodName := ⟨RX9, "pass", "(LTheyHearLate$Course;I)V"⟩
abbrev cX9_wind : ByteArray := prog_11_method_13_code
def yX9_wind : MethodName := ⟨RX9, "wind", "(LTheyHearLate$Course;)I"⟩
def RX10 : String := "TheyHearLate"
def TX10 : u_T := fun k => match k with
  | 0 => ("TheyHearLate", "yard", "LTheyHearLate$Yard;", true)
  | 1 => ("TheyHearLate", "course", "LTheyHearLate$Course;", true)
  | 2 => ("TheyHearLate", "trial", "LTheyHearLate$Course;", true)
  | 3 => ("TheyHearLate", "kept", "[LTheyHearLate$Course;", true)
  | 4 => ("TheyHearLate", "reader", "LTheyHearLate$Reader;", true)
  | 5 => ("TheyHearLate", "told", "LTheyHearLate$Told;", true)
  | 6 => ("TheyHearLate", "words", "LTheyHearLate$Words;", true)
  | 7 => ("TheyHearLate", "helm", "LTheyHearLate$Helm;", true)
  | 8 => ("TheyHearLate", "sway", "LTheyHearLate$Sway;", true)
  | _ => ("TheyHearLate", "match", "LTheyHearLate$Match;", true)
def tyX10 : Nat → FieldType := fun k => match k with
  | 0 => .object "TheyHearLate$Yard"
  | 1 => .object "TheyHearLate$Course"
  | 2 => .object "TheyHearLate$Course"
  | 3 => .array (.object "TheyHearLate$Course")
  | 4 => .object "TheyHearLate$Reader"
  | 5 => .object "TheyHearLate$Told"
  | 6 => .object "TheyHearLate$Words"
  | 7 => .object "TheyHearLate$Helm"
  | 8 => .object "TheyHearLate$Sway"
  | _ => .object "TheyHearLate$Match"
abbrev wsX100 : List Cond := u_ws RX10 TX10 10
theorem nmX10 : ∀ a, a < 10 → ∀ b, b < 10 → a ≠ b → (TX10 a).2.1 ≠ (TX10 b).2.1 := by decide +kernel
theorem tyX10_ok : ∀ k, k < 10 → parseFieldDescriptor (TX10 k).2.2.1 = some (tyX10 k) := by decide +kernel
abbrev cX10_init : ByteArray := prog_1_method_1_code
def yX10_init : MethodName := ⟨RX10, "<init>", "()V"⟩
abbrev cX10_person : ByteArray := prog_1_method_2_code
def yX10_person : MethodName := ⟨RX10, "person", "(III)I"⟩
abbrev cX10_set : ByteArray := prog_1_method_3_code
def yX10_set : MethodName := ⟨RX10, "set", "(III)I"⟩
abbrev cX10_link : ByteArray := prog_1_method_4_code
def yX10_link : MethodName := ⟨RX10, "link", "(IIIZ)Z"⟩
abbrev cX10_beam : ByteArray := prog_1_method_5_code
def yX10_beam : MethodName := ⟨RX10, "beam", "(II)I"⟩
abbrev cX10_sheet : ByteArray := prog_1_method_6_code
def yX10_sheet : MethodName := ⟨RX10, "sheet", "(IIII)I"⟩
abbrev cX10_sign : ByteArray := prog_1_method_7_code
def yX10_sign : MethodName := ⟨RX10, "sign", "(I)I"⟩
abbrev cX10_end : ByteArray := prog_1_method_8_code
def yX10_end : MethodName := ⟨RX10, "end", "(I)Z"⟩
abbrev cX10_rule : ByteArray := prog_1_method_9_code
def yX10_rule : MethodName := ⟨RX10, "rule", "(I)I"⟩
abbrev cX10_does : ByteArray := prog_1_method_10_code
def yX10_does : MethodName := ⟨RX10, "does", "(II)I"⟩
abbrev cX10_go : ByteArray := prog_1_method_11_code
def yX10_go : MethodName := ⟨RX10, "go", "(I)I"⟩
abbrev cX10_begin : ByteArray := prog_1_method_12_code
def yX10_begin : MethodName := ⟨RX10, "begin", "()Z"⟩
abbrev cX10_place : ByteArray := prog_1_method_13_code
def yX10_place : MethodName := ⟨RX10, "place", "(I)I"⟩
abbrev cX10_was : ByteArray := prog_1_method_14_code
def yX10_was : MethodName := ⟨RX10, "was", "(III)I"⟩
abbrev cX10_cost : ByteArray := prog_1_method_15_code
def yX10_cost : MethodName := ⟨RX10, "cost", "()I"⟩
abbrev cX10_crossed : ByteArray := prog_1_method_16_code
def yX10_crossed : MethodName := ⟨RX10, "crossed", "()I"⟩
abbrev cX10_by : ByteArray := prog_1_method_17_code
def yX10_by : MethodName := ⟨RX10, "by", "(III)I"⟩
abbrev cX10_would : ByteArray := prog_1_method_18_code
def yX10_would : MethodName := ⟨RX10, "would", "(II)I"⟩
abbrev cX10_rules : ByteArray := prog_1_method_19_code
def yX10_rules : MethodName := ⟨RX10, "rules", "(IIII)I"⟩
abbrev cX10_pair : ByteArray := prog_1_method_20_code
def yX10_pair : MethodName := ⟨RX10, "pair", "(III)I"⟩
abbrev cX10_echo : ByteArray := prog_1_method_21_code
def yX10_echo : MethodName := ⟨RX10, "echo", "(I)I"⟩
abbrev cX10_waits : ByteArray := prog_1_method_22_code
def yX10_waits : MethodName := ⟨RX10, "waits", "(I)I"⟩
abbrev cX10_swings : ByteArray := prog_1_method_23_code
def yX10_swings : MethodName := ⟨RX10, "swings", "()I"⟩
abbrev cX10_steer : ByteArray := prog_1_method_24_code
def yX10_steer : MethodName := ⟨RX10, "steer", "(IIII)I"⟩
abbrev cX10_blind : ByteArray := prog_1_method_25_code
def yX10_blind : MethodName := ⟨RX10, "blind", "(IIII)I"⟩
abbrev cX10_pull : ByteArray := prog_1_method_26_code
def yX10_pull : MethodName := ⟨RX10, "pull", "(IIII)I"⟩
abbrev cX10_edge : ByteArray := prog_1_method_27_code
def yX10_edge : MethodName := ⟨RX10, "edge", "(I)I"⟩
abbrev cX10_gentle : ByteArray := prog_1_method_28_code
def yX10_gentle : MethodName := ⟨RX10, "gentle", "(II)I"⟩
abbrev cX10_weight : ByteArray := prog_1_method_29_code
def yX10_weight : MethodName := ⟨RX10, "weight", "(III)I"⟩
abbrev cX10_pays : ByteArray := prog_1_method_30_code
def yX10_pays : MethodName := ⟨RX10, "pays", "()I"⟩
abbrev cX10_two : ByteArray := prog_1_method_31_code
def yX10_two : MethodName := ⟨RX10, "two", "()J"⟩
abbrev cX10_stand : ByteArray := prog_1_method_32_code
def yX10_stand : MethodName := ⟨RX10, "stand", "(II)I"⟩
abbrev cX10_gap : ByteArray := prog_1_method_33_code
def yX10_gap : MethodName := ⟨RX10, "gap", "()J"⟩
abbrev cX10_says : ByteArray := prog_1_method_34_code
def yX10_says : MethodName := ⟨RX10, "says", "(II)I"⟩
abbrev cX10_soon : ByteArray := prog_1_method_35_code
def yX10_soon : MethodName := ⟨RX10, "soon", "(II)I"⟩
abbrev cX10_know : ByteArray := prog_1_method_36_code
def yX10_know : MethodName := ⟨RX10, "know", "(III)I"⟩
abbrev cX10_crier : ByteArray := prog_1_method_37_code
def yX10_crier : MethodName := ⟨RX10, "crier", "()I"⟩
abbrev cX10_deaf : ByteArray := prog_1_method_38_code
def yX10_deaf : MethodName := ⟨RX10, "deaf", "(I)I"⟩
abbrev cX10_warn : ByteArray := prog_1_method_39_code
def yX10_warn : MethodName := ⟨RX10, "warn", "(IIIII)I"⟩
abbrev cX10_fog : ByteArray := prog_1_method_40_code
def yX10_fog : MethodName := ⟨RX10, "fog", "(IIII)Z"⟩
abbrev cX10_chance : ByteArray := prog_1_method_41_code
def yX10_chance : MethodName := ⟨RX10, "chance", "(III)I"⟩
abbrev cX10_sure : ByteArray := prog_1_method_42_code
def yX10_sure : MethodName := ⟨RX10, "sure", "(III)I"⟩
abbrev cX10_seed : ByteArray := prog_1_method_43_code
def yX10_seed : MethodName := ⟨RX10, "seed", "(I)I"⟩
abbrev cX10_keep : ByteArray := prog_1_method_44_code
def yX10_keep : MethodName := ⟨RX10, "keep", "(I)Z"⟩
abbrev cX10_again : ByteArray := prog_1_method_45_code
def yX10_again : MethodName := ⟨RX10, "again", "(I)Z"⟩
abbrev cX10_count : ByteArray := prog_1_method_46_code
def yX10_count : MethodName := ⟨RX10, "count", "(I)I"⟩
abbrev cX10_row : ByteArray := prog_1_method_47_code
def yX10_row : MethodName := ⟨RX10, "row", "(I)J"⟩
abbrev cX10_isWithin : ByteArray := prog_1_method_48_code
def yX10_isWithin : MethodName := ⟨RX10, "isWithin", "(III)Z"⟩
abbrev cX10_putTo : ByteArray := prog_1_method_49_code
def yX10_putTo : MethodName := ⟨RX10, "putTo", "(II)I"⟩
abbrev cX10_withBit : ByteArray := prog_1_method_50_code
def yX10_withBit : MethodName := ⟨RX10, "withBit", "(IIZ)I"⟩
abbrev cX10_hasBit : ByteArray := prog_1_method_51_code
def yX10_hasBit : MethodName := ⟨RX10, "hasBit", "(II)Z"⟩
abbrev cX10_powerOfTen : ByteArray := prog_1_method_52_code
def yX10_powerOfTen : MethodName := ⟨RX10, "powerOfTen", "(I)J"⟩
abbrev cX10_sheetEntry : ByteArray := prog_1_method_53_code
def yX10_sheetEntry : MethodName := ⟨RX10, "sheetEntry", "(II)I"⟩
abbrev cX10_canSteer : ByteArray := prog_1_method_54_code
def yX10_canSteer : MethodName := ⟨RX10, "canSteer", "(IIII)Z"⟩
abbrev cX10_isRuleNumber : ByteArray := prog_1_method_55_code
def yX10_isRuleNumber : MethodName := ⟨RX10, "isRuleNumber", "(I)Z"⟩
abbrev cX10_tryOut : ByteArray := prog_1_method_56_code
def yX10_tryOut : MethodName := ⟨RX10, "tryOut", "(II)I"⟩
abbrev cX10_doneByAll : ByteArray := prog_1_method_57_code
def yX10_doneByAll : MethodName := ⟨RX10, "doneByAll", "(I)I"⟩
abbrev cX10_sameMinute : ByteArray := prog_1_method_58_code
def yX10_sameMinute : MethodName := ⟨RX10, "sameMinute", "(II)I"⟩
abbrev cX10_saidTooSoon : ByteArray := prog_1_method_59_code
def yX10_saidTooSoon : MethodName := ⟨RX10, "saidTooSoon", "(II)I"⟩
abbrev cX10_heardByAll : ByteArray := prog_1_method_60_code
def yX10_heardByAll : MethodName := ⟨RX10, "heardByAll", "(I)I"⟩
abbrev cX10_answeredOfHundred : ByteArray := prog_1_method_61_code
def yX10_answeredOfHundred : MethodName := ⟨RX10, "answeredOfHundred", "(III)I"⟩
def RX11 : String := "TheyHearLateModel"
def TX11 : u_T := fun k => match k with
  | 0 => ("TheyHearLateModel", "thrown", "I", false)
  | 1 => ("TheyHearLateModel", "rows", "I", false)
  | 2 => ("TheyHearLateModel", "row", "[J", true)
  | 3 => ("TheyHearLateModel", "people", "I", false)
  | 4 => ("TheyHearLateModel", "late", "[I", true)
  | 5 => ("TheyHearLateModel", "sight", "[I", true)
  | 6 => ("TheyHearLateModel", "thinks", "[I", true)
  | 7 => ("TheyHearLateModel", "near", "[I", true)
  | 8 => ("TheyHearLateModel", "sees", "[I", true)
  | 9 => ("TheyHearLateModel", "start", "I", false)
  | 10 => ("TheyHearLateModel", "due", "I", false)
  | 11 => ("TheyHearLateModel", "down", "I", false)
  | 12 => ("TheyHearLateModel", "up", "I", false)
  | 13 => ("TheyHearLateModel", "code", "[I", true)
  | 14 => ("TheyHearLateModel", "codes", "[I", true)
  | 15 => ("TheyHearLateModel", "stack", "[I", true)
  | 16 => ("TheyHearLateModel", "tape", "[I", true)
  | 17 => ("TheyHearLateModel", "taped", "I", false)
  | 18 => ("TheyHearLateModel", "at", "I", false)
  | 19 => ("TheyHearLateModel", "to", "I", false)
  | 20 => ("TheyHearLateModel", "nest", "I", false)
  | 21 => ("TheyHearLateModel", "signs", "Ljava/lang/String;", false)
  | 22 => ("TheyHearLateModel", "signAt", "[I", true)
  | 23 => ("TheyHearLateModel", "now", "I", false)
  | 24 => ("TheyHearLateModel", "random", "I", false)
  | 25 => ("TheyHearLateModel", "place", "[I", true)
  | 26 => ("TheyHearLateModel", "gone", "[I", true)
  | 27 => ("TheyHearLateModel", "instead", "[I", true)
  | 28 => ("TheyHearLateModel", "goneThen", "[I", true)
  | 29 => ("TheyHearLateModel", "placeThen", "[I", true)
  | 30 => ("TheyHearLateModel", "nowThen", "I", false)
  | 31 => ("TheyHearLateModel", "randomThen", "I", false)
  | 32 => ("TheyHearLateModel", "endPlace", "I", false)
  | 33 => ("TheyHearLateModel", "hope", "[J", false)
  | 34 => ("TheyHearLateModel", "hopeNext", "[J", false)
  | 35 => ("TheyHearLateModel", "winds", "[J", true)
  | 36 => ("TheyHearLateModel", "windsNext", "[J", true)
  | 37 => ("TheyHearLateModel", "firstThing", "I", false)
  | 38 => ("TheyHearLateModel", "pulled", "[I", true)
  | 39 => ("TheyHearLateModel", "weights", "[I", true)
  | 40 => ("TheyHearLateModel", "bestOne", "I", false)
  | 41 => ("TheyHearLateModel", "bestOther", "I", false)
  | 42 => ("TheyHearLateModel", "standOne", "I", false)
  | 43 => ("TheyHearLateModel", "standOther", "I", false)
  | 44 => ("TheyHearLateModel", "far", "[I", true)
  | 45 => ("TheyHearLateModel", "fogA", "[I", true)
  | 46 => ("TheyHearLateModel", "fogB", "[I", true)
  | 47 => ("TheyHearLateModel", "fogC", "[I", true)
  | 48 => ("TheyHearLateModel", "kept", "[I", true)
  | 49 => ("TheyHearLateModel", "isKept", "[Z", true)
  | 50 => ("TheyHearLateModel", "keptPeople", "[I", true)
  | 51 => ("TheyHearLateModel", "keptNow", "[I", true)
  | 52 => ("TheyHearLateModel", "keptStart", "[I", true)
  | _ => ("TheyHearLateModel", "keptRandom", "[I", true)
def tyX11 : Nat → FieldType := fun k => match k with
  | 0 => .int
  | 1 => .int
  | 2 => .array .long
  | 3 => .int
  | 4 => .array .int
  | 5 => .array .int
  | 6 => .array .int
  | 7 => .array .int
  | 8 => .array .int
  | 9 => .int
  | 10 => .int
  | 11 => .int
  | 12 => .int
  | 13 => .array .int
  | 14 => .array .int
  | 15 => .array .int
  | 16 => .array .int
  | 17 => .int
  | 18 => .int
  | 19 => .int
  | 20 => .int
  | 21 => .object "java/lang/String"
  | 22 => .array .int
  | 23 => .int
  | 24 => .int
  | 25 => .array .int
  | 26 => .array .int
  | 27 => .array .int
  | 28 => .array .int
  | 29 => .array .int
  | 30 => .int
  | 31 => .int
  | 32 => .int
  | 33 => .array .long
  | 34 => .array .long
  | 35 => .array .long
  | 36 => .array .long
  | 37 => .int
  | 38 => .array .int
  | 39 => .array .int
  | 40 => .int
  | 41 => .int
  | 42 => .int
  | 43 => .int
  | 44 => .array .int
  | 45 => .array .int
  | 46 => .array .int
  | 47 => .array .int
  | 48 => .array .int
  | 49 => .array .boolean
  | 50 => .array .int
  | 51 => .array .int
  | 52 => .array .int
  | _ => .array .int
abbrev wsX110 : List Cond := u_ws RX11 TX11 54
theorem nmX11 : ∀ a, a < 54 → ∀ b, b < 54 → a ≠ b → (TX11 a).2.1 ≠ (TX11 b).2.1 := by decide +kernel
theorem tyX11_ok : ∀ k, k < 54 → parseFieldDescriptor (TX11 k).2.2.1 = some (tyX11 k) := by decide +kernel
abbrev cX11_thrown : ByteArray := prog_13_method_1_code
def yX11_thrown : MethodName := ⟨RX11, "thrown", "()I"⟩
abbrev cX11_refuse : ByteArray := prog_13_method_2_code
def yX11_refuse : MethodName := ⟨RX11, "refuse", "()I"⟩
abbrev cX11_in : ByteArray := prog_13_method_3_code
def yX11_in : MethodName := ⟨RX11, "in", "(JJJ)Z"⟩
abbrev cX11_has : ByteArray := prog_13_method_4_code
def yX11_has : MethodName := ⟨RX11, "has", "(II)Z"⟩
abbrev cX11_flag : ByteArray := prog_13_method_5_code
def yX11_flag : MethodName := ⟨RX11, "flag", "(Z)I"⟩
abbrev cX11_put : ByteArray := prog_13_method_6_code
def yX11_put : MethodName := ⟨RX11, "put", "(II)I"⟩
abbrev cX11_enters : ByteArray := prog_13_method_7_code
def yX11_enters : MethodName := ⟨RX11, "enters", "(J)V"⟩
abbrev cX11_common : ByteArray := prog_13_method_8_code
def yX11_common : MethodName := ⟨RX11, "common", "(JJ)J"⟩
abbrev cX11_entersFraction : ByteArray := prog_13_method_9_code
def yX11_entersFraction : MethodName := ⟨RX11, "entersFraction", "(JJ)V"⟩
abbrev cX11_isPerson : ByteArray := prog_13_method_10_code
def yX11_isPerson : MethodName := ⟨RX11, "isPerson", "(I)Z"⟩
abbrev cX11_arePair : ByteArray := prog_13_method_11_code
def yX11_arePair : MethodName := ⟨RX11, "arePair", "(II)Z"⟩
abbrev cX11_mostOf : ByteArray := prog_13_method_12_code
def yX11_mostOf : MethodName := ⟨RX11, "mostOf", "(I)I"⟩
abbrev cX11_person : ByteArray := prog_13_method_13_code
def yX11_person : MethodName := ⟨RX11, "person", "(III)I"⟩
abbrev cX11_set : ByteArray := prog_13_method_14_code
def yX11_set : MethodName := ⟨RX11, "set", "(III)I"⟩
abbrev cX11_with : ByteArray := prog_13_method_15_code
def yX11_with : MethodName := ⟨RX11, "with", "(IIZ)I"⟩
abbrev cX11_link : ByteArray := prog_13_method_16_code
def yX11_link : MethodName := ⟨RX11, "link", "(IIIZ)Z"⟩
abbrev cX11_beam : ByteArray := prog_13_method_17_code
def yX11_beam : MethodName := ⟨RX11, "beam", "(II)I"⟩
abbrev cX11_sheet : ByteArray := prog_13_method_18_code
def yX11_sheet : MethodName := ⟨RX11, "sheet", "(IIII)I"⟩
abbrev cX11_sign : ByteArray := prog_13_method_19_code
def yX11_sign : MethodName := ⟨RX11, "sign", "(I)I"⟩
abbrev cX11_end : ByteArray := prog_13_method_20_code
def yX11_end : MethodName := ⟨RX11, "end", "(I)Z"⟩
abbrev cX11_isDigit : ByteArray := prog_13_method_21_code
def yX11_isDigit : MethodName := ⟨RX11, "isDigit", "()Z"⟩
abbrev cX11_among : ByteArray := prog_13_method_22_code
def yX11_among : MethodName := ⟨RX11, "among", "(Ljava/lang/String;)I"⟩
abbrev cX11_marks : ByteArray := prog_13_method_23_code
def yX11_marks : MethodName := ⟨RX11, "marks", "(I)V"⟩
abbrev cX11_thing : ByteArray := prog_13_method_24_code
def yX11_thing : MethodName := ⟨RX11, "thing", "()Z"⟩
abbrev cX11_ahead : ByteArray := prog_13_method_25_code
def yX11_ahead : MethodName := ⟨RX11, "ahead", "()Z"⟩
abbrev cX11_ranked : ByteArray := prog_13_method_26_code
def yX11_ranked : MethodName := ⟨RX11, "ranked", "(I)Z"⟩
abbrev cX11_reads : ByteArray := prog_13_method_27_code
def yX11_reads : MethodName := ⟨RX11, "reads", "(ILjava/lang/String;)I"⟩
abbrev cX11_rule : ByteArray := prog_13_method_28_code
def yX11_rule : MethodName := ⟨RX11, "rule", "(I)I"⟩
abbrev cX11_pays : ByteArray := prog_13_method_29_code
def yX11_pays : MethodName := ⟨RX11, "pays", "()I"⟩
abbrev cX11_acted : ByteArray := prog_13_method_30_code
def yX11_acted : MethodName := ⟨RX11, "acted", "(III)I"⟩
abbrev cX11_worked : ByteArray := prog_13_method_31_code
def yX11_worked : MethodName := ⟨RX11, "worked", "(I)I"⟩
abbrev cX11_indexOf : ByteArray := prog_13_method_32_code
def yX11_indexOf : MethodName := ⟨RX11, "indexOf", "(III)I"⟩
abbrev cX11_wasOf : ByteArray := prog_13_method_33_code
def yX11_wasOf : MethodName := ⟨RX11, "wasOf", "(III)I"⟩
abbrev cX11_placeAt : ByteArray := prog_13_method_34_code
def yX11_placeAt : MethodName := ⟨RX11, "placeAt", "(I)I"⟩
abbrev cX11_lateOf : ByteArray := prog_13_method_35_code
def yX11_lateOf : MethodName := ⟨RX11, "lateOf", "(I)I"⟩
abbrev cX11_heardBy : ByteArray := prog_13_method_36_code
def yX11_heardBy : MethodName := ⟨RX11, "heardBy", "(II)I"⟩
abbrev cX11_looks : ByteArray := prog_13_method_37_code
def yX11_looks : MethodName := ⟨RX11, "looks", "(II)V"⟩
abbrev cX11_doesNow : ByteArray := prog_13_method_38_code
def yX11_doesNow : MethodName := ⟨RX11, "doesNow", "(III)I"⟩
abbrev cX11_draws : ByteArray := prog_13_method_39_code
def yX11_draws : MethodName := ⟨RX11, "draws", "(I)I"⟩
abbrev cX11_blows : ByteArray := prog_13_method_40_code
def yX11_blows : MethodName := ⟨RX11, "blows", "()I"⟩
abbrev cX11_passes : ByteArray := prog_13_method_41_code
def yX11_passes : MethodName := ⟨RX11, "passes", "()V"⟩
abbrev cX11_does : ByteArray := prog_13_method_42_code
def yX11_does : MethodName := ⟨RX11, "does", "(II)I"⟩
abbrev cX11_go : ByteArray := prog_13_method_43_code
def yX11_go : MethodName := ⟨RX11, "go", "(I)I"⟩
abbrev cX11_begins : ByteArray := prog_13_method_44_code
def yX11_begins : MethodName := ⟨RX11, "begins", "()V"⟩
abbrev cX11_begin : ByteArray := prog_13_method_45_code
def yX11_begin : MethodName := ⟨RX11, "begin", "()Z"⟩
abbrev cX11_place : ByteArray := prog_13_method_46_code
def yX11_place : MethodName := ⟨RX11, "place", "(I)I"⟩
abbrev cX11_was : ByteArray := prog_13_method_47_code
def yX11_was : MethodName := ⟨RX11, "was", "(III)I"⟩
abbrev cX11_costNow : ByteArray := prog_13_method_48_code
def yX11_costNow : MethodName := ⟨RX11, "costNow", "()I"⟩
abbrev cX11_cost : ByteArray := prog_13_method_49_code
def yX11_cost : MethodName := ⟨RX11, "cost", "()I"⟩
abbrev cX11_crossed : ByteArray := prog_13_method_50_code
def yX11_crossed : MethodName := ⟨RX11, "crossed", "()I"⟩
abbrev cX11_by : ByteArray := prog_13_method_51_code
def yX11_by : MethodName := ⟨RX11, "by", "(III)I"⟩
abbrev cX11_putsBy : ByteArray := prog_13_method_52_code
def yX11_putsBy : MethodName := ⟨RX11, "putsBy", "()V"⟩
abbrev cX11_takesBack : ByteArray := prog_13_method_53_code
def yX11_takesBack : MethodName := ⟨RX11, "takesBack", "()V"⟩
abbrev cX11_costs : ByteArray := prog_13_method_54_code
def yX11_costs : MethodName := ⟨RX11, "costs", "(II)I"⟩
abbrev cX11_would : ByteArray := prog_13_method_55_code
def yX11_would : MethodName := ⟨RX11, "would", "(II)I"⟩
abbrev cX11_rules : ByteArray := prog_13_method_56_code
def yX11_rules : MethodName := ⟨RX11, "rules", "(IIII)I"⟩
abbrev cX11_pair : ByteArray := prog_13_method_57_code
def yX11_pair : MethodName := ⟨RX11, "pair", "(III)I"⟩
abbrev cX11_echo : ByteArray := prog_13_method_58_code
def yX11_echo : MethodName := ⟨RX11, "echo", "(I)I"⟩
abbrev cX11_waits : ByteArray := prog_13_method_59_code
def yX11_waits : MethodName := ⟨RX11, "waits", "(I)I"⟩
abbrev cX11_swings : ByteArray := prog_13_method_60_code
def yX11_swings : MethodName := ⟨RX11, "swings", "()I"⟩
abbrev cX11_sumsWinds : ByteArray := prog_13_method_61_code
def yX11_sumsWinds : MethodName := ⟨RX11, "sumsWinds", "(I)V"⟩
abbrev cX11_costOf : ByteArray := prog_13_method_62_code
def yX11_costOf : MethodName := ⟨RX11, "costOf", "(I)J"⟩
abbrev cX11_then : ByteArray := prog_13_method_63_code
def yX11_then : MethodName := ⟨RX11, "then", "(I)J"⟩
abbrev cX11_steers : ByteArray := prog_13_method_64_code
def yX11_steers : MethodName := ⟨RX11, "steers", "(IIII)J"⟩
abbrev cX11_isSteering : ByteArray := prog_13_method_65_code
def yX11_isSteering : MethodName := ⟨RX11, "isSteering", "(IIII)Z"⟩
abbrev cX11_steer : ByteArray := prog_13_method_66_code
def yX11_steer : MethodName := ⟨RX11, "steer", "(IIII)I"⟩
abbrev cX11_power : ByteArray := prog_13_method_67_code
def yX11_power : MethodName := ⟨RX11, "power", "(JI)J"⟩
abbrev cX11_blind : ByteArray := prog_13_method_68_code
def yX11_blind : MethodName := ⟨RX11, "blind", "(IIII)I"⟩
abbrev cX11_pulls : ByteArray := prog_13_method_69_code
def yX11_pulls : MethodName := ⟨RX11, "pulls", "(IIII)V"⟩
abbrev cX11_greatest : ByteArray := prog_13_method_70_code
def yX11_greatest : MethodName := ⟨RX11, "greatest", "(II)I"⟩
abbrev cX11_calm : ByteArray := prog_13_method_71_code
def yX11_calm : MethodName := ⟨RX11, "calm", "(I)I"⟩
abbrev cX11_pull : ByteArray := prog_13_method_72_code
def yX11_pull : MethodName := ⟨RX11, "pull", "(IIII)I"⟩
abbrev cX11_edge : ByteArray := prog_13_method_73_code
def yX11_edge : MethodName := ⟨RX11, "edge", "(I)I"⟩
abbrev cX11_gentle : ByteArray := prog_13_method_74_code
def yX11_gentle : MethodName := ⟨RX11, "gentle", "(II)I"⟩
abbrev cX11_weight : ByteArray := prog_13_method_75_code
def yX11_weight : MethodName := ⟨RX11, "weight", "(III)I"⟩
abbrev cX11_worth : ByteArray := prog_13_method_76_code
def yX11_worth : MethodName := ⟨RX11, "worth", "(IIII)J"⟩
abbrev cX11_thingOf : ByteArray := prog_13_method_77_code
def yX11_thingOf : MethodName := ⟨RX11, "thingOf", "(II)I"⟩
abbrev cX11_worthOf : ByteArray := prog_13_method_78_code
def yX11_worthOf : MethodName := ⟨RX11, "worthOf", "(II)J"⟩
abbrev cX11_ruleAt : ByteArray := prog_13_method_79_code
def yX11_ruleAt : MethodName := ⟨RX11, "ruleAt", "(I)I"⟩
abbrev cX11_bestOfTwo : ByteArray := prog_13_method_80_code
def yX11_bestOfTwo : MethodName := ⟨RX11, "bestOfTwo", "()J"⟩
abbrev cX11_two : ByteArray := prog_13_method_81_code
def yX11_two : MethodName := ⟨RX11, "two", "()J"⟩
abbrev cX11_partOf : ByteArray := prog_13_method_82_code
def yX11_partOf : MethodName := ⟨RX11, "partOf", "(IIII)J"⟩
abbrev cX11_answers : ByteArray := prog_13_method_83_code
def yX11_answers : MethodName := ⟨RX11, "answers", "(III)I"⟩
abbrev cX11_stands : ByteArray := prog_13_method_84_code
def yX11_stands : MethodName := ⟨RX11, "stands", "(II)I"⟩
abbrev cX11_isStand : ByteArray := prog_13_method_85_code
def yX11_isStand : MethodName := ⟨RX11, "isStand", "(I)Z"⟩
abbrev cX11_stand : ByteArray := prog_13_method_86_code
def yX11_stand : MethodName := ⟨RX11, "stand", "(II)I"⟩
abbrev cX11_gap : ByteArray := prog_13_method_87_code
def yX11_gap : MethodName := ⟨RX11, "gap", "()J"⟩
abbrev cX11_stepTo : ByteArray := prog_13_method_88_code
def yX11_stepTo : MethodName := ⟨RX11, "stepTo", "(II)I"⟩
abbrev cX11_fars : ByteArray := prog_13_method_89_code
def yX11_fars : MethodName := ⟨RX11, "fars", "(I)V"⟩
abbrev cX11_minutesTo : ByteArray := prog_13_method_90_code
def yX11_minutesTo : MethodName := ⟨RX11, "minutesTo", "(II)I"⟩
abbrev cX11_says : ByteArray := prog_13_method_91_code
def yX11_says : MethodName := ⟨RX11, "says", "(II)I"⟩
abbrev cX11_soon : ByteArray := prog_13_method_92_code
def yX11_soon : MethodName := ⟨RX11, "soon", "(II)I"⟩
abbrev cX11_know : ByteArray := prog_13_method_93_code
def yX11_know : MethodName := ⟨RX11, "know", "(III)I"⟩
abbrev cX11_crier : ByteArray := prog_13_method_94_code
def yX11_crier : MethodName := ⟨RX11, "crier", "()I"⟩
abbrev cX11_deaf : ByteArray := prog_13_method_95_code
def yX11_deaf : MethodName := ⟨RX11, "deaf", "(I)I"⟩
abbrev cX11_warn : ByteArray := prog_13_method_96_code
def yX11_warn : MethodName := ⟨RX11, "warn", "(IIIII)I"⟩
abbrev cX11_fog : ByteArray := prog_13_method_97_code
def yX11_fog : MethodName := ⟨RX11, "fog", "(IIII)Z"⟩
abbrev cX11_fogOf : ByteArray := prog_13_method_98_code
def yX11_fogOf : MethodName := ⟨RX11, "fogOf", "(II)I"⟩
abbrev cX11_casesBy : ByteArray := prog_13_method_99_code
def yX11_casesBy : MethodName := ⟨RX11, "casesBy", "(III)I"⟩
abbrev cX11_chance : ByteArray := prog_13_method_100_code
def yX11_chance : MethodName := ⟨RX11, "chance", "(III)I"⟩
abbrev cX11_sure : ByteArray := prog_13_method_101_code
def yX11_sure : MethodName := ⟨RX11, "sure", "(III)I"⟩
abbrev cX11_seed : ByteArray := prog_13_method_102_code
def yX11_seed : MethodName := ⟨RX11, "seed", "(I)I"⟩
abbrev cX11_keep : ByteArray := prog_13_method_103_code
def yX11_keep : MethodName := ⟨RX11, "keep", "(I)Z"⟩
abbrev cX11_again : ByteArray := prog_13_method_104_code
def yX11_again : MethodName := ⟨RX11, "again", "(I)Z"⟩
abbrev cX11_rulesTold : ByteArray := prog_13_method_105_code
def yX11_rulesTold : MethodName := ⟨RX11, "rulesTold", "()I"⟩
abbrev cX11_count : ByteArray := prog_13_method_106_code
def yX11_count : MethodName := ⟨RX11, "count", "(I)I"⟩
abbrev cX11_init : ByteArray := prog_13_method_107_code
def yX11_init : MethodName := ⟨RX11, "<init>", "()V"⟩
abbrev cX11_row : ByteArray := prog_13_method_108_code
def yX11_row : MethodName := ⟨RX11, "row", "(I)J"⟩
def RJ6 : String := "java/lang/Integer"
abbrev cJ6_signum_0f7a4 : ByteArray := prog_19_method_56_code
def yJ6_signum_0f7a4 : MethodName := ⟨RJ6, "signum", "(I)I"⟩
def RJ0 : String := "java/lang/String"
def RL : String := "TheyHearLateLaw"
abbrev cL_does : ByteArray := method_3_code
def yL_does : MethodName := ⟨RL, "does", "(LTheyHearLate;II[J)I"⟩
abbrev cL_go : ByteArray := method_4_code
def yL_go : MethodName := ⟨RL, "go", "(LTheyHearLate;I[J)I"⟩
abbrev cL_place : ByteArray := method_5_code
def yL_place : MethodName := ⟨RL, "place", "(LTheyHearLate;I[J)I"⟩
abbrev cL_was : ByteArray := method_6_code
def yL_was : MethodName := ⟨RL, "was", "(LTheyHearLate;III[J)I"⟩
abbrev cL_row : ByteArray := method_7_code
def yL_row : MethodName := ⟨RL, "row", "(LTheyHearLate;I[J)I"⟩
abbrev cL_law : ByteArray := code
def yL_law : MethodName := ⟨RL, "law", "([I)Z"⟩
abbrev vwCl : List vw_C := [(RX0, TX0, 9), (RX1, TX1, 3), (RX2, TX2, 5), (RX3, TX3, 8), (RX4, TX4, 6), (RX5, TX5, 10), (RX6, TX6, 2), (RX7, TX7, 2), (RX8, TX8, 3), (RX9, TX9, 8), (RX10, TX10, 10), (RX11, TX11, 54)]
end
section
/-! THE ABSTRACT MACHINE: cells by number (a reference is a place in the list of cells), one step of it as what must hold for a goal behind it. -/
abbrev am_E : Type := (Nat × Nat × (Nat → Int32)) ⊕ ((Nat × (Nat → Int64)) ⊕ ((Nat × List (Option Nat)) ⊕ (Nat × List Value)))
abbrev am_G : Type := List am_E
abbrev am_L : Type := List (Option Value)
/-- pc, instruction, next pc, a, b, t, u, place of its word, a number, a long number -/
abbrev am_I : Type := Nat × Instr × Nat × Nat × Nat × Nat × Nat × Nat × Int32 × Int64
/-- name, code, maxLocals, returned, cells and slots made, words and parameters, own class, places of its words, table -/
abbrev am_M : Type := MethodName × ByteArray × Nat × Option FieldType × Nat × Nat × Nat × Nat × List Nat × List (Nat × List am_I)
def am_my (M : am_M) : MethodName := M.1
def am_mb (M : am_M) : ByteArray := M.2.1
def am_mL (M : am_M) : Nat := M.2.2.1
def am_mr (M : am_M) : Option FieldType := M.2.2.2.1
def am_mc (M : am_M) : Nat := M.2.2.2.2.1
def am_ms (M : am_M) : Nat := M.2.2.2.2.2.1
def am_mp (M : am_M) : Nat := M.2.2.2.2.2.2.1
def am_mk (M : am_M) : Nat := M.2.2.2.2.2.2.2.1
def am_mw (M : am_M) : List Nat := M.2.2.2.2.2.2.2.2.1
def am_mt (M : am_M) : List (Nat × List am_I) := M.2.2.2.2.2.2.2.2.2
abbrev am_P : Type := Nat → am_L → List Value → am_G → Nat → Nat → Prop
abbrev am_C : Type := Nat → List Value → am_G → (Option Value → am_G → Prop) → Prop
def am_lk1 : List am_I → Nat → Option am_I
  | [], _ => none
  | e :: t, n => bif Nat.beq e.1 n then some e else am_lk1 t n
def am_lk : List (Nat × List am_I) → Nat → Option am_I
  | [], _ => none
  | c :: t, n => bif Nat.blt n c.1 then am_lk1 c.2 n else am_lk t n
def am_O (ci : Nat) (fs : List Value) : am_E := .inr (.inr (.inr (ci, fs)))
def am_A (t n : Nat) (f : Nat → Int32) : am_E := .inl (t, n, f)
def am_J (n : Nat) (f : Nat → Int64) : am_E := .inr (.inl (n, f))
def am_R (t : Nat) (l : List (Option Nat)) : am_E := .inr (.inr (.inl (t, l)))
/-- what one behind a long loses when another one is stored there -/
def am_clr (L : am_L) (i : Nat) : am_L :=
  match i with
  | 0 => L
  | j + 1 => match L[j]? with
    | some (some (.long _)) => L.set j none
    | _ => L
def am_st1 (L : am_L) (i : Nat) (v : Value) : am_L := (am_clr L i).set i (some v)
def am_st2 (L : am_L) (i : Nat) (v : Value) : am_L := ((am_clr L i).set i (some v)).set (i + 1) none
def am_psh (r : Option Value) (st : List Value) : List Value := match r with
  | none => st
  | some v => v :: st
def am_wfv (n : Nat) (v : Value) : Bool := match v with
  | .ref k => decide (k < n) || decide (1000000 ≤ k)
  | _ => true
def am_wfL (n : Nat) (L : am_L) : Bool := L.all (fun o => match o with
  | none => true
  | some v => am_wfv n v)
def am_wfE (n : Nat) (e : am_E) : Bool := match e with
  | .inr (.inr (.inl (_, l))) => l.all (fun o => match o with
    | none => true
    | some k => decide (k < n) || decide (1000000 ≤ k))
  | .inr (.inr (.inr (_, fs))) => fs.all (am_wfv n)
  | _ => true
def am_wfc (n : Nat) (L : am_L) (st : List Value) : Bool := am_wfL n L && st.all (am_wfv n)
def am_wf (L : am_L) (st : List Value) (G : am_G) : Bool := am_wfc G.length L st && G.all (am_wfE G.length) && decide (G.length < 1000000)
def am_dflt (ty : FieldType) : Value := match ty with
  | .int => .int 0
  | .boolean => .int 0
  | .long => .long 0
  | _ => .null
/-- the fields of a new one, by its class's number -/
def am_dfl (ci : Nat) : List Value := match ci with
  | 0 => [.int 0, .int 0, .int 0, .int 0, .null, .null, .null, .null, .null]
  | 1 => [.null, .int 0, .null]
  | 2 => [.null, .null, .null, .null, .int 0]
  | 3 => [.null, .null, .null, .null, .null, .null, .null, .null]
  | 4 => [.int 0, .int 0, .int 0, .int 0, .int 0, .null]
  | 5 => [.null, .int 0, .null, .null, .int 0, .null, .int 0, .int 0, .int 0, .int 0]
  | 6 => [.null, .int 0]
  | 7 => [.null, .int 0]
  | 8 => [.null, .null, .int 0]
  | 9 => [.null, .int 0, .null, .null, .int 0, .int 0, .int 0, .null]
  | 10 => [.null, .null, .null, .null, .null, .null, .null, .null, .null, .null]
  | _ => (List.range 54).map (fun k => am_dflt (tyX11 k))
def am_newa (t n : Nat) : am_E := match t with
  | 1 => .inr (.inl (n, fun _ => 0))
  | _ => .inl (t, n, fun _ => 0)
def am_rc (t : Nat) : Nat := match t with
  | 3 => 4
  | 4 => 1
  | _ => 0
def am_str (j : Nat) : List Nat := match j with
  | 0 => [116, 121, 120, 118, 104, 97]
  | 1 => [105, 106, 97, 98]
  | 2 => [40]
  | 3 => [41]
  | 4 => [33, 45]
  | 5 => [124]
  | 6 => [38]
  | 7 => [60, 62, 61]
  | 8 => [43, 45]
  | 9 => [42, 47]
  | 10 => [116, 121, 120, 118, 104, 97]
  | _ => [105, 106, 97, 98]
/-- the first place of a sign, from a place on -/
def am_ixo : List Nat → Int32 → Nat → Int32
  | [], _, _ => -1
  | c :: t, x, k => if x = nI c then nI k else am_ixo t x (k + 1)
def am_tg (pc : Nat) (off : Int) : Nat := ((pc : Int) + off).toNat
def am_cond (o : Jvm.ClassFile.Cond) (x : Int32) (A B : Prop) : Prop := match o with
  | .eq => (x = 0 → A) ∧ (¬ x = 0 → B)
  | .ne => (¬ x = 0 → A) ∧ (x = 0 → B)
  | .lt => (x < 0 → A) ∧ (¬ x < 0 → B)
  | .ge => (0 ≤ x → A) ∧ (¬ 0 ≤ x → B)
  | .gt => (0 < x → A) ∧ (¬ 0 < x → B)
  | .le => (x ≤ 0 → A) ∧ (¬ x ≤ 0 → B)
def am_cmp (o : Jvm.ClassFile.Cond) (x y : Int32) (A B : Prop) : Prop := match o with
  | .eq => (x = y → A) ∧ (¬ x = y → B)
  | .ne => (¬ x = y → A) ∧ (x = y → B)
  | .lt => (x < y → A) ∧ (¬ x < y → B)
  | .ge => (y ≤ x → A) ∧ (¬ y ≤ x → B)
  | .gt => (y < x → A) ∧ (¬ y < x → B)
  | .le => (x ≤ y → A) ∧ (¬ x ≤ y → B)

/-- a call: its parameters' number n, the callee mi, what it makes; v: it has a receiver of class u -/
def am_inv (C : am_C) (P : am_P) (npc : Nat) (L : am_L) (st : List Value) (G : am_G) (nc ns mi n : Nat) : Prop :=
  n ≤ st.length ∧ ((st.drop n).map fun v => v.category).sum ≤ 8 ∧ ∃ post : Option Value → am_G → Prop, C mi (st.take n).reverse G post ∧ ∀ (r : Option Value) (G1 : am_G), post r G1 → P npc L (am_psh r (st.drop n)) G1 nc ns
def am_invA (C : am_C) (P : am_P) (mc ms : Nat) (npc : Nat) (L : am_L) (st : List Value) (G : am_G) (nc ns mi n kc ks : Nat) : Prop :=
  n ≤ st.length ∧ ((st.drop n).map fun v => v.category).sum ≤ 8 ∧ am_wfc G.length L (st.drop n) = true ∧ nc + kc ≤ mc ∧ ns + ks ≤ ms ∧ ∃ post : Option Value → am_G → Prop, C mi (st.take n).reverse G post ∧ ∀ (r : Option Value) (G1 : am_G), post r G1 → P npc L (am_psh r (st.drop n)) G1 (nc + kc) (ns + ks)
/-- the receiver under n - 1 parameters is of class u -/
def am_rcv (st : List Value) (G : am_G) (n u : Nat) : Prop := match st[n - 1]? with
  | some (.ref o) => match G[o]? with
    | some (.inr (.inr (.inr (ci, _)))) => ci = u
    | _ => False
  | _ => False
def am_rcR (st : List Value) (n : Nat) : Prop := match st[n - 1]? with
  | some (.ref _) => True
  | _ => False
def am_cpy (P : am_P) (npc : Nat) (L : am_L) (G : am_G) (nc ns : Nat) (n dp : Int32) (o1 : Nat) (sp : Int32) (o0 : Nat) (st : List Value) : Prop :=
  ¬ sp < 0 ∧ ¬ dp < 0 ∧ ¬ n < 0 ∧ (st.map fun v => v.category).sum ≤ 8 ∧ match G[o0]?, G[o1]? with
  | some (.inl (t0, n0, f)), some (.inl (t1, n1, g)) => t0 = 0 ∧ t1 = 0 ∧ sp.toNatClampNeg + n.toNatClampNeg ≤ n0 ∧ dp.toNatClampNeg + n.toNatClampNeg ≤ n1 ∧ P npc L st (G.set o1 (.inl (t1, n1, va_cpy f g sp.toNatClampNeg dp.toNatClampNeg n.toNatClampNeg))) nc ns
  | some (.inr (.inl (n0, f))), some (.inr (.inl (n1, g))) => sp.toNatClampNeg + n.toNatClampNeg ≤ n0 ∧ dp.toNatClampNeg + n.toNatClampNeg ≤ n1 ∧ P npc L st (G.set o1 (.inr (.inl (n1, va_cpy f g sp.toNatClampNeg dp.toNatClampNeg n.toNatClampNeg)))) nc ns
  | _, _ => False
def am_ins (C : am_C) (M : am_M) (scr : Option (Nat × (Nat → Int32))) (Q : Option Value → am_G → Prop) (X : am_P) (P : am_P) (pc : Nat) (i : Instr) (npc a b t u : Nat) (cv : Int32) (cl : Int64) (L : am_L) (st : List Value) (G : am_G) (nc ns : Nat) : Prop :=
  match i with
  | .iconst _ => P npc L (.int cv :: st) G nc ns
  | .bipush _ => P npc L (.int cv :: st) G nc ns
  | .sipush _ => P npc L (.int cv :: st) G nc ns
  | .ldc _ => (match t with
    | 0 => P npc L (.int cv :: st) G nc ns
    | _ => P npc L (.ref b :: st) G nc ns)
  | .ldc_w _ => (match t with
    | 0 => P npc L (.int cv :: st) G nc ns
    | _ => P npc L (.ref b :: st) G nc ns)
  | .lconst _ => P npc L (.long cl :: st) G nc ns
  | .ldc2_w _ => P npc L (.long cl :: st) G nc ns
  | .iload_n _ => (match L[a]? with
    | some (some (.int x)) => P npc L (.int x :: st) G nc ns
    | _ => False)
  | .iload _ => (match L[a]? with
    | some (some (.int x)) => P npc L (.int x :: st) G nc ns
    | _ => False)
  | .lload_n _ => (match L[a]? with
    | some (some (.long x)) => P npc L (.long x :: st) G nc ns
    | _ => False)
  | .lload _ => (match L[a]? with
    | some (some (.long x)) => P npc L (.long x :: st) G nc ns
    | _ => False)
  | .aload_n _ => (match L[a]? with
    | some (some (.ref x)) => P npc L (.ref x :: st) G nc ns
    | _ => False)
  | .aload _ => (match L[a]? with
    | some (some (.ref x)) => P npc L (.ref x :: st) G nc ns
    | _ => False)
  | .istore_n _ => (match st with
    | .int x :: st => P npc (am_st1 L a (.int x)) st G nc ns
    | _ => False)
  | .istore _ => (match st with
    | .int x :: st => P npc (am_st1 L a (.int x)) st G nc ns
    | _ => False)
  | .astore_n _ => (match st with
    | .ref x :: st => P npc (am_st1 L a (.ref x)) st G nc ns
    | _ => False)
  | .astore _ => (match st with
    | .ref x :: st => P npc (am_st1 L a (.ref x)) st G nc ns
    | _ => False)
  | .lstore_n _ => (match st with
    | .long x :: st => P npc (am_st2 L a (.long x)) st G nc ns
    | _ => False)
  | .lstore _ => (match st with
    | .long x :: st => P npc (am_st2 L a (.long x)) st G nc ns
    | _ => False)
  | .iinc _ _ => (match L[a]? with
    | some (some (.int x)) => P npc (am_st1 L a (.int (x + cv))) st G nc ns
    | _ => False)
  | .iadd => (match st with
    | .int y :: .int x :: st => P npc L (.int (x + y) :: st) G nc ns
    | _ => False)
  | .isub => (match st with
    | .int y :: .int x :: st => P npc L (.int (x - y) :: st) G nc ns
    | _ => False)
  | .imul => (match st with
    | .int y :: .int x :: st => P npc L (.int (x * y) :: st) G nc ns
    | _ => False)
  | .iand => (match st with
    | .int y :: .int x :: st => P npc L (.int (x &&& y) :: st) G nc ns
    | _ => False)
  | .ior => (match st with
    | .int y :: .int x :: st => P npc L (.int (x ||| y) :: st) G nc ns
    | _ => False)
  | .ixor => (match st with
    | .int y :: .int x :: st => P npc L (.int (x ^^^ y) :: st) G nc ns
    | _ => False)
  | .ishl => (match st with
    | .int y :: .int x :: st => P npc L (.int (x <<< (y &&& 31)) :: st) G nc ns
    | _ => False)
  | .ishr => (match st with
    | .int y :: .int x :: st => P npc L (.int (x >>> (y &&& 31)) :: st) G nc ns
    | _ => False)
  | .iushr => (match st with
    | .int y :: .int x :: st => P npc L (.int (x.toUInt32 >>> (y.toUInt32 &&& Int32.toUInt32 31)).toInt32 :: st) G nc ns
    | _ => False)
  | .idiv => (match st with
    | .int y :: .int x :: st => ¬ y = 0 ∧ P npc L (.int (x / y) :: st) G nc ns
    | _ => False)
  | .irem => (match st with
    | .int y :: .int x :: st => ¬ y = 0 ∧ P npc L (.int (x - x / y * y) :: st) G nc ns
    | _ => False)
  | .ladd => (match st with
    | .long y :: .long x :: st => P npc L (.long (x + y) :: st) G nc ns
    | _ => False)
  | .lsub => (match st with
    | .long y :: .long x :: st => P npc L (.long (x - y) :: st) G nc ns
    | _ => False)
  | .lmul => (match st with
    | .long y :: .long x :: st => P npc L (.long (x * y) :: st) G nc ns
    | _ => False)
  | .lcmp => (match st with
    | .long y :: .long x :: st => P npc L (.int (lg_cmp x y) :: st) G nc ns
    | _ => False)
  | .ldiv => (match st with
    | .long y :: .long x :: st => ¬ y = 0 ∧ P npc L (.long (x / y) :: st) G nc ns
    | _ => False)
  | .lrem => (match st with
    | .long y :: .long x :: st => ¬ y = 0 ∧ P npc L (.long (x - x / y * y) :: st) G nc ns
    | _ => False)
  | .ineg => (match st with
    | .int x :: st => P npc L (.int (-x) :: st) G nc ns
    | _ => False)
  | .i2l => (match st with
    | .int x :: st => P npc L (.long x.toInt64 :: st) G nc ns
    | _ => False)
  | .i2b => (match st with
    | .int x :: st => P npc L (.int x.toInt8.toInt32 :: st) G nc ns
    | _ => False)
  | .i2s => (match st with
    | .int x :: st => P npc L (.int x.toInt16.toInt32 :: st) G nc ns
    | _ => False)
  | .i2c => (match st with
    | .int x :: st => P npc L (.int (x.toUInt32 % 65536).toInt32 :: st) G nc ns
    | _ => False)
  | .lneg => (match st with
    | .long x :: st => P npc L (.long (-x) :: st) G nc ns
    | _ => False)
  | .dup => (match st with
    | v :: st => (match v.category with
      | 1 => P npc L (v :: v :: st) G nc ns
      | _ => False)
    | _ => False)
  | .dup2 => (match st with
    | v :: w :: st => (match v.category, w.category with
      | 1, 1 => P npc L (v :: w :: v :: w :: st) G nc ns
      | _, _ => False)
    | _ => False)
  | .pop => (match st with
    | v :: st => (match v.category with
      | 1 => P npc L st G nc ns
      | _ => False)
    | _ => False)
  | .ifCond o _ => (match st with
    | .int x :: st => am_cond o x (P a L st G nc ns) (P npc L st G nc ns)
    | _ => False)
  | .if_icmp o _ => (match st with
    | .int y :: .int x :: st => am_cmp o x y (P a L st G nc ns) (P npc L st G nc ns)
    | _ => False)
  | .ifnull _ => (match st with
    | .ref _ :: st => P npc L st G nc ns
    | .null :: st => P a L st G nc ns
    | _ => False)
  | .ifnonnull _ => (match st with
    | .ref _ :: st => P a L st G nc ns
    | .null :: st => P npc L st G nc ns
    | _ => False)
  | .goto _ => P a L st G nc ns
  | .tableswitch d lo hi offs => (match st with
    | .int x :: st => (x.toInt < lo ∨ hi < x.toInt → P (am_tg pc d) L st G nc ns) ∧ ∀ off : Int, ¬ x.toInt < lo → ¬ hi < x.toInt → offs[(x.toInt - lo).toNat]? = some off → P (am_tg pc off) L st G nc ns
    | _ => False)
  | .lookupswitch d ps => (match st with
    | .int x :: st => P (am_tg pc (Op.lookupswitch.offset ps.toList d x.toInt)) L st G nc ns
    | _ => False)
  | .getfield _ => (match st with
    | .ref o :: st => (match G[o]? with
      | some (.inr (.inr (.inr (ci, fs)))) => ci = a ∧ (match fs[b]? with
        | some v => P npc L (v :: st) G nc ns
        | none => False)
      | _ => False)
    | _ => False)
  | .putfield _ => (match st with
    | v :: .ref o :: st => (match G[o]? with
      | some (.inr (.inr (.inr (ci, fs)))) => ci = a ∧ b < fs.length ∧ (match t, v with
        | 0, .int x => P npc L st (G.set o (.inr (.inr (.inr (ci, fs.set b (.int x)))))) nc ns
        | 1, .int x => (x = 0 ∨ x = 1) ∧ P npc L st (G.set o (.inr (.inr (.inr (ci, fs.set b (.int x)))))) nc ns
        | 2, .ref x => P npc L st (G.set o (.inr (.inr (.inr (ci, fs.set b (.ref x)))))) nc ns
        | _, _ => False)
      | _ => False)
    | _ => False)
  | .iaload => (match st with
    | .int i :: .ref o :: st => (match scr with
      | some s => o = 2000000 ∧ vp_in i s.1 ∧ P npc L (.int (s.2 i.toNatClampNeg) :: st) G nc ns
      | none => (match G[o]? with
        | some (.inl (k, n, f)) => k = 0 ∧ vp_in i n ∧ P npc L (.int (f i.toNatClampNeg) :: st) G nc ns
        | _ => False))
    | _ => False)
  | .iastore => (match st with
    | .int x :: .int i :: .ref o :: st => (match G[o]? with
      | some (.inl (k, n, f)) => k = 0 ∧ vp_in i n ∧ P npc L st (G.set o (.inl (k, n, upd f i.toNatClampNeg x))) nc ns
      | _ => False)
    | _ => False)
  | .baload => (match st with
    | .int i :: .ref o :: st => (match G[o]? with
      | some (.inl (k, n, f)) => k = 2 ∧ vp_in i n ∧ P npc L (.int (f i.toNatClampNeg) :: st) G nc ns
      | _ => False)
    | _ => False)
  | .bastore => (match st with
    | .int x :: .int i :: .ref o :: st => (match G[o]? with
      | some (.inl (k, n, f)) => k = 2 ∧ (x = 0 ∨ x = 1) ∧ vp_in i n ∧ P npc L st (G.set o (.inl (k, n, upd f i.toNatClampNeg x))) nc ns
      | _ => False)
    | _ => False)
  | .laload => (match st with
    | .int i :: .ref o :: st => (match G[o]? with
      | some (.inr (.inl (n, f))) => vp_in i n ∧ P npc L (.long (f i.toNatClampNeg) :: st) G nc ns
      | _ => False)
    | _ => False)
  | .lastore => (match st with
    | .long x :: .int i :: .ref o :: st => (match G[o]? with
      | some (.inr (.inl (n, f))) => vp_in i n ∧ P npc L st (G.set o (.inr (.inl (n, vp_updL f i.toNatClampNeg x)))) nc ns
      | _ => False)
    | _ => False)
  | .aaload => (match st with
    | .int i :: .ref o :: st => (match G[o]? with
      | some (.inr (.inr (.inl (k, l)))) => 3 ≤ k ∧ k < 6 ∧ vp_in i l.length ∧ P npc L (va_rf (l.getD i.toNatClampNeg none) :: st) G nc ns
      | _ => False)
    | _ => False)
  | .aastore => (match st with
    | .ref v :: .int i :: .ref o :: st => (match G[o]?, G[v]? with
      | some (.inr (.inr (.inl (k, l)))), some (.inr (.inr (.inr (ci, _)))) => 3 ≤ k ∧ k < 6 ∧ ci = am_rc k ∧ vp_in i l.length ∧ P npc L st (G.set o (.inr (.inr (.inl (k, l.set i.toNatClampNeg (some v)))))) nc ns
      | _, _ => False)
    | _ => False)
  | .arraylength => (match st with
    | .ref o :: st => (match scr with
      | some s => o = 2000000 ∧ P npc L (.int (Int32.ofNat s.1) :: st) G nc ns
      | none => (match G[o]? with
        | some (.inl (k, n, _)) => k < 3 ∧ P npc L (.int (Int32.ofNat n) :: st) G nc ns
        | some (.inr (.inl (n, _))) => P npc L (.int (Int32.ofNat n) :: st) G nc ns
        | some (.inr (.inr (.inl (k, l)))) => 3 ≤ k ∧ k < 6 ∧ P npc L (.int (Int32.ofNat l.length) :: st) G nc ns
        | _ => False))
    | _ => False)
  | .new _ => (match t with
    | 0 => nc + 1 ≤ am_mc M ∧ ns + b ≤ am_ms M ∧ am_wf L st G = true ∧ P npc L (.ref G.length :: st) (G ++ [.inr (.inr (.inr (a, am_dfl a)))]) (nc + 1) (ns + b)
    | _ => X pc L st G nc ns)
  | .newarray _ => (match st with
    | .int n :: st => ¬ n < 0 ∧ n.toNatClampNeg ≤ 60000000 ∧ nc + 1 ≤ am_mc M ∧ ns + n.toNatClampNeg ≤ am_ms M ∧ am_wf L st G = true ∧ P npc L (.ref G.length :: st) (G ++ [am_newa a n.toNatClampNeg]) (nc + 1) (ns + n.toNatClampNeg)
    | _ => False)
  | .anewarray _ => (match st with
    | .int n :: st => ¬ n < 0 ∧ n.toNatClampNeg ≤ 60000000 ∧ nc + 1 ≤ am_mc M ∧ ns + n.toNatClampNeg ≤ am_ms M ∧ am_wf L st G = true ∧ P npc L (.ref G.length :: st) (G ++ [.inr (.inr (.inl (a, List.replicate n.toNatClampNeg none)))]) (nc + 1) (ns + n.toNatClampNeg)
    | _ => False)
  | .ireturn => (match st with
    | [.int x] => (match am_mr M with
      | some .int => Q (some (.int x)) G
      | some .boolean => (x = 0 ∨ x = 1) ∧ Q (some (.int x)) G
      | _ => False)
    | _ => False)
  | .lreturn => (match st with
    | [.long x] => Q (some (.long x)) G
    | _ => False)
  | .return_ => (match st with
    | [] => Q none G
    | _ => False)
  | .invokestatic _ => (match t with
    | 1 => am_inv C P npc L st G nc ns a b
    | 2 => am_inv C P npc L st G nc ns a b
    | 77 => X pc L st G nc ns
    | 6 => (match st with
      | .int y :: .int x :: st => (st.map fun v => v.category).sum ≤ 8 ∧ P npc L (.int (if x < y then y else x) :: st) G nc ns
      | _ => False)
    | 7 => (match st with
      | .int y :: .int x :: st => (st.map fun v => v.category).sum ≤ 8 ∧ P npc L (.int (if y < x then y else x) :: st) G nc ns
      | _ => False)
    | 8 => (match st with
      | .int x :: st => (st.map fun v => v.category).sum ≤ 8 ∧ P npc L (.int (if 0 ≤ x then x else 0 - x) :: st) G nc ns
      | _ => False)
    | 9 => (match st with
      | .long y :: .long x :: st => (st.map fun v => v.category).sum ≤ 8 ∧ P npc L (.long (if y < x then x else y) :: st) G nc ns
      | _ => False)
    | 10 => (match st with
      | .long x :: st => (st.map fun v => v.category).sum ≤ 8 ∧ P npc L (.long (if 0 < x then x else -x) :: st) G nc ns
      | _ => False)
    | 11 => (match st with
      | .int n :: .int dp :: .ref o1 :: .int sp :: .ref o0 :: st => am_cpy P npc L G nc ns n dp o1 sp o0 st
      | _ => False)
    | _ => False)
  | .invokespecial _ => (match t with
    | 3 => am_rcR st b ∧ am_invA C P (am_mc M) (am_ms M) npc L st G nc ns a b (u / 1000000) (u % 1000000)
    | 4 => am_rcR st b ∧ am_invA C P (am_mc M) (am_ms M) npc L st G nc ns a b (u / 1000000) (u % 1000000)
    | 5 => (match st with
      | .ref _ :: st => (st.map fun v => v.category).sum ≤ 8 ∧ P npc L st G nc ns
      | _ => False)
    | _ => False)
  | .invokevirtual _ => (match t with
    | 0 => am_rcv st G b u ∧ am_inv C P npc L st G nc ns a b
    | 13 => (match st with
      | .ref o :: st => 1000000 ≤ o ∧ o < 1000012 ∧ (st.map fun v => v.category).sum ≤ 8 ∧ P npc L (.int (nI (am_str (o - 1000000)).length) :: st) G nc ns
      | _ => False)
    | 14 => (match st with
      | .int i :: .ref o :: st => 1000000 ≤ o ∧ o < 1000012 ∧ vp_in i (am_str (o - 1000000)).length ∧ (st.map fun v => v.category).sum ≤ 8 ∧ P npc L (.int (nI ((am_str (o - 1000000)).getD i.toNatClampNeg 0)) :: st) G nc ns
      | _ => False)
    | 16 => (match st with
      | .int x :: .ref o :: st => 1000000 ≤ o ∧ o < 1000012 ∧ 0 ≤ x ∧ x < 65536 ∧ (st.map fun v => v.category).sum ≤ 8 ∧ P npc L (.int (am_ixo (am_str (o - 1000000)) x 0) :: st) G nc ns
      | _ => False)
    | _ => False)
  | _ => False
def am_step (C : am_C) (M : am_M) (scr : Option (Nat × (Nat → Int32))) (Q : Option Value → am_G → Prop) (X : am_P) (P : am_P) : am_P := fun pc L st G nc ns =>
  match am_lk (am_mt M) pc with
  | none => False
  | some (_, i, npc, a, b, t, u, _, cv, cl) => am_ins C M scr Q X P pc i npc a b t u cv cl L st G nc ns
/-- it comes to its end: the least of all that hold where a step makes them hold -/
def am_Ex (C : am_C) (M : am_M) (scr : Option (Nat × (Nat → Int32))) (Q : Option Value → am_G → Prop) (X : am_P) : am_P := fun pc L st G nc ns =>
  ∀ P : am_P, (∀ P0 : am_P, (∀ pc L st G nc ns, P0 pc L st G nc ns → P pc L st G nc ns) → ∀ pc L st G nc ns, am_step C M scr Q X P0 pc L st G nc ns → P pc L st G nc ns) → P pc L st G nc ns
theorem am_Ex_in {C : am_C} {M : am_M} {scr : Option (Nat × (Nat → Int32))} {Q : Option Value → am_G → Prop} {X : am_P} {pc : Nat} {L : am_L} {st : List Value} {G : am_G} {nc ns : Nat} (h : am_step C M scr Q X (am_Ex C M scr Q X) pc L st G nc ns) : am_Ex C M scr Q X pc L st G nc ns := fun P hP => hP (am_Ex C M scr Q X) (fun _ _ _ _ _ _ h => h P hP) _ _ _ _ _ _ h
end
section
/-! THE PICTURE: how a list of cells lies in the heap, at addresses ad, and what a step's table must have for its words. -/
def am_cv (ad : Nat → Nat) (v : Value) : Value := match v with
  | .ref k => .ref (ad k)
  | w => w
def am_ce (dA : Nat → ClassId) (ad : Nat → Nat) (e : am_E) : va_E := match e with
  | .inl (t, n, f) => .inl (dA t, n, .inl f)
  | .inr (.inl (n, f)) => .inl (dA 1, n, .inr (.inl f))
  | .inr (.inr (.inl (t, l))) => .inl (dA t, l.length, .inr (.inr (.inr (.inr (fun j => (l.getD j none).map ad)))))
  | .inr (.inr (.inr (ci, fs))) => .inr (ci, fs.map (am_cv ad))
def am_cw (dA : Nat → ClassId) (ad : Nat → Nat) (G : am_G) : va_W := G.mapIdx (fun k e => (ad k, am_ce dA ad e))
theorem am_cw_get {dA : Nat → ClassId} {ad : Nat → Nat} {G : am_G} {q : Nat} {e : am_E} (h : G[q]? = some e) : (am_cw dA ad G)[q]? = some (ad q, am_ce dA ad e) := by
  simp [am_cw, List.getElem?_mapIdx, h]
theorem am_cw_set {dA : Nat → ClassId} {ad : Nat → Nat} {G : am_G} {q : Nat} {e : am_E} : (am_cw dA ad G).set q (ad q, am_ce dA ad e) = am_cw dA ad (G.set q e) := by
  apply List.ext_getElem?
  intro i
  simp only [am_cw, List.getElem?_mapIdx, List.getElem?_set, List.length_mapIdx]
  by_cases h : q = i
  · subst h
    by_cases h2 : q < G.length <;> simp [h2]
  · simp [h]
theorem am_cw_push {dA : Nat → ClassId} {ad : Nat → Nat} {G : am_G} {e : am_E} : am_cw dA ad (G ++ [e]) = am_cw dA ad G ++ [(ad G.length, am_ce dA ad e)] := by
  simp [am_cw, List.mapIdx_append]
theorem am_cv_ad {n : Nat} {ad ad1 : Nat → Nat} (h : ∀ k : Nat, k < n ∨ 1000000 ≤ k → ad1 k = ad k) {v : Value} (hv : am_wfv n v = true) : am_cv ad1 v = am_cv ad v := by
  cases v with
  | ref k =>
    simp only [am_wfv, Bool.or_eq_true, decide_eq_true_eq] at hv
    simp only [am_cv, h k hv]
  | _ => rfl
theorem am_ce_ad {n : Nat} {dA : Nat → ClassId} {ad ad1 : Nat → Nat} (h : ∀ k : Nat, k < n ∨ 1000000 ≤ k → ad1 k = ad k) {e : am_E} (he : am_wfE n e = true) : am_ce dA ad1 e = am_ce dA ad e := by
  match e, he with
  | .inl (t, n, f), _ => rfl
  | .inr (.inl (n, f)), _ => rfl
  | .inr (.inr (.inl (t, l))), he =>
    have hz : ∀ j : Nat, (l.getD j none).map ad1 = (l.getD j none).map ad := by
      intro j
      rw [List.getD_eq_getElem?_getD]
      cases hj : l[j]? with
      | none => rfl
      | some o =>
        cases o with
        | none => rfl
        | some k =>
          have h2 := List.all_eq_true.mp he (some k) (List.mem_of_getElem? hj)
          simp only [Bool.or_eq_true, decide_eq_true_eq] at h2
          simp [h k h2]
    simp only [am_ce]
    congr 7
    funext j
    exact hz j
  | .inr (.inr (.inr (ci, fs))), he =>
    simp only [am_ce]
    congr 2
    exact List.map_congr_left fun v hv => am_cv_ad h (List.all_eq_true.mp he v hv)
theorem am_cw_ad {dA : Nat → ClassId} {ad ad1 : Nat → Nat} {G : am_G} {n : Nat} (h : ∀ k : Nat, k < n ∨ 1000000 ≤ k → ad1 k = ad k) (hn : G.length ≤ n) (hG : G.all (am_wfE n) = true) : am_cw dA ad1 G = am_cw dA ad G := by
  apply List.ext_getElem?
  intro i
  simp only [am_cw, List.getElem?_mapIdx]
  cases hi : G[i]? with
  | none => rfl
  | some e =>
    have h1 : i < G.length := (List.getElem?_eq_some_iff.mp hi).1
    simp only [Option.map_some, h i (Or.inl (Nat.lt_of_lt_of_le h1 hn)), am_ce_ad h (List.all_eq_true.mp hG e (List.mem_of_getElem? hi))]
/-- the locals -/
def am_lv (L : am_L) (ad : Nat → Nat) : List (Nat × Value) := (L.mapIdx (fun i o => o.map (fun v => (i, am_cv ad v)))).filterMap id
theorem am_lv_mem {L : am_L} {ad : Nat → Nat} {q : Nat × Value} : q ∈ am_lv L ad ↔ ∃ v, L[q.1]? = some (some v) ∧ q.2 = am_cv ad v := by
  simp only [am_lv, List.mem_filterMap, id]
  constructor
  · rintro ⟨o, ho, rfl⟩
    obtain ⟨i, hi⟩ := List.getElem?_of_mem ho
    rw [List.getElem?_mapIdx] at hi
    cases hL : L[i]? with
    | none => rw [hL] at hi; cases hi
    | some o =>
      rw [hL] at hi
      cases o with
      | none => cases hi
      | some v =>
        cases hi
        exact ⟨v, hL, rfl⟩
  · rintro ⟨v, h1, h2⟩
    refine ⟨some q, ?_, rfl⟩
    apply List.mem_of_getElem? (i := q.1)
    rw [List.getElem?_mapIdx, h1]
    simp only [Option.map_some, ← h2]
def am_LH (ls : Array Slot) (nL : Nat) (L : am_L) (ad : Nat → Nat) : Prop := L.length = nL ∧ lv_has ls nL (am_lv L ad)
theorem am_LH_at {ls : Array Slot} {nL : Nat} {L : am_L} {ad : Nat → Nat} (h : am_LH ls nL L ad) {i : Nat} {v : Value} (hi : L[i]? = some (some v)) : ls[i]? = some (.val (am_cv ad v)) := h.2.2.2 (i, am_cv ad v) (am_lv_mem.mpr ⟨v, hi, rfl⟩)
theorem am_LH_sub {ls : Array Slot} {nL : Nat} {l l2 : List (Nat × Value)} (h : lv_has ls nL l) (hs : ∀ q ∈ l2, q ∈ l) : lv_has ls nL l2 := ⟨h.1, h.2.1, fun q hq => h.2.2 q (hs q hq)⟩
theorem am_cat (ad : Nat → Nat) (v : Value) : (am_cv ad v).category = v.category := by cases v <;> rfl
theorem am_clr_len (L : am_L) (i : Nat) : (am_clr L i).length = L.length := by
  unfold am_clr
  split
  · rfl
  · split <;> simp
theorem am_clr_get {L : am_L} {i k : Nat} {v : Value} (h : (am_clr L i)[k]? = some (some v)) : L[k]? = some (some v) ∧ ¬ (k + 1 = i ∧ ∃ x, v = .long x) := by
  unfold am_clr at h
  split at h
  · exact ⟨h, fun z => by omega⟩
  · rename_i j
    split at h
    · rename_i x hx
      rw [List.getElem?_set] at h
      split at h
      · split at h <;> cases h
      · rename_i hn
        exact ⟨h, fun z => hn (by omega)⟩
    · rename_i hx
      refine ⟨h, fun z => ?_⟩
      obtain ⟨z1, x, rfl⟩ := z
      have : k = j := by omega
      subst this
      exact hx x h
def am_nod (L : am_L) : Prop := ∀ (i : Nat) (v : Value), L[i]? = some (some v) → v.category = 2 → ∃ x, v = .long x
theorem am_st1_LH {ls : Array Slot} {nL i : Nat} {L : am_L} {ad : Nat → Nat} {v : Value} (hd : am_nod L) (hL : L.length = nL) (h : lv_has ls nL ((i, am_cv ad v) :: (am_lv L ad).filter (fun q => !(q.1 == i) && !(q.1 + 1 == i && q.2.category == 2)))) : am_LH ls nL (am_st1 L i v) ad := by
  refine ⟨by simp [am_st1, am_clr_len, hL], am_LH_sub h fun q hq => ?_⟩
  obtain ⟨w, h1, h2⟩ := am_lv_mem.mp hq
  unfold am_st1 at h1
  rw [List.getElem?_set] at h1
  split at h1
  · rename_i he
    split at h1
    · cases h1
      exact List.mem_cons.mpr (Or.inl (Prod.ext he.symm h2))
    · cases h1
  · rename_i hne
    obtain ⟨a1, a2⟩ := am_clr_get h1
    refine List.mem_cons.mpr (Or.inr (List.mem_filter.mpr ⟨am_lv_mem.mpr ⟨w, a1, h2⟩, ?_⟩))
    have n1 : ¬ q.1 = i := fun z => hne z.symm
    by_cases b : q.1 + 1 = i
    · have n2 : ¬ q.2.category = 2 := by
        rw [h2, am_cat]
        intro z
        exact a2 ⟨b, hd _ _ a1 z⟩
      simp [n1, n2]
    · simp [n1, b]
theorem am_st2_LH {ls : Array Slot} {nL i : Nat} {L : am_L} {ad : Nat → Nat} {v : Value} (hd : am_nod L) (hL : L.length = nL) (h : lv_has ls nL ((i, am_cv ad v) :: (am_lv L ad).filter (fun q => !(q.1 == i) && (!(q.1 == i + 1) && !(q.1 + 1 == i && q.2.category == 2))))) : am_LH ls nL (am_st2 L i v) ad := by
  refine ⟨by simp [am_st2, am_clr_len, hL], am_LH_sub h fun q hq => ?_⟩
  obtain ⟨w, h1, h2⟩ := am_lv_mem.mp hq
  unfold am_st2 at h1
  rw [List.getElem?_set] at h1
  split at h1
  · split at h1 <;> cases h1
  · rename_i hne2
    rw [List.getElem?_set] at h1
    split at h1
    · rename_i he
      split at h1
      · cases h1
        exact List.mem_cons.mpr (Or.inl (Prod.ext he.symm h2))
      · cases h1
    · rename_i hne
      obtain ⟨a1, a2⟩ := am_clr_get h1
      refine List.mem_cons.mpr (Or.inr (List.mem_filter.mpr ⟨am_lv_mem.mpr ⟨w, a1, h2⟩, ?_⟩))
      have n1 : ¬ q.1 = i := fun z => hne z.symm
      have n3 : ¬ q.1 = i + 1 := fun z => hne2 z.symm
      by_cases b : q.1 + 1 = i
      · have n2 : ¬ q.2.category = 2 := by
          rw [h2, am_cat]
          intro z
          exact a2 ⟨b, hd _ _ a1 z⟩
        simp [n1, n2, n3]
      · simp [n1, n3, b]
theorem am_nod_clr {L : am_L} {i : Nat} (h : am_nod L) : am_nod (am_clr L i) := fun k v hk hc => h k v (am_clr_get hk).1 hc
theorem am_nod_set {L : am_L} {i : Nat} {o : Option Value} (h : am_nod L) (ho : ∀ v, o = some v → v.category = 2 → ∃ x, v = .long x) : am_nod (L.set i o) := by
  intro k v hk hc
  rw [List.getElem?_set] at hk
  split at hk
  · split at hk
    · exact ho v (Option.some.inj hk) hc
    · cases hk
  · exact h k v hk hc
theorem am_nod_st1 {L : am_L} {i : Nat} {v : Value} (h : am_nod L) (hv : v.category = 1) : am_nod (am_st1 L i v) := am_nod_set (am_nod_clr h) (fun w hw hc => by cases hw; omega)
theorem am_nod_st2 {L : am_L} {i : Nat} {x : Int64} (h : am_nod L) : am_nod (am_st2 L i (.long x)) := am_nod_set (am_nod_set (am_nod_clr h) (fun w hw _ => ⟨x, (Option.some.inj hw).symm⟩)) (fun w hw _ => by cases hw)
end
section
/-! WHAT A TABLE MUST HAVE: each instruction as it decodes, its word among the tables' words at its place. -/
def am_at (pos : Nat) (w : Jvm.Cond) : Bool := decide (lw_tbl[pos]? = some w)
def am_U : List Jvm.Cond := lw_tbl.filter goodWord
theorem am_at_U {pos : Nat} {w : Jvm.Cond} (h : am_at pos w = true) (hg : goodWord w = true) : w ∈ am_U := List.mem_filter.mpr ⟨List.mem_of_getElem? (of_decide_eq_true h), hg⟩
def am_len (i : Instr) (d : Nat) : Nat := match i with
  | .bipush _ => 2
  | .sipush _ => 3
  | .ldc _ => 2
  | .ldc_w _ => 3
  | .ldc2_w _ => 3
  | .iload _ => 2
  | .lload _ => 2
  | .aload _ => 2
  | .istore _ => 2
  | .lstore _ => 2
  | .astore _ => 2
  | .iinc _ _ => 3
  | .ifCond _ _ => 3
  | .if_icmp _ _ => 3
  | .ifnull _ => 3
  | .ifnonnull _ => 3
  | .goto _ => 3
  | .tableswitch _ _ _ _ => d
  | .lookupswitch _ _ => d
  | .getfield _ => 3
  | .putfield _ => 3
  | .new _ => 3
  | .newarray _ => 2
  | .anewarray _ => 3
  | .invokestatic _ => 3
  | .invokespecial _ => 3
  | .invokevirtual _ => 3
  | _ => 1
/-- where the constant texts stand: the class and the entry -/
def am_sk (j : Nat) : Option (String × Nat) := match j with
  | 0 => some (RX10, 141)
  | 1 => some (RX10, 281)
  | 2 => some (RX11, 155)
  | 3 => some (RX11, 163)
  | 4 => some (RX11, 165)
  | 5 => some (RX11, 173)
  | 6 => some (RX11, 175)
  | 7 => some (RX11, 177)
  | 8 => some (RX11, 179)
  | 9 => some (RX11, 181)
  | 10 => some (RX11, 185)
  | 11 => some (RX11, 191)
  | _ => none
/-- the words of nest mates -/
def am_nest : List Jvm.Cond := lw_tbl.filter (fun w => match w with
  | .methodLinkNest _ _ _ _ => true
  | _ => false)
def am_fld (own : String) (idx a b pos : Nat) : Bool := match vwCl[a]? with
  | some (C, T, N) => decide (b < N) && decide ((T b).1 = C) && am_at pos (.fieldLink own idx C (T b).2.1 (T b).2.2.1)
  | none => false
def am_pfl (own : String) (ini : Bool) (a b t : Nat) : Bool := match vwCl[a]? with
  | some (_, T, _) => ((T b).2.2.2 == false || (ini && decide ((T b).1 = own))) && (match parseFieldDescriptor (T b).2.2.1 with
    | some .int => t == 0
    | some .boolean => t == 1
    | some (.object _) => t == 2
    | some (.array _) => t == 2
    | _ => false)
  | none => false
def am_aty (a : Nat) : ArrayType := match a with
  | 0 => .int
  | 1 => .long
  | _ => .boolean
/-- a callee: k 0 static, 1 of an object, 2 a maker -/
def am_okM (M : am_M) : Bool := match am_mw M with
  | [p0, p1, p2, p3, k] => am_at p0 (.code (am_my M) (am_mb M) (am_mL M) (am_mr M)) && am_at p3 (.initialized (am_my M).cls) && plainName (am_my M).cls && decide ((am_my M).cls ≠ "java/lang/invoke/MethodHandle") && decide ((am_my M).cls ≠ "java/lang/invoke/VarHandle") && decide (am_mL M ≤ 40) && (match k with
    | 0 => am_at p1 (.static (am_my M)) && decide ((parseMethodDescriptor (am_my M).desc).map (fun d => d.parameters.length) = some (am_mp M)) && decide ((am_my M).name ≠ "<init>")
    | 1 => am_at p1 (.instanceMethod (am_my M)) && am_at p2 (.selects (am_my M).cls (am_my M) (am_my M)) && decide ((parseMethodDescriptor (am_my M).desc).map (fun d => d.parameters.length) = some (am_mp M - 1)) && decide (1 ≤ am_mp M) && decide ((vwCl[am_mk M]?).map (fun q => q.1) = some (am_my M).cls)
    | 2 => am_at p1 (.instanceMethod (am_my M)) && decide ((parseMethodDescriptor (am_my M).desc).map (fun d => d.parameters.length) = some (am_mp M - 1)) && decide (1 ≤ am_mp M) && decide ((am_my M).name = "<init>") && decide (am_mr M = none)
    | _ => false)
  | _ => false
def am_kd (M : am_M) : Nat := match am_mw M with
  | [_, _, _, _, k] => k
  | _ => 9
/-- the link of a call -/
def am_lnk (MT : Nat → Option am_M) (own : String) (idx a b t u pos : Nat) : Bool := match MT a with
  | some M2 => decide (b = am_mp M2) && (match t with
    | 0 => decide (am_kd M2 = 1) && decide (u = am_mk M2) && am_at pos (.methodLink own idx (am_my M2)) && decide (am_mc M2 = 0) && decide (am_ms M2 = 0)
    | 1 => decide (am_kd M2 = 0) && am_at pos (.methodLink own idx (am_my M2)) && decide (am_mc M2 = 0) && decide (am_ms M2 = 0)
    | 2 => decide (am_kd M2 = 0) && am_at pos (.methodLinkNest own idx (am_my M2) RX10) && decide (am_mc M2 = 0) && decide (am_ms M2 = 0)
    | 3 => decide (am_kd M2 = 2) && am_at pos (.methodLink own idx (am_my M2)) && decide (am_mc M2 = u / 1000000) && decide (am_ms M2 = u % 1000000)
    | 4 => decide (am_kd M2 = 2) && am_at pos (.methodLinkNest own idx (am_my M2) RX10) && decide (am_mc M2 = u / 1000000) && decide (am_ms M2 = u % 1000000)
    | _ => false)
  | none => false
def am_okX (MT : Nat → Option am_M) (M : am_M) (pc : Nat) (i : Instr) (a b t u pos : Nat) (cv : Int32) (cl : Int64) : Bool :=
  match i with
  | .iconst n => decide (Int32.ofInt n = cv)
  | .bipush n => decide ((Int8.ofInt n).toInt32 = cv)
  | .sipush n => decide ((Int16.ofInt n).toInt32 = cv)
  | .ldc idx => (match t with
    | 0 => am_at pos (.constant (am_my M).cls idx cv)
    | _ => decide (1000000 ≤ b) && decide (am_sk (b - 1000000) = some ((am_my M).cls, idx)))
  | .ldc_w idx => (match t with
    | 0 => am_at pos (.constant (am_my M).cls idx cv)
    | _ => decide (1000000 ≤ b) && decide (am_sk (b - 1000000) = some ((am_my M).cls, idx)))
  | .lconst n => decide (Int64.ofNat (n : Nat) = cl)
  | .ldc2_w idx => am_at pos (.constantLong (am_my M).cls idx cl)
  | .iload_n k => decide ((k : Nat) = a)
  | .iload k => decide (k = a)
  | .lload_n k => decide ((k : Nat) = a)
  | .lload k => decide (k = a)
  | .aload_n k => decide ((k : Nat) = a)
  | .aload k => decide (k = a)
  | .istore_n k => decide ((k : Nat) = a) && decide (a < am_mL M)
  | .istore k => decide (k = a) && decide (a < am_mL M)
  | .astore_n k => decide ((k : Nat) = a) && decide (a < am_mL M)
  | .astore k => decide (k = a) && decide (a < am_mL M)
  | .lstore_n k => decide ((k : Nat) = a) && decide (a + 1 < am_mL M)
  | .lstore k => decide (k = a) && decide (a + 1 < am_mL M)
  | .iinc k n => decide (k = a) && decide (Int32.ofInt n = cv) && decide (a < am_mL M)
  | .ifCond _ off => decide ((pc : Int) + off = (a : Int))
  | .if_icmp _ off => decide ((pc : Int) + off = (a : Int))
  | .ifnull off => decide ((pc : Int) + off = (a : Int))
  | .ifnonnull off => decide ((pc : Int) + off = (a : Int))
  | .goto off => decide ((pc : Int) + off = (a : Int))
  | .tableswitch d lo hi offs => decide (0 ≤ (pc : Int) + d) && offs.toList.all (fun o => decide (0 ≤ (pc : Int) + o)) && decide ((offs.size : Int) = hi - lo + 1)
  | .lookupswitch d ps => (ps.toList.zip (ps.toList.drop 1)).all (fun (a, next) => a.1 < next.1) && decide (0 ≤ (pc : Int) + d) && ps.toList.all (fun o => decide (0 ≤ (pc : Int) + o.2))
  | .getfield idx => am_fld (am_my M).cls idx a b pos
  | .putfield idx => am_fld (am_my M).cls idx a b pos && am_pfl (am_my M).cls (decide ((am_my M).name = "<init>")) a b t
  | .new idx => (match t with
    | 0 => (match vwCl[a]? with
      | some (C, _, N) => decide (b = N) && am_at pos (.classLink (am_my M).cls idx C) && am_at u (.instantiable C N)
      | none => false)
    | _ => true)
  | .newarray ty => decide (a < 3) && decide (ty = am_aty a) && am_at pos (.arrayClass (newarray.typeOf ty))
  | .anewarray idx => decide (3 ≤ a) && decide (a < 6) && (match vwCl[am_rc a]? with
    | some (C, _, _) => am_at pos (.classLink (am_my M).cls idx C)
    | none => false)
  | .ireturn => decide (am_mr M = some .int) || decide (am_mr M = some .boolean)
  | .lreturn => decide (am_mr M = some .long)
  | .return_ => decide (am_mr M = none)
  | .invokestatic idx => (match t with
    | 6 => am_at pos (.methodLink (am_my M).cls idx Lib.Math.max.name)
    | 7 => am_at pos (.methodLink (am_my M).cls idx Lib.Math.min.name)
    | 8 => am_at pos (.methodLink (am_my M).cls idx Lib.Math.abs.name)
    | 9 => am_at pos (.methodLink (am_my M).cls idx Lib.MathLoose.max_long.x)
    | 10 => am_at pos (.methodLink (am_my M).cls idx Lib.MathLoose.abs_long.x)
    | 11 => am_at pos (.methodLink (am_my M).cls idx arraycopyName)
    | 77 => true
    | _ => am_lnk MT (am_my M).cls idx a b t u pos)
  | .invokespecial idx => (match t with
    | 5 => am_at pos (.methodLink (am_my M).cls idx Lib.objectInit)
    | _ => am_lnk MT (am_my M).cls idx a b t u pos)
  | .invokevirtual idx => (match t with
    | 13 => am_at pos (.methodLink (am_my M).cls idx ⟨RJ0, "length", "()I"⟩)
    | 14 => am_at pos (.methodLink (am_my M).cls idx ⟨RJ0, "charAt", "(I)C"⟩)
    | 16 => am_at pos (.methodLink (am_my M).cls idx ⟨RJ0, "indexOf", "(I)I"⟩)
    | _ => am_lnk MT (am_my M).cls idx a b t u pos)
  | _ => true
def am_okI (MT : Nat → Option am_M) (M : am_M) (e : am_I) : Bool := match e with
  | (pc, i, npc, a, b, t, u, pos, cv, cl) => decide (decode (am_mb M) pc = .ok (i, am_len i (npc - pc))) && decide (npc = pc + am_len i (npc - pc)) && am_okX MT M pc i a b t u pos cv cl
def am_okT (MT : Nat → Option am_M) (M : am_M) : Bool := (am_mt M).all (fun q => q.2.all (am_okI MT M))
theorem am_lk1_mem : ∀ {l : List am_I} {n : Nat} {e : am_I}, am_lk1 l n = some e → e ∈ l ∧ e.1 = n
  | [], _, _, h => by cases h
  | x :: t, n, e, h => by
    unfold am_lk1 at h
    cases hb : Nat.beq x.1 n with
    | true =>
      rw [hb] at h
      cases h
      exact ⟨List.mem_cons_self, Nat.eq_of_beq_eq_true hb⟩
    | false =>
      rw [hb] at h
      obtain ⟨h1, h2⟩ := am_lk1_mem h
      exact ⟨List.mem_cons_of_mem _ h1, h2⟩
theorem am_lk_mem : ∀ {l : List (Nat × List am_I)} {n : Nat} {e : am_I}, am_lk l n = some e → ∃ q ∈ l, e ∈ q.2 ∧ e.1 = n
  | [], _, _, h => by cases h
  | x :: t, n, e, h => by
    unfold am_lk at h
    cases hb : Nat.blt n x.1 with
    | true =>
      rw [hb] at h
      obtain ⟨h1, h2⟩ := am_lk1_mem h
      exact ⟨x, List.mem_cons_self, h1, h2⟩
    | false =>
      rw [hb] at h
      obtain ⟨q, h1, h2⟩ := am_lk_mem h
      exact ⟨q, List.mem_cons_of_mem _ h1, h2⟩
theorem am_lk_ok {MT : Nat → Option am_M} {M : am_M} (hT : am_okT MT M = true) {pc : Nat} {e : am_I} (h : am_lk (am_mt M) pc = some e) : am_okI MT M e = true ∧ e.1 = pc := by
  obtain ⟨q, h1, h2, h3⟩ := am_lk_mem h
  exact ⟨List.all_eq_true.mp (List.all_eq_true.mp hT q h1) e h2, h3⟩
end
section
/-! the classes: their fields' words, types and names -/
theorem am_cl0 : ∀ w ∈ u_ws RX0 TX0 9, w ∈ am_U := by
  have h : u_ws RX0 TX0 9 = ([230, 232, 234, 236, 238, 240, 242, 244, 246] : List Nat).filterMap (fun i => lw_tbl[i]?) := by decide +kernel
  have h2 : (u_ws RX0 TX0 9).all goodWord = true := by decide +kernel
  intro w hw
  have hg := List.all_eq_true.mp h2 w hw
  rw [h] at hw
  obtain ⟨j, -, hj⟩ := List.mem_filterMap.mp hw
  exact List.mem_filter.mpr ⟨List.mem_of_getElem? hj, hg⟩
theorem am_cl1 : ∀ w ∈ u_ws RX1 TX1 3, w ∈ am_U := by
  have h : u_ws RX1 TX1 3 = ([161, 163, 165] : List Nat).filterMap (fun i => lw_tbl[i]?) := by decide +kernel
  have h2 : (u_ws RX1 TX1 3).all goodWord = true := by decide +kernel
  intro w hw
  have hg := List.all_eq_true.mp h2 w hw
  rw [h] at hw
  obtain ⟨j, -, hj⟩ := List.mem_filterMap.mp hw
  exact List.mem_filter.mpr ⟨List.mem_of_getElem? hj, hg⟩
theorem am_cl2 : ∀ w ∈ u_ws RX2 TX2 5, w ∈ am_U := by
  have h : u_ws RX2 TX2 5 = ([337, 339, 341, 343, 345] : List Nat).filterMap (fun i => lw_tbl[i]?) := by decide +kernel
  have h2 : (u_ws RX2 TX2 5).all goodWord = true := by decide +kernel
  intro w hw
  have hg := List.all_eq_true.mp h2 w hw
  rw [h] at hw
  obtain ⟨j, -, hj⟩ := List.mem_filterMap.mp hw
  exact List.mem_filter.mpr ⟨List.mem_of_getElem? hj, hg⟩
theorem am_cl3 : ∀ w ∈ u_ws RX3 TX3 8, w ∈ am_U := by
  have h : u_ws RX3 TX3 8 = ([383, 385, 387, 389, 391, 393, 395, 397] : List Nat).filterMap (fun i => lw_tbl[i]?) := by decide +kernel
  have h2 : (u_ws RX3 TX3 8).all goodWord = true := by decide +kernel
  intro w hw
  have hg := List.all_eq_true.mp h2 w hw
  rw [h] at hw
  obtain ⟨j, -, hj⟩ := List.mem_filterMap.mp hw
  exact List.mem_filter.mpr ⟨List.mem_of_getElem? hj, hg⟩
theorem am_cl4 : ∀ w ∈ u_ws RX4 TX4 6, w ∈ am_U := by
  have h : u_ws RX4 TX4 6 = ([137, 139, 141, 143, 145, 147] : List Nat).filterMap (fun i => lw_tbl[i]?) := by decide +kernel
  have h2 : (u_ws RX4 TX4 6).all goodWord = true := by decide +kernel
  intro w hw
  have hg := List.all_eq_true.mp h2 w hw
  rw [h] at hw
  obtain ⟨j, -, hj⟩ := List.mem_filterMap.mp hw
  exact List.mem_filter.mpr ⟨List.mem_of_getElem? hj, hg⟩
theorem am_cl5 : ∀ w ∈ u_ws RX5 TX5 10, w ∈ am_U := by
  have h : u_ws RX5 TX5 10 = ([269, 271, 273, 275, 277, 279, 281, 283, 285, 287] : List Nat).filterMap (fun i => lw_tbl[i]?) := by decide +kernel
  have h2 : (u_ws RX5 TX5 10).all goodWord = true := by decide +kernel
  intro w hw
  have hg := List.all_eq_true.mp h2 w hw
  rw [h] at hw
  obtain ⟨j, -, hj⟩ := List.mem_filterMap.mp hw
  exact List.mem_filter.mpr ⟨List.mem_of_getElem? hj, hg⟩
theorem am_cl6 : ∀ w ∈ u_ws RX6 TX6 2, w ∈ am_U := by
  have h : u_ws RX6 TX6 2 = ([356, 358] : List Nat).filterMap (fun i => lw_tbl[i]?) := by decide +kernel
  have h2 : (u_ws RX6 TX6 2).all goodWord = true := by decide +kernel
  intro w hw
  have hg := List.all_eq_true.mp h2 w hw
  rw [h] at hw
  obtain ⟨j, -, hj⟩ := List.mem_filterMap.mp hw
  exact List.mem_filter.mpr ⟨List.mem_of_getElem? hj, hg⟩
theorem am_cl7 : ∀ w ∈ u_ws RX7 TX7 2, w ∈ am_U := by
  have h : u_ws RX7 TX7 2 = ([301, 303] : List Nat).filterMap (fun i => lw_tbl[i]?) := by decide +kernel
  have h2 : (u_ws RX7 TX7 2).all goodWord = true := by decide +kernel
  intro w hw
  have hg := List.all_eq_true.mp h2 w hw
  rw [h] at hw
  obtain ⟨j, -, hj⟩ := List.mem_filterMap.mp hw
  exact List.mem_filter.mpr ⟨List.mem_of_getElem? hj, hg⟩
theorem am_cl8 : ∀ w ∈ u_ws RX8 TX8 3, w ∈ am_U := by
  have h : u_ws RX8 TX8 3 = ([318, 320, 322] : List Nat).filterMap (fun i => lw_tbl[i]?) := by decide +kernel
  have h2 : (u_ws RX8 TX8 3).all goodWord = true := by decide +kernel
  intro w hw
  have hg := List.all_eq_true.mp h2 w hw
  rw [h] at hw
  obtain ⟨j, -, hj⟩ := List.mem_filterMap.mp hw
  exact List.mem_filter.mpr ⟨List.mem_of_getElem? hj, hg⟩
theorem am_cl9 : ∀ w ∈ u_ws RX9 TX9 8, w ∈ am_U := by
  have h : u_ws RX9 TX9 8 = ([187, 189, 191, 193, 195, 197, 199, 201] : List Nat).filterMap (fun i => lw_tbl[i]?) := by decide +kernel
  have h2 : (u_ws RX9 TX9 8).all goodWord = true := by decide +kernel
  intro w hw
  have hg := List.all_eq_true.mp h2 w hw
  rw [h] at hw
  obtain ⟨j, -, hj⟩ := List.mem_filterMap.mp hw
  exact List.mem_filter.mpr ⟨List.mem_of_getElem? hj, hg⟩
theorem am_cl10 : ∀ w ∈ u_ws RX10 TX10 10, w ∈ am_U := by
  have h : u_ws RX10 TX10 10 = ([410, 412, 414, 416, 418, 420, 422, 424, 426, 428] : List Nat).filterMap (fun i => lw_tbl[i]?) := by decide +kernel
  have h2 : (u_ws RX10 TX10 10).all goodWord = true := by decide +kernel
  intro w hw
  have hg := List.all_eq_true.mp h2 w hw
  rw [h] at hw
  obtain ⟨j, -, hj⟩ := List.mem_filterMap.mp hw
  exact List.mem_filter.mpr ⟨List.mem_of_getElem? hj, hg⟩
theorem am_cl11 : ∀ w ∈ u_ws RX11 TX11 54, w ∈ am_U := by
  have h : u_ws RX11 TX11 54 = ([1715, 1717, 1719, 1721, 1723, 1725, 1727, 1729, 1731, 1733, 1735, 1737, 1739, 1741, 1743, 1745, 1747, 1749, 1751, 1753, 1755, 1757, 1759, 1761, 1763, 1765, 1767, 1769, 1771, 1773, 1775, 1777, 1779, 1781, 1783, 1785, 1787, 1789, 1791, 1793, 1795, 1797, 1799, 1801, 1803, 1805, 1807, 1809, 1811, 1813, 1815, 1817, 1819, 1821] : List Nat).filterMap (fun i => lw_tbl[i]?) := by decide +kernel
  have h2 : (u_ws RX11 TX11 54).all goodWord = true := by decide +kernel
  intro w hw
  have hg := List.all_eq_true.mp h2 w hw
  rw [h] at hw
  obtain ⟨j, -, hj⟩ := List.mem_filterMap.mp hw
  exact List.mem_filter.mpr ⟨List.mem_of_getElem? hj, hg⟩
theorem am_cls_ok {a : Nat} {C : String} {T : u_T} {N : Nat} (h : vwCl[a]? = some (C, T, N)) : (∀ w ∈ u_ws C T N, w ∈ am_U) ∧ ∃ ty : Nat → FieldType, (∀ k, k < N → parseFieldDescriptor (T k).2.2.1 = some (ty k)) ∧ (∀ x, x < N → ∀ y, y < N → x ≠ y → (T x).2.1 ≠ (T y).2.1) ∧ (∀ j, j < N → defaultValue (ty j) = vp_V (am_dfl a) j) := by
  match a, h with
  | 0, h => cases h; exact ⟨am_cl0, tyX0, tyX0_ok, nmX0, by decide +kernel⟩
  | 1, h => cases h; exact ⟨am_cl1, tyX1, tyX1_ok, nmX1, by decide +kernel⟩
  | 2, h => cases h; exact ⟨am_cl2, tyX2, tyX2_ok, nmX2, by decide +kernel⟩
  | 3, h => cases h; exact ⟨am_cl3, tyX3, tyX3_ok, nmX3, by decide +kernel⟩
  | 4, h => cases h; exact ⟨am_cl4, tyX4, tyX4_ok, nmX4, by decide +kernel⟩
  | 5, h => cases h; exact ⟨am_cl5, tyX5, tyX5_ok, nmX5, by decide +kernel⟩
  | 6, h => cases h; exact ⟨am_cl6, tyX6, tyX6_ok, nmX6, by decide +kernel⟩
  | 7, h => cases h; exact ⟨am_cl7, tyX7, tyX7_ok, nmX7, by decide +kernel⟩
  | 8, h => cases h; exact ⟨am_cl8, tyX8, tyX8_ok, nmX8, by decide +kernel⟩
  | 9, h => cases h; exact ⟨am_cl9, tyX9, tyX9_ok, nmX9, by decide +kernel⟩
  | 10, h => cases h; exact ⟨am_cl10, tyX10, tyX10_ok, nmX10, by decide +kernel⟩
  | 11, h => cases h; exact ⟨am_cl11, tyX11, tyX11_ok, nmX11, by decide +kernel⟩
  | n + 12, h => simp at h
theorem am_cls_ini {a : Nat} {C : String} {T : u_T} {N : Nat} (h : vwCl[a]? = some (C, T, N)) : Jvm.Cond.initialized C ∈ am_U := by
  match a, h with
  | 0, h => cases h; exact am_at_U (pos := 80) (by decide +kernel) rfl
  | 1, h => cases h; exact am_at_U (pos := 79) (by decide +kernel) rfl
  | 2, h => cases h; exact am_at_U (pos := 84) (by decide +kernel) rfl
  | 3, h => cases h; exact am_at_U (pos := 86) (by decide +kernel) rfl
  | 4, h => cases h; exact am_at_U (pos := 78) (by decide +kernel) rfl
  | 5, h => cases h; exact am_at_U (pos := 81) (by decide +kernel) rfl
  | 6, h => cases h; exact am_at_U (pos := 85) (by decide +kernel) rfl
  | 7, h => cases h; exact am_at_U (pos := 82) (by decide +kernel) rfl
  | 8, h => cases h; exact am_at_U (pos := 83) (by decide +kernel) rfl
  | 9, h => cases h; exact am_at_U (pos := 77) (by decide +kernel) rfl
  | 10, h => cases h; exact am_at_U (pos := 76) (by decide +kernel) rfl
  | 11, h => cases h; exact am_at_U (pos := 87) (by decide +kernel) rfl
  | n + 12, h => simp at h
theorem am_w_an : Jvm.Cond.native arraycopyName ∈ am_U := am_at_U (pos := 635) (by decide +kernel) rfl
theorem am_w_as : Jvm.Cond.static arraycopyName ∈ am_U := am_at_U (pos := 634) (by decide +kernel) rfl
theorem am_w_ai : Jvm.Cond.initialized "java/lang/System" ∈ am_U := am_at_U (pos := 94) (by decide +kernel) rfl
theorem am_w_oi : Jvm.Cond.instanceMethod Lib.objectInit ∈ am_U := am_at_U (pos := 106) (by decide +kernel) rfl
theorem am_w_oc : Jvm.Cond.code Lib.objectInit ⟨#[0xb1]⟩ 1 none ∈ am_U := am_at_U (pos := 107) (by decide +kernel) rfl
theorem am_w_mi : Jvm.Cond.initialized "java/lang/Math" ∈ am_U := am_at_U (pos := 88) (by decide +kernel) rfl
theorem am_w_maxs : Jvm.Cond.static Lib.Math.max.name ∈ am_U := am_at_U (pos := 550) (by decide +kernel) rfl
theorem am_w_maxc : Jvm.Cond.code Lib.Math.max.name Lib.Math.max.code 2 (some .int) ∈ am_U := am_at_U (pos := 551) (by decide +kernel) rfl
theorem am_w_mins : Jvm.Cond.static Lib.Math.min.name ∈ am_U := am_at_U (pos := 499) (by decide +kernel) rfl
theorem am_w_minc : Jvm.Cond.code Lib.Math.min.name Lib.Math.min.code 2 (some .int) ∈ am_U := am_at_U (pos := 500) (by decide +kernel) rfl
theorem am_w_abss : Jvm.Cond.static Lib.Math.abs.name ∈ am_U := am_at_U (pos := 662) (by decide +kernel) rfl
theorem am_w_absc : Jvm.Cond.code Lib.Math.abs.name Lib.Math.abs.code 1 (some .int) ∈ am_U := am_at_U (pos := 663) (by decide +kernel) rfl
theorem am_w_maxls : Jvm.Cond.static Lib.MathLoose.max_long.x ∈ am_U := am_at_U (pos := 988) (by decide +kernel) rfl
theorem am_w_maxlc : Jvm.Cond.code Lib.MathLoose.max_long.x Lib.MathLoose.max_long.code 4 (some .long) ∈ am_U := am_at_U (pos := 989) (by decide +kernel) rfl
theorem am_w_absls : Jvm.Cond.static Lib.MathLoose.abs_long.x ∈ am_U := am_at_U (pos := 875) (by decide +kernel) rfl
theorem am_w_abslc : Jvm.Cond.code Lib.MathLoose.abs_long.x Lib.MathLoose.abs_long.code 2 (some .long) ∈ am_U := am_at_U (pos := 876) (by decide +kernel) rfl
end
section
/-! ONE STEP IS SOUND: what a step asks for makes the machine's own step. -/
def am_ty (dA : Nat → ClassId) : List (ClassId × FieldType) := [(dA 0, .int), (dA 1, .long), (dA 2, .boolean), (dA 3, .object RX4), (dA 4, .object RX1), (dA 5, .object RX0)]
def am_KX (U : State) : Prop := (∀ w ∈ am_nest, va_Nw w U) ∧ va_AO RX4 U ∧ va_AO RX1 U ∧ va_AO RX0 U
def am_Rel (mc n : Nat) (ad0 ad : Nat → Nat) : Prop := (mc = 0 → ad = ad0) ∧ ∀ k : Nat, k < n ∨ 1000000 ≤ k → ad k = ad0 k
def am_Ctx (p : Program) (R : Room) (s : State) (m : MethodId) (args : Array Value) (meth : Method) (c : Code) (dC : Nat → ClassId) (dI : Nat → Nat → Nat) (dA : Nat → ClassId) (d : Nat) (M : am_M) : Prop :=
  p.tables.exec = Jvm.exec ∧ c.code = am_mb M ∧ c.maxLocals = am_mL M ∧ s.vm.findClass (am_my M).cls = some m.cls ∧ (∀ w ∈ am_U, w.before args s = true) ∧ ((am_my M).name = "<init>" → meth.name = "<init>") ∧ va_K (dC, dI) vwCl (am_ty dA) s ∧ am_KX s ∧ R.cells = am_mc M ∧ R.slots = am_ms M ∧ d + 40 ≤ R.frames ∧ 80 * d + 2000 ≤ R.locals
def am_Wd (dC : Nat → ClassId) (dI : Nat → Nat → Nat) (dA : Nat → ClassId) (A : Nat → Prop) (H0 : Heap) (ad : Nat → Nat) (G : am_G) (H : Heap) (locs : List Loc) : Prop :=
  va_P (dC, dI) vwCl (am_cw dA ad G) H ∧ va_D A (am_cw dA ad G) ∧ va_S A H0 H locs
def am_W (p : Program) (l : Launch) (e : Env) (R : Room) (s : State) (m : MethodId) (args : Array Value) (below : List Frame) (meth : Method) (c : Code) (dC : Nat → ClassId) (dI : Nat → Nat → Nat) (dA : Nat → ClassId) (M : am_M) (A : Nat → Prop) (H0 : Heap) (ad0 : Nat → Nat) (n0 : Nat) (QW : State → Prop) : am_P := fun pc L st G nc ns =>
  ∀ (ad : Nat → Nat) (H : Heap) (locs : List Loc) (ls : Array Slot), am_Rel (am_mc M) n0 ad0 ad → n0 ≤ G.length → am_Wd dC dI dA A H0 ad G H locs → am_nod L → am_LH ls (am_mL M) L ad → nc ≤ am_mc M ∧ ns ≤ am_ms M → W p l e R s m args below meth c H locs nc ns QW (F0 m pc ls (st.map (am_cv ad)))
theorem am_fld_ok {own : String} {idx a b pos : Nat} (h : am_fld own idx a b pos = true) : ∃ (C : String) (T : u_T) (N : Nat), vwCl[a]? = some (C, T, N) ∧ b < N ∧ (T b).1 = C ∧ Jvm.Cond.fieldLink own idx C (T b).2.1 (T b).2.2.1 ∈ am_U := by
  unfold am_fld at h
  split at h
  · rename_i C T N hq
    simp only [Bool.and_eq_true, decide_eq_true_eq] at h
    exact ⟨C, T, N, hq, h.1.1, h.1.2, am_at_U h.2 rfl⟩
  · cases h
theorem am_set_O {dA : Nat → ClassId} {ad : Nat → Nat} {G : am_G} {o ci b : Nat} {fs : List Value} {v : Value} : (am_cw dA ad G).set o (ad o, .inr (ci, (fs.map (am_cv ad)).set b (am_cv ad v))) = am_cw dA ad (G.set o (.inr (.inr (.inr (ci, fs.set b v))))) := by
  rw [← am_cw_set]
  simp only [am_ce, List.map_set]
theorem am_set_R {dA : Nat → ClassId} {ad : Nat → Nat} {G : am_G} {o k i v : Nat} {l : List (Option Nat)} (hi : i < l.length) : (am_cw dA ad G).set o (ad o, .inl (dA k, l.length, .inr (.inr (.inr (.inr (va_up (fun j => (l.getD j none).map ad) i (some (ad v)))))))) = am_cw dA ad (G.set o (.inr (.inr (.inl (k, l.set i (some v)))))) := by
  rw [← am_cw_set]
  simp only [am_ce, List.length_set]
  congr 9
  funext j
  simp only [va_up, List.getD_eq_getElem?_getD, List.getElem?_set]
  by_cases h : j = i
  · subst h
    simp [hi]
  · simp [h, Ne.symm h]
theorem am_prim {dC : Nat → ClassId} {dI : Nat → Nat → Nat} {dA : Nat → ClassId} {s : State} {a : Nat} {cA : ClassId} {ty : FieldType} (ha : a < 3) (hty : newarray.typeOf (am_aty a) = ty) (hK : va_K (dC, dI) vwCl (am_ty dA) s) (h : va_K (dC, dI) vwCl (am_ty dA ++ [(cA, ty)]) s) : cA = dA a := by
  have h1 := (h.2 6 (cA, ty) rfl).2
  match a, ha with
  | 0, _ =>
    cases hty
    have h2 := (hK.2 0 (dA 0, .int) rfl).2
    exact Option.some.inj (h1.symm.trans h2)
  | 1, _ =>
    cases hty
    have h2 := (hK.2 1 (dA 1, .long) rfl).2
    exact Option.some.inj (h1.symm.trans h2)
  | 2, _ =>
    cases hty
    have h2 := (hK.2 2 (dA 2, .boolean) rfl).2
    exact Option.some.inj (h1.symm.trans h2)
theorem am_obj {dC : Nat → ClassId} {dI : Nat → Nat → Nat} {dA : Nat → ClassId} {s : State} {k : Nat} {cA : ClassId} {C : String} (hk : (am_ty dA)[k]? = some (dA k, .object C)) (hK : va_K (dC, dI) vwCl (am_ty dA) s) (h : va_K (dC, dI) vwCl (am_ty dA ++ [(cA, .object C)]) s) : cA = dA k := by
  obtain ⟨_, _, _, _, _, h1⟩ := (h.2 6 (cA, .object C) rfl).2
  obtain ⟨_, _, _, _, _, h2⟩ := (hK.2 k (dA k, .object C) hk).2
  exact Option.some.inj (h1.symm.trans h2)
theorem am_Wd_new {dC : Nat → ClassId} {dI : Nat → Nat → Nat} {dA : Nat → ClassId} {A : Nat → Prop} {H0 H1 : Heap} {ad : Nat → Nat} {G : am_G} {e : am_E} {ee : va_E} {locs : List Loc} {q : Nat} (hw : G.all (am_wfE G.length) = true) (he : am_ce dA (va_up ad G.length q) e = ee) (hP : va_P (dC, dI) vwCl (am_cw dA ad G ++ [(q, ee)]) H1) (hD : va_D A (am_cw dA ad G ++ [(q, ee)])) (hS : va_S A H0 H1 locs) (hbig : G.length < 1000000) : am_Wd dC dI dA A H0 (va_up ad G.length q) (G ++ [e]) H1 locs := by
  have hx : ∀ k : Nat, k < G.length ∨ 1000000 ≤ k → va_up ad G.length q k = ad k := fun k hk => by
    simp only [va_up]
    rw [if_neg (by omega)]
  have e1 : am_cw dA (va_up ad G.length q) (G ++ [e]) = am_cw dA ad G ++ [(q, ee)] := by
    rw [am_cw_push, am_cw_ad hx (Nat.le_refl _) hw, he]
    simp [va_up]
  exact ⟨by rw [e1]; exact hP, by rw [e1]; exact hD, hS⟩
theorem am_st_ad {n : Nat} {ad ad1 : Nat → Nat} (h : ∀ k : Nat, k < n ∨ 1000000 ≤ k → ad1 k = ad k) {st : List Value} (hst : st.all (am_wfv n) = true) : st.map (am_cv ad1) = st.map (am_cv ad) := List.map_congr_left fun v hv => am_cv_ad h (List.all_eq_true.mp hst v hv)
theorem am_LH_ad {n : Nat} {ad ad1 : Nat → Nat} (h : ∀ k : Nat, k < n ∨ 1000000 ≤ k → ad1 k = ad k) {ls : Array Slot} {nL : Nat} {L : am_L} (hw : am_wfL n L = true) (hl : am_LH ls nL L ad) : am_LH ls nL L ad1 := by
  refine ⟨hl.1, am_LH_sub hl.2 fun q hq => ?_⟩
  obtain ⟨v, h1, h2⟩ := am_lv_mem.mp hq
  have h3 := List.all_eq_true.mp hw (some v) (List.mem_of_getElem? h1)
  exact am_lv_mem.mpr ⟨v, h1, h2.trans (am_cv_ad h h3)⟩
section AMS
variable {p : Program} {l : Launch} {e : Env} {R : Room} {s : State} {m : MethodId} {args : Array Value} {below : List Frame} {meth : Method} {c : Code} {dC : Nat → ClassId} {dI : Nat → Nat → Nat} {dA : Nat → ClassId} {d : Nat} {M : am_M} {A : Nat → Prop} {H0 : Heap} {ad0 : Nat → Nat} {n0 : Nat} {QW : State → Prop} {MT : Nat → Option am_M} {scr : Option (Nat × (Nat → Int32))}

theorem am_i_iconst {n : Int} (hC : am_Ctx p R s m args meth c dC dI dA d M) {P0 : am_P} (hm : ∀ pc L st G nc ns, P0 pc L st G nc ns → am_W p l e R s m args below meth c dC dI dA M A H0 ad0 n0 QW pc L st G nc ns) {C : am_C} {Q : Option Value → am_G → Prop} {X : am_P} {pc npc a b t u pos : Nat} {cv : Int32} {cl : Int64} {L : am_L} {st : List Value} {G : am_G} {nc ns : Nat} (hd : decode (am_mb M) pc = .ok (.iconst n, am_len (.iconst n) (npc - pc))) (hn : npc = pc + am_len (.iconst n) (npc - pc)) (hok : am_okX MT M pc (.iconst n) a b t u pos cv cl = true) (h : am_ins C M scr Q X P0 pc (.iconst n) npc a b t u cv cl L st G nc ns) : am_W p l e R s m args below meth c dC dI dA M A H0 ad0 n0 QW pc L st G nc ns := by
  obtain ⟨hx, hb, hml, hown, hts, hini, hK, hKX, hRc, hRs, hRf, hRl⟩ := hC
  have hn : npc = pc + 1 := hn
  subst hn
  simp only [am_okX, decide_eq_true_eq] at hok
  intro ad H locs ls hrel hn0 hw hnd hL hcs
  exact lv_iconst hx hb hd hok (hm _ _ _ _ _ _ h ad H locs ls hrel hn0 hw hnd hL hcs)

theorem am_i_bipush {n : Int} (hC : am_Ctx p R s m args meth c dC dI dA d M) {P0 : am_P} (hm : ∀ pc L st G nc ns, P0 pc L st G nc ns → am_W p l e R s m args below meth c dC dI dA M A H0 ad0 n0 QW pc L st G nc ns) {C : am_C} {Q : Option Value → am_G → Prop} {X : am_P} {pc npc a b t u pos : Nat} {cv : Int32} {cl : Int64} {L : am_L} {st : List Value} {G : am_G} {nc ns : Nat} (hd : decode (am_mb M) pc = .ok (.bipush n, am_len (.bipush n) (npc - pc))) (hn : npc = pc + am_len (.bipush n) (npc - pc)) (hok : am_okX MT M pc (.bipush n) a b t u pos cv cl = true) (h : am_ins C M scr Q X P0 pc (.bipush n) npc a b t u cv cl L st G nc ns) : am_W p l e R s m args below meth c dC dI dA M A H0 ad0 n0 QW pc L st G nc ns := by
  obtain ⟨hx, hb, hml, hown, hts, hini, hK, hKX, hRc, hRs, hRf, hRl⟩ := hC
  have hn : npc = pc + 2 := hn
  subst hn
  simp only [am_okX, decide_eq_true_eq] at hok
  intro ad H locs ls hrel hn0 hw hnd hL hcs
  exact lv_bipush hx hb hd hok (hm _ _ _ _ _ _ h ad H locs ls hrel hn0 hw hnd hL hcs)

theorem am_i_sipush {n : Int} (hC : am_Ctx p R s m args meth c dC dI dA d M) {P0 : am_P} (hm : ∀ pc L st G nc ns, P0 pc L st G nc ns → am_W p l e R s m args below meth c dC dI dA M A H0 ad0 n0 QW pc L st G nc ns) {C : am_C} {Q : Option Value → am_G → Prop} {X : am_P} {pc npc a b t u pos : Nat} {cv : Int32} {cl : Int64} {L : am_L} {st : List Value} {G : am_G} {nc ns : Nat} (hd : decode (am_mb M) pc = .ok (.sipush n, am_len (.sipush n) (npc - pc))) (hn : npc = pc + am_len (.sipush n) (npc - pc)) (hok : am_okX MT M pc (.sipush n) a b t u pos cv cl = true) (h : am_ins C M scr Q X P0 pc (.sipush n) npc a b t u cv cl L st G nc ns) : am_W p l e R s m args below meth c dC dI dA M A H0 ad0 n0 QW pc L st G nc ns := by
  obtain ⟨hx, hb, hml, hown, hts, hini, hK, hKX, hRc, hRs, hRf, hRl⟩ := hC
  have hn : npc = pc + 3 := hn
  subst hn
  simp only [am_okX, decide_eq_true_eq] at hok
  intro ad H locs ls hrel hn0 hw hnd hL hcs
  exact lv_sipush hx hb hd hok (hm _ _ _ _ _ _ h ad H locs ls hrel hn0 hw hnd hL hcs)

theorem am_i_lconst {n : Fin 2} (hC : am_Ctx p R s m args meth c dC dI dA d M) {P0 : am_P} (hm : ∀ pc L st G nc ns, P0 pc L st G nc ns → am_W p l e R s m args below meth c dC dI dA M A H0 ad0 n0 QW pc L st G nc ns) {C : am_C} {Q : Option Value → am_G → Prop} {X : am_P} {pc npc a b t u pos : Nat} {cv : Int32} {cl : Int64} {L : am_L} {st : List Value} {G : am_G} {nc ns : Nat} (hd : decode (am_mb M) pc = .ok (.lconst n, am_len (.lconst n) (npc - pc))) (hn : npc = pc + am_len (.lconst n) (npc - pc)) (hok : am_okX MT M pc (.lconst n) a b t u pos cv cl = true) (h : am_ins C M scr Q X P0 pc (.lconst n) npc a b t u cv cl L st G nc ns) : am_W p l e R s m args below meth c dC dI dA M A H0 ad0 n0 QW pc L st G nc ns := by
  obtain ⟨hx, hb, hml, hown, hts, hini, hK, hKX, hRc, hRs, hRf, hRl⟩ := hC
  have hn : npc = pc + 1 := hn
  subst hn
  simp only [am_okX, decide_eq_true_eq] at hok
  intro ad H locs ls hrel hn0 hw hnd hL hcs
  exact lv_lconst hx hb hd hok (hm _ _ _ _ _ _ h ad H locs ls hrel hn0 hw hnd hL hcs)

theorem am_i_ldc2 {n : Nat} (hC : am_Ctx p R s m args meth c dC dI dA d M) {P0 : am_P} (hm : ∀ pc L st G nc ns, P0 pc L st G nc ns → am_W p l e R s m args below meth c dC dI dA M A H0 ad0 n0 QW pc L st G nc ns) {C : am_C} {Q : Option Value → am_G → Prop} {X : am_P} {pc npc a b t u pos : Nat} {cv : Int32} {cl : Int64} {L : am_L} {st : List Value} {G : am_G} {nc ns : Nat} (hd : decode (am_mb M) pc = .ok (.ldc2_w n, am_len (.ldc2_w n) (npc - pc))) (hn : npc = pc + am_len (.ldc2_w n) (npc - pc)) (hok : am_okX MT M pc (.ldc2_w n) a b t u pos cv cl = true) (h : am_ins C M scr Q X P0 pc (.ldc2_w n) npc a b t u cv cl L st G nc ns) : am_W p l e R s m args below meth c dC dI dA M A H0 ad0 n0 QW pc L st G nc ns := by
  obtain ⟨hx, hb, hml, hown, hts, hini, hK, hKX, hRc, hRs, hRf, hRl⟩ := hC
  have hn : npc = pc + 3 := hn
  subst hn
  have hw1 := hts _ (am_at_U hok rfl)
  intro ad H locs ls hrel hn0 hw hnd hL hcs
  exact lv_ldc2 hx hb hown hw1 hd (hm _ _ _ _ _ _ h ad H locs ls hrel hn0 hw hnd hL hcs)

theorem am_i_ldc {n : Nat} (hC : am_Ctx p R s m args meth c dC dI dA d M) {P0 : am_P} (hm : ∀ pc L st G nc ns, P0 pc L st G nc ns → am_W p l e R s m args below meth c dC dI dA M A H0 ad0 n0 QW pc L st G nc ns) {C : am_C} {Q : Option Value → am_G → Prop} {X : am_P} {pc npc a b t u pos : Nat} {cv : Int32} {cl : Int64} {L : am_L} {st : List Value} {G : am_G} {nc ns : Nat} (hd : decode (am_mb M) pc = .ok (.ldc n, am_len (.ldc n) (npc - pc))) (hn : npc = pc + am_len (.ldc n) (npc - pc)) (hok : am_okX MT M pc (.ldc n) a b t u pos cv cl = true) (h : am_ins C M scr Q X P0 pc (.ldc n) npc a b t u cv cl L st G nc ns) (hstr : ∀ (n b : Nat), 1000000 ≤ b → am_sk (b - 1000000) = some ((am_my M).cls, n) → decode (am_mb M) pc = .ok (.ldc n, 2) → ∀ (ad : Nat → Nat) (H : Heap) (locs : List Loc) (ls : Array Slot), am_Rel (am_mc M) n0 ad0 ad → n0 ≤ G.length → am_Wd dC dI dA A H0 ad G H locs → am_nod L → am_LH ls (am_mL M) L ad → nc ≤ am_mc M ∧ ns ≤ am_ms M → W p l e R s m args below meth c H locs nc ns QW (F0 m (pc + 2) ls ((.ref b :: st).map (am_cv ad))) → W p l e R s m args below meth c H locs nc ns QW (F0 m pc ls (st.map (am_cv ad)))) : am_W p l e R s m args below meth c dC dI dA M A H0 ad0 n0 QW pc L st G nc ns := by
  obtain ⟨hx, hb, hml, hown, hts, hini, hK, hKX, hRc, hRs, hRf, hRl⟩ := hC
  have hn : npc = pc + 2 := hn
  subst hn
  match t, hok, h with
  | 0, hok, h =>
    have hw1 := hts _ (am_at_U hok rfl)
    intro ad H locs ls hrel hn0 hw hnd hL hcs
    exact lv_ldc hx hb hown hw1 hd (hm _ _ _ _ _ _ h ad H locs ls hrel hn0 hw hnd hL hcs)
  | t + 1, hok, h =>
    simp only [am_okX, Bool.and_eq_true, decide_eq_true_eq] at hok
    intro ad H locs ls hrel hn0 hw hnd hL hcs
    exact hstr n b hok.1 hok.2 hd ad H locs ls hrel hn0 hw hnd hL hcs (hm _ _ _ _ _ _ h ad H locs ls hrel hn0 hw hnd hL hcs)

theorem am_i_ldc_w {n : Nat} (hC : am_Ctx p R s m args meth c dC dI dA d M) {P0 : am_P} (hm : ∀ pc L st G nc ns, P0 pc L st G nc ns → am_W p l e R s m args below meth c dC dI dA M A H0 ad0 n0 QW pc L st G nc ns) {C : am_C} {Q : Option Value → am_G → Prop} {X : am_P} {pc npc a b t u pos : Nat} {cv : Int32} {cl : Int64} {L : am_L} {st : List Value} {G : am_G} {nc ns : Nat} (hd : decode (am_mb M) pc = .ok (.ldc_w n, am_len (.ldc_w n) (npc - pc))) (hn : npc = pc + am_len (.ldc_w n) (npc - pc)) (hok : am_okX MT M pc (.ldc_w n) a b t u pos cv cl = true) (h : am_ins C M scr Q X P0 pc (.ldc_w n) npc a b t u cv cl L st G nc ns) (hstr : ∀ (n b : Nat), 1000000 ≤ b → am_sk (b - 1000000) = some ((am_my M).cls, n) → decode (am_mb M) pc = .ok (.ldc_w n, 3) → ∀ (ad : Nat → Nat) (H : Heap) (locs : List Loc) (ls : Array Slot), am_Rel (am_mc M) n0 ad0 ad → n0 ≤ G.length → am_Wd dC dI dA A H0 ad G H locs → am_nod L → am_LH ls (am_mL M) L ad → nc ≤ am_mc M ∧ ns ≤ am_ms M → W p l e R s m args below meth c H locs nc ns QW (F0 m (pc + 3) ls ((.ref b :: st).map (am_cv ad))) → W p l e R s m args below meth c H locs nc ns QW (F0 m pc ls (st.map (am_cv ad)))) : am_W p l e R s m args below meth c dC dI dA M A H0 ad0 n0 QW pc L st G nc ns := by
  obtain ⟨hx, hb, hml, hown, hts, hini, hK, hKX, hRc, hRs, hRf, hRl⟩ := hC
  have hn : npc = pc + 3 := hn
  subst hn
  match t, hok, h with
  | 0, hok, h =>
    have hw1 := hts _ (am_at_U hok rfl)
    intro ad H locs ls hrel hn0 hw hnd hL hcs
    exact lv_ldcw hx hb hown hw1 hd (hm _ _ _ _ _ _ h ad H locs ls hrel hn0 hw hnd hL hcs)
  | t + 1, hok, h =>
    simp only [am_okX, Bool.and_eq_true, decide_eq_true_eq] at hok
    intro ad H locs ls hrel hn0 hw hnd hL hcs
    exact hstr n b hok.1 hok.2 hd ad H locs ls hrel hn0 hw hnd hL hcs (hm _ _ _ _ _ _ h ad H locs ls hrel hn0 hw hnd hL hcs)

theorem am_i_iload_n {k : Fin 4} (hC : am_Ctx p R s m args meth c dC dI dA d M) {P0 : am_P} (hm : ∀ pc L st G nc ns, P0 pc L st G nc ns → am_W p l e R s m args below meth c dC dI dA M A H0 ad0 n0 QW pc L st G nc ns) {C : am_C} {Q : Option Value → am_G → Prop} {X : am_P} {pc npc a b t u pos : Nat} {cv : Int32} {cl : Int64} {L : am_L} {st : List Value} {G : am_G} {nc ns : Nat} (hd : decode (am_mb M) pc = .ok (.iload_n k, am_len (.iload_n k) (npc - pc))) (hn : npc = pc + am_len (.iload_n k) (npc - pc)) (hok : am_okX MT M pc (.iload_n k) a b t u pos cv cl = true) (h : am_ins C M scr Q X P0 pc (.iload_n k) npc a b t u cv cl L st G nc ns) : am_W p l e R s m args below meth c dC dI dA M A H0 ad0 n0 QW pc L st G nc ns := by
  obtain ⟨hx, hb, hml, hown, hts, hini, hK, hKX, hRc, hRs, hRf, hRl⟩ := hC
  have hn : npc = pc + 1 := hn
  subst hn
  simp only [am_okX, decide_eq_true_eq] at hok
  simp only [am_ins] at h
  split at h
  · rename_i hq
    intro ad H locs ls hrel hn0 hw hnd hL hcs
    exact lv_iload_n hx hb hd hok (am_LH_at hL hq) (hm _ _ _ _ _ _ h ad H locs ls hrel hn0 hw hnd hL hcs)
  · exact h.elim

theorem am_i_iload {k : Nat} (hC : am_Ctx p R s m args meth c dC dI dA d M) {P0 : am_P} (hm : ∀ pc L st G nc ns, P0 pc L st G nc ns → am_W p l e R s m args below meth c dC dI dA M A H0 ad0 n0 QW pc L st G nc ns) {C : am_C} {Q : Option Value → am_G → Prop} {X : am_P} {pc npc a b t u pos : Nat} {cv : Int32} {cl : Int64} {L : am_L} {st : List Value} {G : am_G} {nc ns : Nat} (hd : decode (am_mb M) pc = .ok (.iload k, am_len (.iload k) (npc - pc))) (hn : npc = pc + am_len (.iload k) (npc - pc)) (hok : am_okX MT M pc (.iload k) a b t u pos cv cl = true) (h : am_ins C M scr Q X P0 pc (.iload k) npc a b t u cv cl L st G nc ns) : am_W p l e R s m args below meth c dC dI dA M A H0 ad0 n0 QW pc L st G nc ns := by
  obtain ⟨hx, hb, hml, hown, hts, hini, hK, hKX, hRc, hRs, hRf, hRl⟩ := hC
  have hn : npc = pc + 2 := hn
  subst hn
  simp only [am_okX, decide_eq_true_eq] at hok
  simp only [am_ins] at h
  split at h
  · rename_i hq
    subst hok
    intro ad H locs ls hrel hn0 hw hnd hL hcs
    exact lv_iload hx hb hd (am_LH_at hL hq) (hm _ _ _ _ _ _ h ad H locs ls hrel hn0 hw hnd hL hcs)
  · exact h.elim

theorem am_i_lload_n {k : Fin 4} (hC : am_Ctx p R s m args meth c dC dI dA d M) {P0 : am_P} (hm : ∀ pc L st G nc ns, P0 pc L st G nc ns → am_W p l e R s m args below meth c dC dI dA M A H0 ad0 n0 QW pc L st G nc ns) {C : am_C} {Q : Option Value → am_G → Prop} {X : am_P} {pc npc a b t u pos : Nat} {cv : Int32} {cl : Int64} {L : am_L} {st : List Value} {G : am_G} {nc ns : Nat} (hd : decode (am_mb M) pc = .ok (.lload_n k, am_len (.lload_n k) (npc - pc))) (hn : npc = pc + am_len (.lload_n k) (npc - pc)) (hok : am_okX MT M pc (.lload_n k) a b t u pos cv cl = true) (h : am_ins C M scr Q X P0 pc (.lload_n k) npc a b t u cv cl L st G nc ns) : am_W p l e R s m args below meth c dC dI dA M A H0 ad0 n0 QW pc L st G nc ns := by
  obtain ⟨hx, hb, hml, hown, hts, hini, hK, hKX, hRc, hRs, hRf, hRl⟩ := hC
  have hn : npc = pc + 1 := hn
  subst hn
  simp only [am_okX, decide_eq_true_eq] at hok
  simp only [am_ins] at h
  split at h
  · rename_i hq
    intro ad H locs ls hrel hn0 hw hnd hL hcs
    exact lv_lload_n hx hb hd hok (am_LH_at hL hq) (hm _ _ _ _ _ _ h ad H locs ls hrel hn0 hw hnd hL hcs)
  · exact h.elim

theorem am_i_lload {k : Nat} (hC : am_Ctx p R s m args meth c dC dI dA d M) {P0 : am_P} (hm : ∀ pc L st G nc ns, P0 pc L st G nc ns → am_W p l e R s m args below meth c dC dI dA M A H0 ad0 n0 QW pc L st G nc ns) {C : am_C} {Q : Option Value → am_G → Prop} {X : am_P} {pc npc a b t u pos : Nat} {cv : Int32} {cl : Int64} {L : am_L} {st : List Value} {G : am_G} {nc ns : Nat} (hd : decode (am_mb M) pc = .ok (.lload k, am_len (.lload k) (npc - pc))) (hn : npc = pc + am_len (.lload k) (npc - pc)) (hok : am_okX MT M pc (.lload k) a b t u pos cv cl = true) (h : am_ins C M scr Q X P0 pc (.lload k) npc a b t u cv cl L st G nc ns) : am_W p l e R s m args below meth c dC dI dA M A H0 ad0 n0 QW pc L st G nc ns := by
  obtain ⟨hx, hb, hml, hown, hts, hini, hK, hKX, hRc, hRs, hRf, hRl⟩ := hC
  have hn : npc = pc + 2 := hn
  subst hn
  simp only [am_okX, decide_eq_true_eq] at hok
  simp only [am_ins] at h
  split at h
  · rename_i hq
    subst hok
    intro ad H locs ls hrel hn0 hw hnd hL hcs
    exact lv_lload hx hb hd (am_LH_at hL hq) (hm _ _ _ _ _ _ h ad H locs ls hrel hn0 hw hnd hL hcs)
  · exact h.elim

theorem am_i_aload_n {k : Fin 4} (hC : am_Ctx p R s m args meth c dC dI dA d M) {P0 : am_P} (hm : ∀ pc L st G nc ns, P0 pc L st G nc ns → am_W p l e R s m args below meth c dC dI dA M A H0 ad0 n0 QW pc L st G nc ns) {C : am_C} {Q : Option Value → am_G → Prop} {X : am_P} {pc npc a b t u pos : Nat} {cv : Int32} {cl : Int64} {L : am_L} {st : List Value} {G : am_G} {nc ns : Nat} (hd : decode (am_mb M) pc = .ok (.aload_n k, am_len (.aload_n k) (npc - pc))) (hn : npc = pc + am_len (.aload_n k) (npc - pc)) (hok : am_okX MT M pc (.aload_n k) a b t u pos cv cl = true) (h : am_ins C M scr Q X P0 pc (.aload_n k) npc a b t u cv cl L st G nc ns) : am_W p l e R s m args below meth c dC dI dA M A H0 ad0 n0 QW pc L st G nc ns := by
  obtain ⟨hx, hb, hml, hown, hts, hini, hK, hKX, hRc, hRs, hRf, hRl⟩ := hC
  have hn : npc = pc + 1 := hn
  subst hn
  simp only [am_okX, decide_eq_true_eq] at hok
  simp only [am_ins] at h
  split at h
  · rename_i hq
    intro ad H locs ls hrel hn0 hw hnd hL hcs
    exact lv_aload_n hx hb hd hok (am_LH_at hL hq) (hm _ _ _ _ _ _ h ad H locs ls hrel hn0 hw hnd hL hcs)
  · exact h.elim

theorem am_i_aload {k : Nat} (hC : am_Ctx p R s m args meth c dC dI dA d M) {P0 : am_P} (hm : ∀ pc L st G nc ns, P0 pc L st G nc ns → am_W p l e R s m args below meth c dC dI dA M A H0 ad0 n0 QW pc L st G nc ns) {C : am_C} {Q : Option Value → am_G → Prop} {X : am_P} {pc npc a b t u pos : Nat} {cv : Int32} {cl : Int64} {L : am_L} {st : List Value} {G : am_G} {nc ns : Nat} (hd : decode (am_mb M) pc = .ok (.aload k, am_len (.aload k) (npc - pc))) (hn : npc = pc + am_len (.aload k) (npc - pc)) (hok : am_okX MT M pc (.aload k) a b t u pos cv cl = true) (h : am_ins C M scr Q X P0 pc (.aload k) npc a b t u cv cl L st G nc ns) : am_W p l e R s m args below meth c dC dI dA M A H0 ad0 n0 QW pc L st G nc ns := by
  obtain ⟨hx, hb, hml, hown, hts, hini, hK, hKX, hRc, hRs, hRf, hRl⟩ := hC
  have hn : npc = pc + 2 := hn
  subst hn
  simp only [am_okX, decide_eq_true_eq] at hok
  simp only [am_ins] at h
  split at h
  · rename_i hq
    subst hok
    intro ad H locs ls hrel hn0 hw hnd hL hcs
    exact lv_aload hx hb hd (am_LH_at hL hq) (hm _ _ _ _ _ _ h ad H locs ls hrel hn0 hw hnd hL hcs)
  · exact h.elim

theorem am_i_istore_n {k : Fin 4} (hC : am_Ctx p R s m args meth c dC dI dA d M) {P0 : am_P} (hm : ∀ pc L st G nc ns, P0 pc L st G nc ns → am_W p l e R s m args below meth c dC dI dA M A H0 ad0 n0 QW pc L st G nc ns) {C : am_C} {Q : Option Value → am_G → Prop} {X : am_P} {pc npc a b t u pos : Nat} {cv : Int32} {cl : Int64} {L : am_L} {st : List Value} {G : am_G} {nc ns : Nat} (hd : decode (am_mb M) pc = .ok (.istore_n k, am_len (.istore_n k) (npc - pc))) (hn : npc = pc + am_len (.istore_n k) (npc - pc)) (hok : am_okX MT M pc (.istore_n k) a b t u pos cv cl = true) (h : am_ins C M scr Q X P0 pc (.istore_n k) npc a b t u cv cl L st G nc ns) : am_W p l e R s m args below meth c dC dI dA M A H0 ad0 n0 QW pc L st G nc ns := by
  obtain ⟨hx, hb, hml, hown, hts, hini, hK, hKX, hRc, hRs, hRf, hRl⟩ := hC
  have hn : npc = pc + 1 := hn
  subst hn
  simp only [am_okX, Bool.and_eq_true, decide_eq_true_eq] at hok
  simp only [am_ins] at h
  split at h
  · intro ad H locs ls hrel hn0 hw hnd hL hcs
    exact lv_istore_n hx hb hd hok.1 hL.2 hok.2 rfl (fun ls2 hl2 => hm _ _ _ _ _ _ h ad H locs ls2 hrel hn0 hw ((am_nod_st1 hnd rfl)) (am_st1_LH hnd hL.1 hl2) hcs)
  · exact h.elim

theorem am_i_istore {k : Nat} (hC : am_Ctx p R s m args meth c dC dI dA d M) {P0 : am_P} (hm : ∀ pc L st G nc ns, P0 pc L st G nc ns → am_W p l e R s m args below meth c dC dI dA M A H0 ad0 n0 QW pc L st G nc ns) {C : am_C} {Q : Option Value → am_G → Prop} {X : am_P} {pc npc a b t u pos : Nat} {cv : Int32} {cl : Int64} {L : am_L} {st : List Value} {G : am_G} {nc ns : Nat} (hd : decode (am_mb M) pc = .ok (.istore k, am_len (.istore k) (npc - pc))) (hn : npc = pc + am_len (.istore k) (npc - pc)) (hok : am_okX MT M pc (.istore k) a b t u pos cv cl = true) (h : am_ins C M scr Q X P0 pc (.istore k) npc a b t u cv cl L st G nc ns) : am_W p l e R s m args below meth c dC dI dA M A H0 ad0 n0 QW pc L st G nc ns := by
  obtain ⟨hx, hb, hml, hown, hts, hini, hK, hKX, hRc, hRs, hRf, hRl⟩ := hC
  have hn : npc = pc + 2 := hn
  subst hn
  simp only [am_okX, Bool.and_eq_true, decide_eq_true_eq] at hok
  simp only [am_ins] at h
  split at h
  · obtain ⟨rfl, hlt⟩ := hok
    intro ad H locs ls hrel hn0 hw hnd hL hcs
    exact lv_istore hx hb hd hL.2 hlt rfl (fun ls2 hl2 => hm _ _ _ _ _ _ h ad H locs ls2 hrel hn0 hw ((am_nod_st1 hnd rfl)) (am_st1_LH hnd hL.1 hl2) hcs)
  · exact h.elim

theorem am_i_astore_n {k : Fin 4} (hC : am_Ctx p R s m args meth c dC dI dA d M) {P0 : am_P} (hm : ∀ pc L st G nc ns, P0 pc L st G nc ns → am_W p l e R s m args below meth c dC dI dA M A H0 ad0 n0 QW pc L st G nc ns) {C : am_C} {Q : Option Value → am_G → Prop} {X : am_P} {pc npc a b t u pos : Nat} {cv : Int32} {cl : Int64} {L : am_L} {st : List Value} {G : am_G} {nc ns : Nat} (hd : decode (am_mb M) pc = .ok (.astore_n k, am_len (.astore_n k) (npc - pc))) (hn : npc = pc + am_len (.astore_n k) (npc - pc)) (hok : am_okX MT M pc (.astore_n k) a b t u pos cv cl = true) (h : am_ins C M scr Q X P0 pc (.astore_n k) npc a b t u cv cl L st G nc ns) : am_W p l e R s m args below meth c dC dI dA M A H0 ad0 n0 QW pc L st G nc ns := by
  obtain ⟨hx, hb, hml, hown, hts, hini, hK, hKX, hRc, hRs, hRf, hRl⟩ := hC
  have hn : npc = pc + 1 := hn
  subst hn
  simp only [am_okX, Bool.and_eq_true, decide_eq_true_eq] at hok
  simp only [am_ins] at h
  split at h
  · intro ad H locs ls hrel hn0 hw hnd hL hcs
    exact lv_astore_n hx hb hd hok.1 hL.2 hok.2 rfl (fun ls2 hl2 => hm _ _ _ _ _ _ h ad H locs ls2 hrel hn0 hw ((am_nod_st1 hnd rfl)) (am_st1_LH hnd hL.1 hl2) hcs)
  · exact h.elim

theorem am_i_astore {k : Nat} (hC : am_Ctx p R s m args meth c dC dI dA d M) {P0 : am_P} (hm : ∀ pc L st G nc ns, P0 pc L st G nc ns → am_W p l e R s m args below meth c dC dI dA M A H0 ad0 n0 QW pc L st G nc ns) {C : am_C} {Q : Option Value → am_G → Prop} {X : am_P} {pc npc a b t u pos : Nat} {cv : Int32} {cl : Int64} {L : am_L} {st : List Value} {G : am_G} {nc ns : Nat} (hd : decode (am_mb M) pc = .ok (.astore k, am_len (.astore k) (npc - pc))) (hn : npc = pc + am_len (.astore k) (npc - pc)) (hok : am_okX MT M pc (.astore k) a b t u pos cv cl = true) (h : am_ins C M scr Q X P0 pc (.astore k) npc a b t u cv cl L st G nc ns) : am_W p l e R s m args below meth c dC dI dA M A H0 ad0 n0 QW pc L st G nc ns := by
  obtain ⟨hx, hb, hml, hown, hts, hini, hK, hKX, hRc, hRs, hRf, hRl⟩ := hC
  have hn : npc = pc + 2 := hn
  subst hn
  simp only [am_okX, Bool.and_eq_true, decide_eq_true_eq] at hok
  simp only [am_ins] at h
  split at h
  · obtain ⟨rfl, hlt⟩ := hok
    intro ad H locs ls hrel hn0 hw hnd hL hcs
    exact lv_astore hx hb hd hL.2 hlt rfl (fun ls2 hl2 => hm _ _ _ _ _ _ h ad H locs ls2 hrel hn0 hw ((am_nod_st1 hnd rfl)) (am_st1_LH hnd hL.1 hl2) hcs)
  · exact h.elim

theorem am_i_lstore_n {k : Fin 4} (hC : am_Ctx p R s m args meth c dC dI dA d M) {P0 : am_P} (hm : ∀ pc L st G nc ns, P0 pc L st G nc ns → am_W p l e R s m args below meth c dC dI dA M A H0 ad0 n0 QW pc L st G nc ns) {C : am_C} {Q : Option Value → am_G → Prop} {X : am_P} {pc npc a b t u pos : Nat} {cv : Int32} {cl : Int64} {L : am_L} {st : List Value} {G : am_G} {nc ns : Nat} (hd : decode (am_mb M) pc = .ok (.lstore_n k, am_len (.lstore_n k) (npc - pc))) (hn : npc = pc + am_len (.lstore_n k) (npc - pc)) (hok : am_okX MT M pc (.lstore_n k) a b t u pos cv cl = true) (h : am_ins C M scr Q X P0 pc (.lstore_n k) npc a b t u cv cl L st G nc ns) : am_W p l e R s m args below meth c dC dI dA M A H0 ad0 n0 QW pc L st G nc ns := by
  obtain ⟨hx, hb, hml, hown, hts, hini, hK, hKX, hRc, hRs, hRf, hRl⟩ := hC
  have hn : npc = pc + 1 := hn
  subst hn
  simp only [am_okX, Bool.and_eq_true, decide_eq_true_eq] at hok
  simp only [am_ins] at h
  split at h
  · intro ad H locs ls hrel hn0 hw hnd hL hcs
    exact lv_lstore_n hx hb hd hok.1 hL.2 hok.2 rfl (fun ls2 hl2 => hm _ _ _ _ _ _ h ad H locs ls2 hrel hn0 hw (am_nod_st2 hnd) (am_st2_LH hnd hL.1 hl2) hcs)
  · exact h.elim

theorem am_i_lstore {k : Nat} (hC : am_Ctx p R s m args meth c dC dI dA d M) {P0 : am_P} (hm : ∀ pc L st G nc ns, P0 pc L st G nc ns → am_W p l e R s m args below meth c dC dI dA M A H0 ad0 n0 QW pc L st G nc ns) {C : am_C} {Q : Option Value → am_G → Prop} {X : am_P} {pc npc a b t u pos : Nat} {cv : Int32} {cl : Int64} {L : am_L} {st : List Value} {G : am_G} {nc ns : Nat} (hd : decode (am_mb M) pc = .ok (.lstore k, am_len (.lstore k) (npc - pc))) (hn : npc = pc + am_len (.lstore k) (npc - pc)) (hok : am_okX MT M pc (.lstore k) a b t u pos cv cl = true) (h : am_ins C M scr Q X P0 pc (.lstore k) npc a b t u cv cl L st G nc ns) : am_W p l e R s m args below meth c dC dI dA M A H0 ad0 n0 QW pc L st G nc ns := by
  obtain ⟨hx, hb, hml, hown, hts, hini, hK, hKX, hRc, hRs, hRf, hRl⟩ := hC
  have hn : npc = pc + 2 := hn
  subst hn
  simp only [am_okX, Bool.and_eq_true, decide_eq_true_eq] at hok
  simp only [am_ins] at h
  split at h
  · obtain ⟨rfl, hlt⟩ := hok
    intro ad H locs ls hrel hn0 hw hnd hL hcs
    exact lv_lstore hx hb hd hL.2 hlt rfl (fun ls2 hl2 => hm _ _ _ _ _ _ h ad H locs ls2 hrel hn0 hw (am_nod_st2 hnd) (am_st2_LH hnd hL.1 hl2) hcs)
  · exact h.elim

theorem am_i_iinc {k : Nat} {n : Int} (hC : am_Ctx p R s m args meth c dC dI dA d M) {P0 : am_P} (hm : ∀ pc L st G nc ns, P0 pc L st G nc ns → am_W p l e R s m args below meth c dC dI dA M A H0 ad0 n0 QW pc L st G nc ns) {C : am_C} {Q : Option Value → am_G → Prop} {X : am_P} {pc npc a b t u pos : Nat} {cv : Int32} {cl : Int64} {L : am_L} {st : List Value} {G : am_G} {nc ns : Nat} (hd : decode (am_mb M) pc = .ok (.iinc k n, am_len (.iinc k n) (npc - pc))) (hn : npc = pc + am_len (.iinc k n) (npc - pc)) (hok : am_okX MT M pc (.iinc k n) a b t u pos cv cl = true) (h : am_ins C M scr Q X P0 pc (.iinc k n) npc a b t u cv cl L st G nc ns) : am_W p l e R s m args below meth c dC dI dA M A H0 ad0 n0 QW pc L st G nc ns := by
  obtain ⟨hx, hb, hml, hown, hts, hini, hK, hKX, hRc, hRs, hRf, hRl⟩ := hC
  have hn : npc = pc + 3 := hn
  subst hn
  simp only [am_okX, Bool.and_eq_true, decide_eq_true_eq] at hok
  obtain ⟨⟨rfl, hv⟩, hlt⟩ := hok
  simp only [am_ins] at h
  split at h
  · rename_i x hq
    intro ad H locs ls hrel hn0 hw hnd hL hcs
    obtain ⟨j, hj⟩ := List.getElem?_of_mem (am_lv_mem.mpr ⟨_, hq, rfl⟩ : ((k, am_cv ad (.int x)) : Nat × Value) ∈ am_lv L ad)
    exact lv_iinc hx hb hd hL.2 hj (by rw [hv]) hlt rfl (fun ls2 hl2 => hm _ _ _ _ _ _ h ad H locs ls2 hrel hn0 hw (am_nod_st1 hnd rfl) (am_st1_LH hnd hL.1 hl2) hcs)
  · exact h.elim

theorem am_i_iadd (hC : am_Ctx p R s m args meth c dC dI dA d M) {P0 : am_P} (hm : ∀ pc L st G nc ns, P0 pc L st G nc ns → am_W p l e R s m args below meth c dC dI dA M A H0 ad0 n0 QW pc L st G nc ns) {C : am_C} {Q : Option Value → am_G → Prop} {X : am_P} {pc npc a b t u pos : Nat} {cv : Int32} {cl : Int64} {L : am_L} {st : List Value} {G : am_G} {nc ns : Nat} (hd : decode (am_mb M) pc = .ok (.iadd, am_len (.iadd) (npc - pc))) (hn : npc = pc + am_len (.iadd) (npc - pc)) (hok : am_okX MT M pc (.iadd) a b t u pos cv cl = true) (h : am_ins C M scr Q X P0 pc (.iadd) npc a b t u cv cl L st G nc ns) : am_W p l e R s m args below meth c dC dI dA M A H0 ad0 n0 QW pc L st G nc ns := by
  obtain ⟨hx, hb, hml, hown, hts, hini, hK, hKX, hRc, hRs, hRf, hRl⟩ := hC
  have hn : npc = pc + 1 := hn
  subst hn
  simp only [am_ins] at h
  split at h
  · intro ad H locs ls hrel hn0 hw hnd hL hcs
    exact lv_iadd hx hb hd (hm _ _ _ _ _ _ h ad H locs ls hrel hn0 hw hnd hL hcs)
  · exact h.elim

theorem am_i_isub (hC : am_Ctx p R s m args meth c dC dI dA d M) {P0 : am_P} (hm : ∀ pc L st G nc ns, P0 pc L st G nc ns → am_W p l e R s m args below meth c dC dI dA M A H0 ad0 n0 QW pc L st G nc ns) {C : am_C} {Q : Option Value → am_G → Prop} {X : am_P} {pc npc a b t u pos : Nat} {cv : Int32} {cl : Int64} {L : am_L} {st : List Value} {G : am_G} {nc ns : Nat} (hd : decode (am_mb M) pc = .ok (.isub, am_len (.isub) (npc - pc))) (hn : npc = pc + am_len (.isub) (npc - pc)) (hok : am_okX MT M pc (.isub) a b t u pos cv cl = true) (h : am_ins C M scr Q X P0 pc (.isub) npc a b t u cv cl L st G nc ns) : am_W p l e R s m args below meth c dC dI dA M A H0 ad0 n0 QW pc L st G nc ns := by
  obtain ⟨hx, hb, hml, hown, hts, hini, hK, hKX, hRc, hRs, hRf, hRl⟩ := hC
  have hn : npc = pc + 1 := hn
  subst hn
  simp only [am_ins] at h
  split at h
  · intro ad H locs ls hrel hn0 hw hnd hL hcs
    exact lv_isub hx hb hd (hm _ _ _ _ _ _ h ad H locs ls hrel hn0 hw hnd hL hcs)
  · exact h.elim

theorem am_i_imul (hC : am_Ctx p R s m args meth c dC dI dA d M) {P0 : am_P} (hm : ∀ pc L st G nc ns, P0 pc L st G nc ns → am_W p l e R s m args below meth c dC dI dA M A H0 ad0 n0 QW pc L st G nc ns) {C : am_C} {Q : Option Value → am_G → Prop} {X : am_P} {pc npc a b t u pos : Nat} {cv : Int32} {cl : Int64} {L : am_L} {st : List Value} {G : am_G} {nc ns : Nat} (hd : decode (am_mb M) pc = .ok (.imul, am_len (.imul) (npc - pc))) (hn : npc = pc + am_len (.imul) (npc - pc)) (hok : am_okX MT M pc (.imul) a b t u pos cv cl = true) (h : am_ins C M scr Q X P0 pc (.imul) npc a b t u cv cl L st G nc ns) : am_W p l e R s m args below meth c dC dI dA M A H0 ad0 n0 QW pc L st G nc ns := by
  obtain ⟨hx, hb, hml, hown, hts, hini, hK, hKX, hRc, hRs, hRf, hRl⟩ := hC
  have hn : npc = pc + 1 := hn
  subst hn
  simp only [am_ins] at h
  split at h
  · intro ad H locs ls hrel hn0 hw hnd hL hcs
    exact lv_imul hx hb hd (hm _ _ _ _ _ _ h ad H locs ls hrel hn0 hw hnd hL hcs)
  · exact h.elim

theorem am_i_iand (hC : am_Ctx p R s m args meth c dC dI dA d M) {P0 : am_P} (hm : ∀ pc L st G nc ns, P0 pc L st G nc ns → am_W p l e R s m args below meth c dC dI dA M A H0 ad0 n0 QW pc L st G nc ns) {C : am_C} {Q : Option Value → am_G → Prop} {X : am_P} {pc npc a b t u pos : Nat} {cv : Int32} {cl : Int64} {L : am_L} {st : List Value} {G : am_G} {nc ns : Nat} (hd : decode (am_mb M) pc = .ok (.iand, am_len (.iand) (npc - pc))) (hn : npc = pc + am_len (.iand) (npc - pc)) (hok : am_okX MT M pc (.iand) a b t u pos cv cl = true) (h : am_ins C M scr Q X P0 pc (.iand) npc a b t u cv cl L st G nc ns) : am_W p l e R s m args below meth c dC dI dA M A H0 ad0 n0 QW pc L st G nc ns := by
  obtain ⟨hx, hb, hml, hown, hts, hini, hK, hKX, hRc, hRs, hRf, hRl⟩ := hC
  have hn : npc = pc + 1 := hn
  subst hn
  simp only [am_ins] at h
  split at h
  · intro ad H locs ls hrel hn0 hw hnd hL hcs
    exact lv_iand hx hb hd (hm _ _ _ _ _ _ h ad H locs ls hrel hn0 hw hnd hL hcs)
  · exact h.elim

theorem am_i_ior (hC : am_Ctx p R s m args meth c dC dI dA d M) {P0 : am_P} (hm : ∀ pc L st G nc ns, P0 pc L st G nc ns → am_W p l e R s m args below meth c dC dI dA M A H0 ad0 n0 QW pc L st G nc ns) {C : am_C} {Q : Option Value → am_G → Prop} {X : am_P} {pc npc a b t u pos : Nat} {cv : Int32} {cl : Int64} {L : am_L} {st : List Value} {G : am_G} {nc ns : Nat} (hd : decode (am_mb M) pc = .ok (.ior, am_len (.ior) (npc - pc))) (hn : npc = pc + am_len (.ior) (npc - pc)) (hok : am_okX MT M pc (.ior) a b t u pos cv cl = true) (h : am_ins C M scr Q X P0 pc (.ior) npc a b t u cv cl L st G nc ns) : am_W p l e R s m args below meth c dC dI dA M A H0 ad0 n0 QW pc L st G nc ns := by
  obtain ⟨hx, hb, hml, hown, hts, hini, hK, hKX, hRc, hRs, hRf, hRl⟩ := hC
  have hn : npc = pc + 1 := hn
  subst hn
  simp only [am_ins] at h
  split at h
  · intro ad H locs ls hrel hn0 hw hnd hL hcs
    exact lv_ior hx hb hd (hm _ _ _ _ _ _ h ad H locs ls hrel hn0 hw hnd hL hcs)
  · exact h.elim

theorem am_i_ixor (hC : am_Ctx p R s m args meth c dC dI dA d M) {P0 : am_P} (hm : ∀ pc L st G nc ns, P0 pc L st G nc ns → am_W p l e R s m args below meth c dC dI dA M A H0 ad0 n0 QW pc L st G nc ns) {C : am_C} {Q : Option Value → am_G → Prop} {X : am_P} {pc npc a b t u pos : Nat} {cv : Int32} {cl : Int64} {L : am_L} {st : List Value} {G : am_G} {nc ns : Nat} (hd : decode (am_mb M) pc = .ok (.ixor, am_len (.ixor) (npc - pc))) (hn : npc = pc + am_len (.ixor) (npc - pc)) (hok : am_okX MT M pc (.ixor) a b t u pos cv cl = true) (h : am_ins C M scr Q X P0 pc (.ixor) npc a b t u cv cl L st G nc ns) : am_W p l e R s m args below meth c dC dI dA M A H0 ad0 n0 QW pc L st G nc ns := by
  obtain ⟨hx, hb, hml, hown, hts, hini, hK, hKX, hRc, hRs, hRf, hRl⟩ := hC
  have hn : npc = pc + 1 := hn
  subst hn
  simp only [am_ins] at h
  split at h
  · intro ad H locs ls hrel hn0 hw hnd hL hcs
    exact lv_ixor hx hb hd (hm _ _ _ _ _ _ h ad H locs ls hrel hn0 hw hnd hL hcs)
  · exact h.elim

theorem am_i_ishl (hC : am_Ctx p R s m args meth c dC dI dA d M) {P0 : am_P} (hm : ∀ pc L st G nc ns, P0 pc L st G nc ns → am_W p l e R s m args below meth c dC dI dA M A H0 ad0 n0 QW pc L st G nc ns) {C : am_C} {Q : Option Value → am_G → Prop} {X : am_P} {pc npc a b t u pos : Nat} {cv : Int32} {cl : Int64} {L : am_L} {st : List Value} {G : am_G} {nc ns : Nat} (hd : decode (am_mb M) pc = .ok (.ishl, am_len (.ishl) (npc - pc))) (hn : npc = pc + am_len (.ishl) (npc - pc)) (hok : am_okX MT M pc (.ishl) a b t u pos cv cl = true) (h : am_ins C M scr Q X P0 pc (.ishl) npc a b t u cv cl L st G nc ns) : am_W p l e R s m args below meth c dC dI dA M A H0 ad0 n0 QW pc L st G nc ns := by
  obtain ⟨hx, hb, hml, hown, hts, hini, hK, hKX, hRc, hRs, hRf, hRl⟩ := hC
  have hn : npc = pc + 1 := hn
  subst hn
  simp only [am_ins] at h
  split at h
  · intro ad H locs ls hrel hn0 hw hnd hL hcs
    exact lv_ishl hx hb hd (hm _ _ _ _ _ _ h ad H locs ls hrel hn0 hw hnd hL hcs)
  · exact h.elim

theorem am_i_ishr (hC : am_Ctx p R s m args meth c dC dI dA d M) {P0 : am_P} (hm : ∀ pc L st G nc ns, P0 pc L st G nc ns → am_W p l e R s m args below meth c dC dI dA M A H0 ad0 n0 QW pc L st G nc ns) {C : am_C} {Q : Option Value → am_G → Prop} {X : am_P} {pc npc a b t u pos : Nat} {cv : Int32} {cl : Int64} {L : am_L} {st : List Value} {G : am_G} {nc ns : Nat} (hd : decode (am_mb M) pc = .ok (.ishr, am_len (.ishr) (npc - pc))) (hn : npc = pc + am_len (.ishr) (npc - pc)) (hok : am_okX MT M pc (.ishr) a b t u pos cv cl = true) (h : am_ins C M scr Q X P0 pc (.ishr) npc a b t u cv cl L st G nc ns) : am_W p l e R s m args below meth c dC dI dA M A H0 ad0 n0 QW pc L st G nc ns := by
  obtain ⟨hx, hb, hml, hown, hts, hini, hK, hKX, hRc, hRs, hRf, hRl⟩ := hC
  have hn : npc = pc + 1 := hn
  subst hn
  simp only [am_ins] at h
  split at h
  · intro ad H locs ls hrel hn0 hw hnd hL hcs
    exact lv_ishr hx hb hd (hm _ _ _ _ _ _ h ad H locs ls hrel hn0 hw hnd hL hcs)
  · exact h.elim

theorem am_i_ladd (hC : am_Ctx p R s m args meth c dC dI dA d M) {P0 : am_P} (hm : ∀ pc L st G nc ns, P0 pc L st G nc ns → am_W p l e R s m args below meth c dC dI dA M A H0 ad0 n0 QW pc L st G nc ns) {C : am_C} {Q : Option Value → am_G → Prop} {X : am_P} {pc npc a b t u pos : Nat} {cv : Int32} {cl : Int64} {L : am_L} {st : List Value} {G : am_G} {nc ns : Nat} (hd : decode (am_mb M) pc = .ok (.ladd, am_len (.ladd) (npc - pc))) (hn : npc = pc + am_len (.ladd) (npc - pc)) (hok : am_okX MT M pc (.ladd) a b t u pos cv cl = true) (h : am_ins C M scr Q X P0 pc (.ladd) npc a b t u cv cl L st G nc ns) : am_W p l e R s m args below meth c dC dI dA M A H0 ad0 n0 QW pc L st G nc ns := by
  obtain ⟨hx, hb, hml, hown, hts, hini, hK, hKX, hRc, hRs, hRf, hRl⟩ := hC
  have hn : npc = pc + 1 := hn
  subst hn
  simp only [am_ins] at h
  split at h
  · intro ad H locs ls hrel hn0 hw hnd hL hcs
    exact lv_ladd hx hb hd (hm _ _ _ _ _ _ h ad H locs ls hrel hn0 hw hnd hL hcs)
  · exact h.elim

theorem am_i_lsub (hC : am_Ctx p R s m args meth c dC dI dA d M) {P0 : am_P} (hm : ∀ pc L st G nc ns, P0 pc L st G nc ns → am_W p l e R s m args below meth c dC dI dA M A H0 ad0 n0 QW pc L st G nc ns) {C : am_C} {Q : Option Value → am_G → Prop} {X : am_P} {pc npc a b t u pos : Nat} {cv : Int32} {cl : Int64} {L : am_L} {st : List Value} {G : am_G} {nc ns : Nat} (hd : decode (am_mb M) pc = .ok (.lsub, am_len (.lsub) (npc - pc))) (hn : npc = pc + am_len (.lsub) (npc - pc)) (hok : am_okX MT M pc (.lsub) a b t u pos cv cl = true) (h : am_ins C M scr Q X P0 pc (.lsub) npc a b t u cv cl L st G nc ns) : am_W p l e R s m args below meth c dC dI dA M A H0 ad0 n0 QW pc L st G nc ns := by
  obtain ⟨hx, hb, hml, hown, hts, hini, hK, hKX, hRc, hRs, hRf, hRl⟩ := hC
  have hn : npc = pc + 1 := hn
  subst hn
  simp only [am_ins] at h
  split at h
  · intro ad H locs ls hrel hn0 hw hnd hL hcs
    exact lv_lsub hx hb hd (hm _ _ _ _ _ _ h ad H locs ls hrel hn0 hw hnd hL hcs)
  · exact h.elim

theorem am_i_lmul (hC : am_Ctx p R s m args meth c dC dI dA d M) {P0 : am_P} (hm : ∀ pc L st G nc ns, P0 pc L st G nc ns → am_W p l e R s m args below meth c dC dI dA M A H0 ad0 n0 QW pc L st G nc ns) {C : am_C} {Q : Option Value → am_G → Prop} {X : am_P} {pc npc a b t u pos : Nat} {cv : Int32} {cl : Int64} {L : am_L} {st : List Value} {G : am_G} {nc ns : Nat} (hd : decode (am_mb M) pc = .ok (.lmul, am_len (.lmul) (npc - pc))) (hn : npc = pc + am_len (.lmul) (npc - pc)) (hok : am_okX MT M pc (.lmul) a b t u pos cv cl = true) (h : am_ins C M scr Q X P0 pc (.lmul) npc a b t u cv cl L st G nc ns) : am_W p l e R s m args below meth c dC dI dA M A H0 ad0 n0 QW pc L st G nc ns := by
  obtain ⟨hx, hb, hml, hown, hts, hini, hK, hKX, hRc, hRs, hRf, hRl⟩ := hC
  have hn : npc = pc + 1 := hn
  subst hn
  simp only [am_ins] at h
  split at h
  · intro ad H locs ls hrel hn0 hw hnd hL hcs
    exact lv_lmul hx hb hd (hm _ _ _ _ _ _ h ad H locs ls hrel hn0 hw hnd hL hcs)
  · exact h.elim

theorem am_i_ineg (hC : am_Ctx p R s m args meth c dC dI dA d M) {P0 : am_P} (hm : ∀ pc L st G nc ns, P0 pc L st G nc ns → am_W p l e R s m args below meth c dC dI dA M A H0 ad0 n0 QW pc L st G nc ns) {C : am_C} {Q : Option Value → am_G → Prop} {X : am_P} {pc npc a b t u pos : Nat} {cv : Int32} {cl : Int64} {L : am_L} {st : List Value} {G : am_G} {nc ns : Nat} (hd : decode (am_mb M) pc = .ok (.ineg, am_len (.ineg) (npc - pc))) (hn : npc = pc + am_len (.ineg) (npc - pc)) (hok : am_okX MT M pc (.ineg) a b t u pos cv cl = true) (h : am_ins C M scr Q X P0 pc (.ineg) npc a b t u cv cl L st G nc ns) : am_W p l e R s m args below meth c dC dI dA M A H0 ad0 n0 QW pc L st G nc ns := by
  obtain ⟨hx, hb, hml, hown, hts, hini, hK, hKX, hRc, hRs, hRf, hRl⟩ := hC
  have hn : npc = pc + 1 := hn
  subst hn
  simp only [am_ins] at h
  split at h
  · intro ad H locs ls hrel hn0 hw hnd hL hcs
    exact lv_ineg hx hb hd (hm _ _ _ _ _ _ h ad H locs ls hrel hn0 hw hnd hL hcs)
  · exact h.elim

theorem am_i_lneg (hC : am_Ctx p R s m args meth c dC dI dA d M) {P0 : am_P} (hm : ∀ pc L st G nc ns, P0 pc L st G nc ns → am_W p l e R s m args below meth c dC dI dA M A H0 ad0 n0 QW pc L st G nc ns) {C : am_C} {Q : Option Value → am_G → Prop} {X : am_P} {pc npc a b t u pos : Nat} {cv : Int32} {cl : Int64} {L : am_L} {st : List Value} {G : am_G} {nc ns : Nat} (hd : decode (am_mb M) pc = .ok (.lneg, am_len (.lneg) (npc - pc))) (hn : npc = pc + am_len (.lneg) (npc - pc)) (hok : am_okX MT M pc (.lneg) a b t u pos cv cl = true) (h : am_ins C M scr Q X P0 pc (.lneg) npc a b t u cv cl L st G nc ns) : am_W p l e R s m args below meth c dC dI dA M A H0 ad0 n0 QW pc L st G nc ns := by
  obtain ⟨hx, hb, hml, hown, hts, hini, hK, hKX, hRc, hRs, hRf, hRl⟩ := hC
  have hn : npc = pc + 1 := hn
  subst hn
  simp only [am_ins] at h
  split at h
  · intro ad H locs ls hrel hn0 hw hnd hL hcs
    exact lv_lneg hx hb hd (hm _ _ _ _ _ _ h ad H locs ls hrel hn0 hw hnd hL hcs)
  · exact h.elim

theorem am_i_lcmp (hC : am_Ctx p R s m args meth c dC dI dA d M) {P0 : am_P} (hm : ∀ pc L st G nc ns, P0 pc L st G nc ns → am_W p l e R s m args below meth c dC dI dA M A H0 ad0 n0 QW pc L st G nc ns) {C : am_C} {Q : Option Value → am_G → Prop} {X : am_P} {pc npc a b t u pos : Nat} {cv : Int32} {cl : Int64} {L : am_L} {st : List Value} {G : am_G} {nc ns : Nat} (hd : decode (am_mb M) pc = .ok (.lcmp, am_len (.lcmp) (npc - pc))) (hn : npc = pc + am_len (.lcmp) (npc - pc)) (hok : am_okX MT M pc (.lcmp) a b t u pos cv cl = true) (h : am_ins C M scr Q X P0 pc (.lcmp) npc a b t u cv cl L st G nc ns) : am_W p l e R s m args below meth c dC dI dA M A H0 ad0 n0 QW pc L st G nc ns := by
  obtain ⟨hx, hb, hml, hown, hts, hini, hK, hKX, hRc, hRs, hRf, hRl⟩ := hC
  have hn : npc = pc + 1 := hn
  subst hn
  simp only [am_ins] at h
  split at h
  · intro ad H locs ls hrel hn0 hw hnd hL hcs
    exact W.lcmp hx hb hd (hm _ _ _ _ _ _ h ad H locs ls hrel hn0 hw hnd hL hcs)
  · exact h.elim

theorem am_i_iushr (hC : am_Ctx p R s m args meth c dC dI dA d M) {P0 : am_P} (hm : ∀ pc L st G nc ns, P0 pc L st G nc ns → am_W p l e R s m args below meth c dC dI dA M A H0 ad0 n0 QW pc L st G nc ns) {C : am_C} {Q : Option Value → am_G → Prop} {X : am_P} {pc npc a b t u pos : Nat} {cv : Int32} {cl : Int64} {L : am_L} {st : List Value} {G : am_G} {nc ns : Nat} (hd : decode (am_mb M) pc = .ok (.iushr, am_len (.iushr) (npc - pc))) (hn : npc = pc + am_len (.iushr) (npc - pc)) (hok : am_okX MT M pc (.iushr) a b t u pos cv cl = true) (h : am_ins C M scr Q X P0 pc (.iushr) npc a b t u cv cl L st G nc ns) : am_W p l e R s m args below meth c dC dI dA M A H0 ad0 n0 QW pc L st G nc ns := by
  obtain ⟨hx, hb, hml, hown, hts, hini, hK, hKX, hRc, hRs, hRf, hRl⟩ := hC
  have hn : npc = pc + 1 := hn
  subst hn
  simp only [am_ins] at h
  split at h
  · intro ad H locs ls hrel hn0 hw hnd hL hcs
    exact lv_iushr hx hb hd rfl (hm _ _ _ _ _ _ h ad H locs ls hrel hn0 hw hnd hL hcs)
  · exact h.elim

theorem am_i_i2l (hC : am_Ctx p R s m args meth c dC dI dA d M) {P0 : am_P} (hm : ∀ pc L st G nc ns, P0 pc L st G nc ns → am_W p l e R s m args below meth c dC dI dA M A H0 ad0 n0 QW pc L st G nc ns) {C : am_C} {Q : Option Value → am_G → Prop} {X : am_P} {pc npc a b t u pos : Nat} {cv : Int32} {cl : Int64} {L : am_L} {st : List Value} {G : am_G} {nc ns : Nat} (hd : decode (am_mb M) pc = .ok (.i2l, am_len (.i2l) (npc - pc))) (hn : npc = pc + am_len (.i2l) (npc - pc)) (hok : am_okX MT M pc (.i2l) a b t u pos cv cl = true) (h : am_ins C M scr Q X P0 pc (.i2l) npc a b t u cv cl L st G nc ns) : am_W p l e R s m args below meth c dC dI dA M A H0 ad0 n0 QW pc L st G nc ns := by
  obtain ⟨hx, hb, hml, hown, hts, hini, hK, hKX, hRc, hRs, hRf, hRl⟩ := hC
  have hn : npc = pc + 1 := hn
  subst hn
  simp only [am_ins] at h
  split at h
  · intro ad H locs ls hrel hn0 hw hnd hL hcs
    exact lv_i2l hx hb hd rfl (hm _ _ _ _ _ _ h ad H locs ls hrel hn0 hw hnd hL hcs)
  · exact h.elim

theorem am_i_i2b (hC : am_Ctx p R s m args meth c dC dI dA d M) {P0 : am_P} (hm : ∀ pc L st G nc ns, P0 pc L st G nc ns → am_W p l e R s m args below meth c dC dI dA M A H0 ad0 n0 QW pc L st G nc ns) {C : am_C} {Q : Option Value → am_G → Prop} {X : am_P} {pc npc a b t u pos : Nat} {cv : Int32} {cl : Int64} {L : am_L} {st : List Value} {G : am_G} {nc ns : Nat} (hd : decode (am_mb M) pc = .ok (.i2b, am_len (.i2b) (npc - pc))) (hn : npc = pc + am_len (.i2b) (npc - pc)) (hok : am_okX MT M pc (.i2b) a b t u pos cv cl = true) (h : am_ins C M scr Q X P0 pc (.i2b) npc a b t u cv cl L st G nc ns) : am_W p l e R s m args below meth c dC dI dA M A H0 ad0 n0 QW pc L st G nc ns := by
  obtain ⟨hx, hb, hml, hown, hts, hini, hK, hKX, hRc, hRs, hRf, hRl⟩ := hC
  have hn : npc = pc + 1 := hn
  subst hn
  simp only [am_ins] at h
  split at h
  · intro ad H locs ls hrel hn0 hw hnd hL hcs
    exact lv_i2b hx hb hd rfl (hm _ _ _ _ _ _ h ad H locs ls hrel hn0 hw hnd hL hcs)
  · exact h.elim

theorem am_i_i2s (hC : am_Ctx p R s m args meth c dC dI dA d M) {P0 : am_P} (hm : ∀ pc L st G nc ns, P0 pc L st G nc ns → am_W p l e R s m args below meth c dC dI dA M A H0 ad0 n0 QW pc L st G nc ns) {C : am_C} {Q : Option Value → am_G → Prop} {X : am_P} {pc npc a b t u pos : Nat} {cv : Int32} {cl : Int64} {L : am_L} {st : List Value} {G : am_G} {nc ns : Nat} (hd : decode (am_mb M) pc = .ok (.i2s, am_len (.i2s) (npc - pc))) (hn : npc = pc + am_len (.i2s) (npc - pc)) (hok : am_okX MT M pc (.i2s) a b t u pos cv cl = true) (h : am_ins C M scr Q X P0 pc (.i2s) npc a b t u cv cl L st G nc ns) : am_W p l e R s m args below meth c dC dI dA M A H0 ad0 n0 QW pc L st G nc ns := by
  obtain ⟨hx, hb, hml, hown, hts, hini, hK, hKX, hRc, hRs, hRf, hRl⟩ := hC
  have hn : npc = pc + 1 := hn
  subst hn
  simp only [am_ins] at h
  split at h
  · intro ad H locs ls hrel hn0 hw hnd hL hcs
    exact lv_i2s hx hb hd rfl (hm _ _ _ _ _ _ h ad H locs ls hrel hn0 hw hnd hL hcs)
  · exact h.elim

theorem am_i_i2c (hC : am_Ctx p R s m args meth c dC dI dA d M) {P0 : am_P} (hm : ∀ pc L st G nc ns, P0 pc L st G nc ns → am_W p l e R s m args below meth c dC dI dA M A H0 ad0 n0 QW pc L st G nc ns) {C : am_C} {Q : Option Value → am_G → Prop} {X : am_P} {pc npc a b t u pos : Nat} {cv : Int32} {cl : Int64} {L : am_L} {st : List Value} {G : am_G} {nc ns : Nat} (hd : decode (am_mb M) pc = .ok (.i2c, am_len (.i2c) (npc - pc))) (hn : npc = pc + am_len (.i2c) (npc - pc)) (hok : am_okX MT M pc (.i2c) a b t u pos cv cl = true) (h : am_ins C M scr Q X P0 pc (.i2c) npc a b t u cv cl L st G nc ns) : am_W p l e R s m args below meth c dC dI dA M A H0 ad0 n0 QW pc L st G nc ns := by
  obtain ⟨hx, hb, hml, hown, hts, hini, hK, hKX, hRc, hRs, hRf, hRl⟩ := hC
  have hn : npc = pc + 1 := hn
  subst hn
  simp only [am_ins] at h
  split at h
  · intro ad H locs ls hrel hn0 hw hnd hL hcs
    exact lv_i2c hx hb hd rfl (hm _ _ _ _ _ _ h ad H locs ls hrel hn0 hw hnd hL hcs)
  · exact h.elim

theorem am_i_idiv (hC : am_Ctx p R s m args meth c dC dI dA d M) {P0 : am_P} (hm : ∀ pc L st G nc ns, P0 pc L st G nc ns → am_W p l e R s m args below meth c dC dI dA M A H0 ad0 n0 QW pc L st G nc ns) {C : am_C} {Q : Option Value → am_G → Prop} {X : am_P} {pc npc a b t u pos : Nat} {cv : Int32} {cl : Int64} {L : am_L} {st : List Value} {G : am_G} {nc ns : Nat} (hd : decode (am_mb M) pc = .ok (.idiv, am_len (.idiv) (npc - pc))) (hn : npc = pc + am_len (.idiv) (npc - pc)) (hok : am_okX MT M pc (.idiv) a b t u pos cv cl = true) (h : am_ins C M scr Q X P0 pc (.idiv) npc a b t u cv cl L st G nc ns) : am_W p l e R s m args below meth c dC dI dA M A H0 ad0 n0 QW pc L st G nc ns := by
  obtain ⟨hx, hb, hml, hown, hts, hini, hK, hKX, hRc, hRs, hRf, hRl⟩ := hC
  have hn : npc = pc + 1 := hn
  subst hn
  simp only [am_ins] at h
  split at h
  · intro ad H locs ls hrel hn0 hw hnd hL hcs
    exact lv_idiv hx hb hd h.1 (hm _ _ _ _ _ _ h.2 ad H locs ls hrel hn0 hw hnd hL hcs)
  · exact h.elim

theorem am_i_irem (hC : am_Ctx p R s m args meth c dC dI dA d M) {P0 : am_P} (hm : ∀ pc L st G nc ns, P0 pc L st G nc ns → am_W p l e R s m args below meth c dC dI dA M A H0 ad0 n0 QW pc L st G nc ns) {C : am_C} {Q : Option Value → am_G → Prop} {X : am_P} {pc npc a b t u pos : Nat} {cv : Int32} {cl : Int64} {L : am_L} {st : List Value} {G : am_G} {nc ns : Nat} (hd : decode (am_mb M) pc = .ok (.irem, am_len (.irem) (npc - pc))) (hn : npc = pc + am_len (.irem) (npc - pc)) (hok : am_okX MT M pc (.irem) a b t u pos cv cl = true) (h : am_ins C M scr Q X P0 pc (.irem) npc a b t u cv cl L st G nc ns) : am_W p l e R s m args below meth c dC dI dA M A H0 ad0 n0 QW pc L st G nc ns := by
  obtain ⟨hx, hb, hml, hown, hts, hini, hK, hKX, hRc, hRs, hRf, hRl⟩ := hC
  have hn : npc = pc + 1 := hn
  subst hn
  simp only [am_ins] at h
  split at h
  · intro ad H locs ls hrel hn0 hw hnd hL hcs
    exact lv_irem hx hb hd h.1 (hm _ _ _ _ _ _ h.2 ad H locs ls hrel hn0 hw hnd hL hcs)
  · exact h.elim

theorem am_i_ldiv (hC : am_Ctx p R s m args meth c dC dI dA d M) {P0 : am_P} (hm : ∀ pc L st G nc ns, P0 pc L st G nc ns → am_W p l e R s m args below meth c dC dI dA M A H0 ad0 n0 QW pc L st G nc ns) {C : am_C} {Q : Option Value → am_G → Prop} {X : am_P} {pc npc a b t u pos : Nat} {cv : Int32} {cl : Int64} {L : am_L} {st : List Value} {G : am_G} {nc ns : Nat} (hd : decode (am_mb M) pc = .ok (.ldiv, am_len (.ldiv) (npc - pc))) (hn : npc = pc + am_len (.ldiv) (npc - pc)) (hok : am_okX MT M pc (.ldiv) a b t u pos cv cl = true) (h : am_ins C M scr Q X P0 pc (.ldiv) npc a b t u cv cl L st G nc ns) : am_W p l e R s m args below meth c dC dI dA M A H0 ad0 n0 QW pc L st G nc ns := by
  obtain ⟨hx, hb, hml, hown, hts, hini, hK, hKX, hRc, hRs, hRf, hRl⟩ := hC
  have hn : npc = pc + 1 := hn
  subst hn
  simp only [am_ins] at h
  split at h
  · intro ad H locs ls hrel hn0 hw hnd hL hcs
    exact lv_ldiv hx hb hd h.1 (hm _ _ _ _ _ _ h.2 ad H locs ls hrel hn0 hw hnd hL hcs)
  · exact h.elim

theorem am_i_lrem (hC : am_Ctx p R s m args meth c dC dI dA d M) {P0 : am_P} (hm : ∀ pc L st G nc ns, P0 pc L st G nc ns → am_W p l e R s m args below meth c dC dI dA M A H0 ad0 n0 QW pc L st G nc ns) {C : am_C} {Q : Option Value → am_G → Prop} {X : am_P} {pc npc a b t u pos : Nat} {cv : Int32} {cl : Int64} {L : am_L} {st : List Value} {G : am_G} {nc ns : Nat} (hd : decode (am_mb M) pc = .ok (.lrem, am_len (.lrem) (npc - pc))) (hn : npc = pc + am_len (.lrem) (npc - pc)) (hok : am_okX MT M pc (.lrem) a b t u pos cv cl = true) (h : am_ins C M scr Q X P0 pc (.lrem) npc a b t u cv cl L st G nc ns) : am_W p l e R s m args below meth c dC dI dA M A H0 ad0 n0 QW pc L st G nc ns := by
  obtain ⟨hx, hb, hml, hown, hts, hini, hK, hKX, hRc, hRs, hRf, hRl⟩ := hC
  have hn : npc = pc + 1 := hn
  subst hn
  simp only [am_ins] at h
  split at h
  · intro ad H locs ls hrel hn0 hw hnd hL hcs
    exact lv_lrem hx hb hd h.1 (hm _ _ _ _ _ _ h.2 ad H locs ls hrel hn0 hw hnd hL hcs)
  · exact h.elim

theorem am_i_dup (hC : am_Ctx p R s m args meth c dC dI dA d M) {P0 : am_P} (hm : ∀ pc L st G nc ns, P0 pc L st G nc ns → am_W p l e R s m args below meth c dC dI dA M A H0 ad0 n0 QW pc L st G nc ns) {C : am_C} {Q : Option Value → am_G → Prop} {X : am_P} {pc npc a b t u pos : Nat} {cv : Int32} {cl : Int64} {L : am_L} {st : List Value} {G : am_G} {nc ns : Nat} (hd : decode (am_mb M) pc = .ok (.dup, am_len (.dup) (npc - pc))) (hn : npc = pc + am_len (.dup) (npc - pc)) (hok : am_okX MT M pc (.dup) a b t u pos cv cl = true) (h : am_ins C M scr Q X P0 pc (.dup) npc a b t u cv cl L st G nc ns) : am_W p l e R s m args below meth c dC dI dA M A H0 ad0 n0 QW pc L st G nc ns := by
  obtain ⟨hx, hb, hml, hown, hts, hini, hK, hKX, hRc, hRs, hRf, hRl⟩ := hC
  have hn : npc = pc + 1 := hn
  subst hn
  simp only [am_ins] at h
  split at h
  · split at h
    · rename_i v _ _ hc
      intro ad H locs ls hrel hn0 hw hnd hL hcs
      exact lv_dup hx hb hd ((am_cat ad v).trans hc) (hm _ _ _ _ _ _ h ad H locs ls hrel hn0 hw hnd hL hcs)
    · exact h.elim
  · exact h.elim

theorem am_i_pop (hC : am_Ctx p R s m args meth c dC dI dA d M) {P0 : am_P} (hm : ∀ pc L st G nc ns, P0 pc L st G nc ns → am_W p l e R s m args below meth c dC dI dA M A H0 ad0 n0 QW pc L st G nc ns) {C : am_C} {Q : Option Value → am_G → Prop} {X : am_P} {pc npc a b t u pos : Nat} {cv : Int32} {cl : Int64} {L : am_L} {st : List Value} {G : am_G} {nc ns : Nat} (hd : decode (am_mb M) pc = .ok (.pop, am_len (.pop) (npc - pc))) (hn : npc = pc + am_len (.pop) (npc - pc)) (hok : am_okX MT M pc (.pop) a b t u pos cv cl = true) (h : am_ins C M scr Q X P0 pc (.pop) npc a b t u cv cl L st G nc ns) : am_W p l e R s m args below meth c dC dI dA M A H0 ad0 n0 QW pc L st G nc ns := by
  obtain ⟨hx, hb, hml, hown, hts, hini, hK, hKX, hRc, hRs, hRf, hRl⟩ := hC
  have hn : npc = pc + 1 := hn
  subst hn
  simp only [am_ins] at h
  split at h
  · split at h
    · rename_i v _ _ hc
      intro ad H locs ls hrel hn0 hw hnd hL hcs
      exact lv_pop hx hb hd ((am_cat ad v).trans hc) (hm _ _ _ _ _ _ h ad H locs ls hrel hn0 hw hnd hL hcs)
    · exact h.elim
  · exact h.elim

theorem am_i_dup2 (hC : am_Ctx p R s m args meth c dC dI dA d M) {P0 : am_P} (hm : ∀ pc L st G nc ns, P0 pc L st G nc ns → am_W p l e R s m args below meth c dC dI dA M A H0 ad0 n0 QW pc L st G nc ns) {C : am_C} {Q : Option Value → am_G → Prop} {X : am_P} {pc npc a b t u pos : Nat} {cv : Int32} {cl : Int64} {L : am_L} {st : List Value} {G : am_G} {nc ns : Nat} (hd : decode (am_mb M) pc = .ok (.dup2, am_len (.dup2) (npc - pc))) (hn : npc = pc + am_len (.dup2) (npc - pc)) (hok : am_okX MT M pc (.dup2) a b t u pos cv cl = true) (h : am_ins C M scr Q X P0 pc (.dup2) npc a b t u cv cl L st G nc ns) : am_W p l e R s m args below meth c dC dI dA M A H0 ad0 n0 QW pc L st G nc ns := by
  obtain ⟨hx, hb, hml, hown, hts, hini, hK, hKX, hRc, hRs, hRf, hRl⟩ := hC
  have hn : npc = pc + 1 := hn
  subst hn
  simp only [am_ins] at h
  split at h
  · split at h
    · rename_i v w _ _ _ hc1 hc2
      intro ad H locs ls hrel hn0 hw hnd hL hcs
      exact lv_dup2_11 hx hb hd ((am_cat ad v).trans hc1) ((am_cat ad w).trans hc2) (hm _ _ _ _ _ _ h ad H locs ls hrel hn0 hw hnd hL hcs)
    · exact h.elim
  · exact h.elim

theorem am_i_ifCond {o : Jvm.ClassFile.Cond} {off : Int} (hC : am_Ctx p R s m args meth c dC dI dA d M) {P0 : am_P} (hm : ∀ pc L st G nc ns, P0 pc L st G nc ns → am_W p l e R s m args below meth c dC dI dA M A H0 ad0 n0 QW pc L st G nc ns) {C : am_C} {Q : Option Value → am_G → Prop} {X : am_P} {pc npc a b t u pos : Nat} {cv : Int32} {cl : Int64} {L : am_L} {st : List Value} {G : am_G} {nc ns : Nat} (hd : decode (am_mb M) pc = .ok (.ifCond o off, am_len (.ifCond o off) (npc - pc))) (hn : npc = pc + am_len (.ifCond o off) (npc - pc)) (hok : am_okX MT M pc (.ifCond o off) a b t u pos cv cl = true) (h : am_ins C M scr Q X P0 pc (.ifCond o off) npc a b t u cv cl L st G nc ns) : am_W p l e R s m args below meth c dC dI dA M A H0 ad0 n0 QW pc L st G nc ns := by
  obtain ⟨hx, hb, hml, hown, hts, hini, hK, hKX, hRc, hRs, hRf, hRl⟩ := hC
  have hn : npc = pc + 3 := hn
  subst hn
  simp only [am_okX, decide_eq_true_eq] at hok
  simp only [am_ins] at h
  split at h
  · intro ad H locs ls hrel hn0 hw hnd hL hcs
    cases o with
    | eq => exact lv_if_eq hx hb hd hok (fun q => hm _ _ _ _ _ _ (h.1 q) ad H locs ls hrel hn0 hw hnd hL hcs) (fun q => hm _ _ _ _ _ _ (h.2 q) ad H locs ls hrel hn0 hw hnd hL hcs)
    | ne => exact lv_if_ne hx hb hd hok (fun q => hm _ _ _ _ _ _ (h.1 q) ad H locs ls hrel hn0 hw hnd hL hcs) (fun q => hm _ _ _ _ _ _ (h.2 q) ad H locs ls hrel hn0 hw hnd hL hcs)
    | lt => exact lv_if_lt hx hb hd hok (fun q => hm _ _ _ _ _ _ (h.1 q) ad H locs ls hrel hn0 hw hnd hL hcs) (fun q => hm _ _ _ _ _ _ (h.2 q) ad H locs ls hrel hn0 hw hnd hL hcs)
    | ge => exact lv_if_ge hx hb hd hok (fun q => hm _ _ _ _ _ _ (h.1 q) ad H locs ls hrel hn0 hw hnd hL hcs) (fun q => hm _ _ _ _ _ _ (h.2 q) ad H locs ls hrel hn0 hw hnd hL hcs)
    | gt => exact lv_if_gt hx hb hd hok (fun q => hm _ _ _ _ _ _ (h.1 q) ad H locs ls hrel hn0 hw hnd hL hcs) (fun q => hm _ _ _ _ _ _ (h.2 q) ad H locs ls hrel hn0 hw hnd hL hcs)
    | le => exact lv_if_le hx hb hd hok (fun q => hm _ _ _ _ _ _ (h.1 q) ad H locs ls hrel hn0 hw hnd hL hcs) (fun q => hm _ _ _ _ _ _ (h.2 q) ad H locs ls hrel hn0 hw hnd hL hcs)
  · exact h.elim

theorem am_i_if_icmp {o : Jvm.ClassFile.Cond} {off : Int} (hC : am_Ctx p R s m args meth c dC dI dA d M) {P0 : am_P} (hm : ∀ pc L st G nc ns, P0 pc L st G nc ns → am_W p l e R s m args below meth c dC dI dA M A H0 ad0 n0 QW pc L st G nc ns) {C : am_C} {Q : Option Value → am_G → Prop} {X : am_P} {pc npc a b t u pos : Nat} {cv : Int32} {cl : Int64} {L : am_L} {st : List Value} {G : am_G} {nc ns : Nat} (hd : decode (am_mb M) pc = .ok (.if_icmp o off, am_len (.if_icmp o off) (npc - pc))) (hn : npc = pc + am_len (.if_icmp o off) (npc - pc)) (hok : am_okX MT M pc (.if_icmp o off) a b t u pos cv cl = true) (h : am_ins C M scr Q X P0 pc (.if_icmp o off) npc a b t u cv cl L st G nc ns) : am_W p l e R s m args below meth c dC dI dA M A H0 ad0 n0 QW pc L st G nc ns := by
  obtain ⟨hx, hb, hml, hown, hts, hini, hK, hKX, hRc, hRs, hRf, hRl⟩ := hC
  have hn : npc = pc + 3 := hn
  subst hn
  simp only [am_okX, decide_eq_true_eq] at hok
  simp only [am_ins] at h
  split at h
  · intro ad H locs ls hrel hn0 hw hnd hL hcs
    cases o with
    | eq => exact lv_icmp_eq hx hb hd hok (fun q => hm _ _ _ _ _ _ (h.1 q) ad H locs ls hrel hn0 hw hnd hL hcs) (fun q => hm _ _ _ _ _ _ (h.2 q) ad H locs ls hrel hn0 hw hnd hL hcs)
    | ne => exact lv_icmp_ne hx hb hd hok (fun q => hm _ _ _ _ _ _ (h.1 q) ad H locs ls hrel hn0 hw hnd hL hcs) (fun q => hm _ _ _ _ _ _ (h.2 q) ad H locs ls hrel hn0 hw hnd hL hcs)
    | lt => exact lv_icmp_lt hx hb hd hok (fun q => hm _ _ _ _ _ _ (h.1 q) ad H locs ls hrel hn0 hw hnd hL hcs) (fun q => hm _ _ _ _ _ _ (h.2 q) ad H locs ls hrel hn0 hw hnd hL hcs)
    | ge => exact lv_icmp_ge hx hb hd hok (fun q => hm _ _ _ _ _ _ (h.1 q) ad H locs ls hrel hn0 hw hnd hL hcs) (fun q => hm _ _ _ _ _ _ (h.2 q) ad H locs ls hrel hn0 hw hnd hL hcs)
    | gt => exact lv_icmp_gt hx hb hd hok (fun q => hm _ _ _ _ _ _ (h.1 q) ad H locs ls hrel hn0 hw hnd hL hcs) (fun q => hm _ _ _ _ _ _ (h.2 q) ad H locs ls hrel hn0 hw hnd hL hcs)
    | le => exact lv_icmp_le hx hb hd hok (fun q => hm _ _ _ _ _ _ (h.1 q) ad H locs ls hrel hn0 hw hnd hL hcs) (fun q => hm _ _ _ _ _ _ (h.2 q) ad H locs ls hrel hn0 hw hnd hL hcs)
  · exact h.elim

theorem am_i_ifnull {off : Int} (hC : am_Ctx p R s m args meth c dC dI dA d M) {P0 : am_P} (hm : ∀ pc L st G nc ns, P0 pc L st G nc ns → am_W p l e R s m args below meth c dC dI dA M A H0 ad0 n0 QW pc L st G nc ns) {C : am_C} {Q : Option Value → am_G → Prop} {X : am_P} {pc npc a b t u pos : Nat} {cv : Int32} {cl : Int64} {L : am_L} {st : List Value} {G : am_G} {nc ns : Nat} (hd : decode (am_mb M) pc = .ok (.ifnull off, am_len (.ifnull off) (npc - pc))) (hn : npc = pc + am_len (.ifnull off) (npc - pc)) (hok : am_okX MT M pc (.ifnull off) a b t u pos cv cl = true) (h : am_ins C M scr Q X P0 pc (.ifnull off) npc a b t u cv cl L st G nc ns) : am_W p l e R s m args below meth c dC dI dA M A H0 ad0 n0 QW pc L st G nc ns := by
  obtain ⟨hx, hb, hml, hown, hts, hini, hK, hKX, hRc, hRs, hRf, hRl⟩ := hC
  have hn : npc = pc + 3 := hn
  subst hn
  simp only [am_okX, decide_eq_true_eq] at hok
  simp only [am_ins] at h
  split at h
  · intro ad H locs ls hrel hn0 hw hnd hL hcs
    exact lv_ifnull hx hb hd (hm _ _ _ _ _ _ h ad H locs ls hrel hn0 hw hnd hL hcs)
  · intro ad H locs ls hrel hn0 hw hnd hL hcs
    exact lv_ifnullN hx hb hd hok (hm _ _ _ _ _ _ h ad H locs ls hrel hn0 hw hnd hL hcs)
  · exact h.elim

theorem am_i_ifnonnull {off : Int} (hC : am_Ctx p R s m args meth c dC dI dA d M) {P0 : am_P} (hm : ∀ pc L st G nc ns, P0 pc L st G nc ns → am_W p l e R s m args below meth c dC dI dA M A H0 ad0 n0 QW pc L st G nc ns) {C : am_C} {Q : Option Value → am_G → Prop} {X : am_P} {pc npc a b t u pos : Nat} {cv : Int32} {cl : Int64} {L : am_L} {st : List Value} {G : am_G} {nc ns : Nat} (hd : decode (am_mb M) pc = .ok (.ifnonnull off, am_len (.ifnonnull off) (npc - pc))) (hn : npc = pc + am_len (.ifnonnull off) (npc - pc)) (hok : am_okX MT M pc (.ifnonnull off) a b t u pos cv cl = true) (h : am_ins C M scr Q X P0 pc (.ifnonnull off) npc a b t u cv cl L st G nc ns) : am_W p l e R s m args below meth c dC dI dA M A H0 ad0 n0 QW pc L st G nc ns := by
  obtain ⟨hx, hb, hml, hown, hts, hini, hK, hKX, hRc, hRs, hRf, hRl⟩ := hC
  have hn : npc = pc + 3 := hn
  subst hn
  simp only [am_okX, decide_eq_true_eq] at hok
  simp only [am_ins] at h
  split at h
  · intro ad H locs ls hrel hn0 hw hnd hL hcs
    exact lv_ifnonnull hx hb hd hok (hm _ _ _ _ _ _ h ad H locs ls hrel hn0 hw hnd hL hcs)
  · intro ad H locs ls hrel hn0 hw hnd hL hcs
    exact lv_ifnonnullN hx hb hd (hm _ _ _ _ _ _ h ad H locs ls hrel hn0 hw hnd hL hcs)
  · exact h.elim

theorem am_i_goto {off : Int} (hC : am_Ctx p R s m args meth c dC dI dA d M) {P0 : am_P} (hm : ∀ pc L st G nc ns, P0 pc L st G nc ns → am_W p l e R s m args below meth c dC dI dA M A H0 ad0 n0 QW pc L st G nc ns) {C : am_C} {Q : Option Value → am_G → Prop} {X : am_P} {pc npc a b t u pos : Nat} {cv : Int32} {cl : Int64} {L : am_L} {st : List Value} {G : am_G} {nc ns : Nat} (hd : decode (am_mb M) pc = .ok (.goto off, am_len (.goto off) (npc - pc))) (hn : npc = pc + am_len (.goto off) (npc - pc)) (hok : am_okX MT M pc (.goto off) a b t u pos cv cl = true) (h : am_ins C M scr Q X P0 pc (.goto off) npc a b t u cv cl L st G nc ns) : am_W p l e R s m args below meth c dC dI dA M A H0 ad0 n0 QW pc L st G nc ns := by
  obtain ⟨hx, hb, hml, hown, hts, hini, hK, hKX, hRc, hRs, hRf, hRl⟩ := hC
  have hn : npc = pc + 3 := hn
  subst hn
  simp only [am_okX, decide_eq_true_eq] at hok
  intro ad H locs ls hrel hn0 hw hnd hL hcs
  exact lv_goto hx hb hd hok (hm _ _ _ _ _ _ h ad H locs ls hrel hn0 hw hnd hL hcs)

theorem am_i_tableswitch {df lo hi : Int} {offs : Array Int} (hC : am_Ctx p R s m args meth c dC dI dA d M) {P0 : am_P} (hm : ∀ pc L st G nc ns, P0 pc L st G nc ns → am_W p l e R s m args below meth c dC dI dA M A H0 ad0 n0 QW pc L st G nc ns) {C : am_C} {Q : Option Value → am_G → Prop} {X : am_P} {pc npc a b t u pos : Nat} {cv : Int32} {cl : Int64} {L : am_L} {st : List Value} {G : am_G} {nc ns : Nat} (hd : decode (am_mb M) pc = .ok (.tableswitch df lo hi offs, am_len (.tableswitch df lo hi offs) (npc - pc))) (hn : npc = pc + am_len (.tableswitch df lo hi offs) (npc - pc)) (hok : am_okX MT M pc (.tableswitch df lo hi offs) a b t u pos cv cl = true) (h : am_ins C M scr Q X P0 pc (.tableswitch df lo hi offs) npc a b t u cv cl L st G nc ns) : am_W p l e R s m args below meth c dC dI dA M A H0 ad0 n0 QW pc L st G nc ns := by
  obtain ⟨hx, hb, hml, hown, hts, hini, hK, hKX, hRc, hRs, hRf, hRl⟩ := hC
  simp only [am_okX, Bool.and_eq_true, decide_eq_true_eq] at hok
  simp only [am_ins] at h
  split at h
  · rename_i x _
    intro ad H locs ls hrel hn0 hw hnd hL hcs
    by_cases q : x.toInt < lo ∨ hi < x.toInt
    · exact lv_tableOut hx hb hd q (by simp only [am_tg]; omega) (hm _ _ _ _ _ _ (h.1 q) ad H locs ls hrel hn0 hw hnd hL hcs)
    · have q1 : ¬ x.toInt < lo := fun z => q (Or.inl z)
      have q2 : ¬ hi < x.toInt := fun z => q (Or.inr z)
      cases ho : offs[(x.toInt - lo).toNat]? with
      | none =>
        have h4 := Array.getElem?_eq_none_iff.mp ho
        omega
      | some off =>
        have h3 : 0 ≤ (pc : Int) + off := of_decide_eq_true (List.all_eq_true.mp hok.1.2 off (Array.mem_toList_iff.mpr (Array.mem_of_getElem? ho)))
        exact lv_tableIn hx hb hd q1 q2 ho (by simp only [am_tg]; omega) (hm _ _ _ _ _ _ (h.2 off q1 q2 ho) ad H locs ls hrel hn0 hw hnd hL hcs)
  · exact h.elim

theorem am_i_lookupswitch {df : Int} {ps : Array (Int × Int)} (hC : am_Ctx p R s m args meth c dC dI dA d M) {P0 : am_P} (hm : ∀ pc L st G nc ns, P0 pc L st G nc ns → am_W p l e R s m args below meth c dC dI dA M A H0 ad0 n0 QW pc L st G nc ns) {C : am_C} {Q : Option Value → am_G → Prop} {X : am_P} {pc npc a b t u pos : Nat} {cv : Int32} {cl : Int64} {L : am_L} {st : List Value} {G : am_G} {nc ns : Nat} (hd : decode (am_mb M) pc = .ok (.lookupswitch df ps, am_len (.lookupswitch df ps) (npc - pc))) (hn : npc = pc + am_len (.lookupswitch df ps) (npc - pc)) (hok : am_okX MT M pc (.lookupswitch df ps) a b t u pos cv cl = true) (h : am_ins C M scr Q X P0 pc (.lookupswitch df ps) npc a b t u cv cl L st G nc ns) : am_W p l e R s m args below meth c dC dI dA M A H0 ad0 n0 QW pc L st G nc ns := by
  obtain ⟨hx, hb, hml, hown, hts, hini, hK, hKX, hRc, hRs, hRf, hRl⟩ := hC
  simp only [am_okX, Bool.and_eq_true, decide_eq_true_eq] at hok
  simp only [am_ins] at h
  split at h
  · rename_i x _
    intro ad H locs ls hrel hn0 hw hnd hL hcs
    have hz : 0 ≤ (pc : Int) + Op.lookupswitch.offset ps.toList df x.toInt := by
      have key : ∀ q : List (Int × Int), (∀ o ∈ q, 0 ≤ (pc : Int) + o.2) → 0 ≤ (pc : Int) + Op.lookupswitch.offset q df x.toInt := by
        intro q
        induction q with
        | nil => intro _; exact hok.1.2
        | cons y q ih =>
          intro hq
          simp only [Op.lookupswitch.offset]
          split
          · exact hq y List.mem_cons_self
          · exact ih (fun o ho => hq o (List.mem_cons_of_mem _ ho))
      exact key _ (fun o ho => of_decide_eq_true (List.all_eq_true.mp hok.2 o ho))
    exact lv_lookup hx hb hd hok.1.1 rfl (by simp only [am_tg]; omega) (hm _ _ _ _ _ _ h ad H locs ls hrel hn0 hw hnd hL hcs)
  · exact h.elim

theorem am_i_getfield {idx : Nat} (hC : am_Ctx p R s m args meth c dC dI dA d M) {P0 : am_P} (hm : ∀ pc L st G nc ns, P0 pc L st G nc ns → am_W p l e R s m args below meth c dC dI dA M A H0 ad0 n0 QW pc L st G nc ns) {C : am_C} {Q : Option Value → am_G → Prop} {X : am_P} {pc npc a b t u pos : Nat} {cv : Int32} {cl : Int64} {L : am_L} {st : List Value} {G : am_G} {nc ns : Nat} (hd : decode (am_mb M) pc = .ok (.getfield idx, am_len (.getfield idx) (npc - pc))) (hn : npc = pc + am_len (.getfield idx) (npc - pc)) (hok : am_okX MT M pc (.getfield idx) a b t u pos cv cl = true) (h : am_ins C M scr Q X P0 pc (.getfield idx) npc a b t u cv cl L st G nc ns) : am_W p l e R s m args below meth c dC dI dA M A H0 ad0 n0 QW pc L st G nc ns := by
  obtain ⟨hx, hb, hml, hown, hts, hini, hK, hKX, hRc, hRs, hRf, hRl⟩ := hC
  have hn : npc = pc + 3 := hn
  subst hn
  obtain ⟨Cn, T, N, hc, hbN, hT, hlk⟩ := am_fld_ok hok
  simp only [am_ins] at h
  split at h
  · split at h
    · rename_i o _ _ ci fs hG
      obtain ⟨rfl, h⟩ := h
      split at h
      · rename_i v hv
        intro ad H locs ls hrel hn0 hw hnd hL hcs
        exact va_get hx hb hts (am_cls_ok hc).1 hown hK hw.1 o (am_cw_get hG) hc b hbN (hts _ hlk) (fun x hx => by rw [hT] at hx; exact hx) (v := am_cv ad v) (by rw [List.getElem?_map, hv]; rfl) hd (hm _ _ _ _ _ _ h ad H locs ls hrel hn0 hw hnd hL hcs)
      · exact h.elim
    · exact h.elim
  · exact h.elim

theorem am_putv (hC : am_Ctx p R s m args meth c dC dI dA d M) {P0 : am_P} (hm : ∀ pc L st G nc ns, P0 pc L st G nc ns → am_W p l e R s m args below meth c dC dI dA M A H0 ad0 n0 QW pc L st G nc ns) {pc b o ci idx : Nat} {L : am_L} {st : List Value} {G : am_G} {nc ns : Nat} {fs : List Value} {v : Value} {Cn : String} {T : u_T} {N : Nat} {ty : FieldType} (hd : decode (am_mb M) pc = .ok (.putfield idx, 3)) (hc : vwCl[ci]? = some (Cn, T, N)) (hbN : b < N) (hT : (T b).1 = Cn) (hlk : Jvm.Cond.fieldLink (am_my M).cls idx Cn (T b).2.1 (T b).2.2.1 ∈ am_U) (hfin : (T b).2.2.2 = false ∨ (am_my M).name = "<init>" ∧ (T b).1 = (am_my M).cls) (hpd : parseFieldDescriptor (T b).2.2.1 = some ty) (hG : G[o]? = some (.inr (.inr (.inr (ci, fs))))) (hlen : b < fs.length) (hnar : ∀ ad : Nat → Nat, narrow ty (am_cv ad v) = am_cv ad v) (hfit : ∀ ad : Nat → Nat, fits ty (am_cv ad v) = true) (h : P0 (pc + 3) L st (G.set o (.inr (.inr (.inr (ci, fs.set b v))))) nc ns) : am_W p l e R s m args below meth c dC dI dA M A H0 ad0 n0 QW pc L (v :: .ref o :: st) G nc ns := by
  obtain ⟨hx, hb, hml, hown, hts, hini, hK, hKX, hRc, hRs, hRf, hRl⟩ := hC
  obtain ⟨ty0, hty0, hnm, -⟩ := (am_cls_ok hc).2
  intro ad H locs ls hrel hn0 hw hnd hL hcs
  have hkk : ∀ (H1 : Heap) (locs1 : List Loc), va_P (dC, dI) vwCl ((am_cw dA ad G).set o (ad o, .inr (ci, (fs.map (am_cv ad)).set b (am_cv ad v)))) H1 → va_D A ((am_cw dA ad G).set o (ad o, .inr (ci, (fs.map (am_cv ad)).set b (am_cv ad v)))) → va_S A H0 H1 locs1 → W p l e R s m args below meth c H1 locs1 nc ns QW (F0 m (pc + 3) ls (st.map (am_cv ad))) := fun H1 locs1 h1 h2 h3 => hm _ _ _ _ _ _ h ad H1 locs1 ls hrel (by rw [List.length_set]; exact hn0) ⟨by rw [← am_set_O]; exact h1, by rw [← am_set_O]; exact h2, h3⟩ hnd hL hcs
  cases hff : (T b).2.2.2 with
  | false => exact va_put hx hb hts (am_cls_ok hc).1 ty0 hty0 hnm hown hK hw.1 hw.2.1 hw.2.2 o (am_cw_get hG) hc b hbN (hts _ hlk) (fun x hx => by rw [hT] at hx; exact hx) hff hpd (hnar ad) (hfit ad) (by rw [List.length_map]; exact hlen) hd hkk
  | true =>
    rcases hfin with hfin | ⟨hfin, hdc⟩
    · rw [hfin] at hff
      cases hff
    · exact va_putF hx hb hts (am_cls_ok hc).1 ty0 hty0 hnm hown hK hw.1 hw.2.1 hw.2.2 o (am_cw_get hG) hc b hbN (hts _ hlk) (fun x hx => by rw [hT] at hx; exact hx) hff (hini hfin) hdc hpd (hnar ad) (hfit ad) (by rw [List.length_map]; exact hlen) hd hkk
theorem am_nb {x : Int32} (h : x = 0 ∨ x = 1) : narrow .boolean (.int x) = .int x ∧ fits .boolean (.int x) = true ∧ vp_nar .boolean x = x := by
  rcases h with rfl | rfl <;> decide +kernel

theorem am_i_putfield {idx : Nat} (hC : am_Ctx p R s m args meth c dC dI dA d M) {P0 : am_P} (hm : ∀ pc L st G nc ns, P0 pc L st G nc ns → am_W p l e R s m args below meth c dC dI dA M A H0 ad0 n0 QW pc L st G nc ns) {C : am_C} {Q : Option Value → am_G → Prop} {X : am_P} {pc npc a b t u pos : Nat} {cv : Int32} {cl : Int64} {L : am_L} {st : List Value} {G : am_G} {nc ns : Nat} (hd : decode (am_mb M) pc = .ok (.putfield idx, am_len (.putfield idx) (npc - pc))) (hn : npc = pc + am_len (.putfield idx) (npc - pc)) (hok : am_okX MT M pc (.putfield idx) a b t u pos cv cl = true) (h : am_ins C M scr Q X P0 pc (.putfield idx) npc a b t u cv cl L st G nc ns) : am_W p l e R s m args below meth c dC dI dA M A H0 ad0 n0 QW pc L st G nc ns := by
  obtain ⟨hx, hb, hml, hown, hts, hini, hK, hKX, hRc, hRs, hRf, hRl⟩ := hC
  have hn : npc = pc + 3 := hn
  subst hn
  simp only [am_okX, Bool.and_eq_true] at hok
  obtain ⟨hok, hpf⟩ := hok
  obtain ⟨Cn, T, N, hc, hbN, hT, hlk⟩ := am_fld_ok hok
  unfold am_pfl at hpf
  rw [hc] at hpf
  simp only [Bool.and_eq_true, Bool.or_eq_true, beq_iff_eq, decide_eq_true_eq] at hpf
  obtain ⟨hfin, hpf⟩ := hpf
  have hCC : am_Ctx p R s m args meth c dC dI dA d M := ⟨hx, hb, hml, hown, hts, hini, hK, hKX, hRc, hRs, hRf, hRl⟩
  simp only [am_ins] at h
  split at h
  · split at h
    · rename_i ci fs hG
      obtain ⟨rfl, hlen, h⟩ := h
      cases hpd : parseFieldDescriptor (T b).2.2.1 with
      | none => rw [hpd] at hpf; simp at hpf
      | some ty =>
        rw [hpd] at hpf
        split at h
        · cases ty with
          | int => exact am_putv hCC hm hd hc hbN hT hlk hfin hpd hG hlen (fun _ => rfl) (fun _ => rfl) h
          | _ => simp at hpf
        · cases ty with
          | boolean => exact am_putv hCC hm hd hc hbN hT hlk hfin hpd hG hlen (fun _ => (am_nb h.1).1) (fun _ => (am_nb h.1).2.1) h.2
          | _ => simp at hpf
        · cases ty with
          | object _ => exact am_putv hCC hm hd hc hbN hT hlk hfin hpd hG hlen (fun _ => rfl) (fun _ => rfl) h
          | array _ => exact am_putv hCC hm hd hc hbN hT hlk hfin hpd hG hlen (fun _ => rfl) (fun _ => rfl) h
          | _ => simp at hpf
        · exact h.elim
    · exact h.elim
  · exact h.elim

end AMS
end
section
/-! ONE STEP IS SOUND, second half: rows of arrays, makers, calls, ends. -/
theorem am_good {w : Jvm.Cond} (h : w ∈ am_U) : w ∈ am_U ∧ ((w.onTables && w.keeps) = true ∨ ∃ ty, w = .arrayClass ty) := ⟨h, good_of_word (List.mem_filter.mp h).2⟩
theorem am_catsum (ad : Nat → Nat) (st : List Value) : ((st.map (am_cv ad)).map fun v => v.category).sum = (st.map fun v => v.category).sum := by
  rw [List.map_map]
  congr 1
  exact List.map_congr_left fun v _ => am_cat ad v
theorem am_dfl_cv (ad : Nat → Nat) (a : Nat) : (am_dfl a).map (am_cv ad) = am_dfl a := by
  have key : ∀ l : List Value, (l.all fun v => match v with
    | .ref _ => false
    | _ => true) = true → l.map (am_cv ad) = l := by
    intro l h
    conv => rhs; rw [← List.map_id l]
    refine List.map_congr_left fun v hv => ?_
    have h1 := List.all_eq_true.mp h v hv
    cases v with
    | ref k => cases h1
    | _ => rfl
  apply key
  unfold am_dfl
  split <;> decide +kernel
theorem am_KX_same {u U : State} (h : u.vm = U.vm) (hK : am_KX u) : am_KX U := by
  obtain ⟨h1, h2, h3, h4⟩ := hK
  have ha : u.vm.Alike U.vm := by rw [h]; exact Vm.Alike.refl _
  refine ⟨fun w hw => ?_, va_AO.moved ha h2, va_AO.moved ha h3, va_AO.moved ha h4⟩
  refine va_Nw.same ?_ h (h1 w hw)
  have := (List.mem_filter.mp hw).2
  split at this
  · rfl
  · cases this
theorem am_KX_warm {s U : State} (h : s.WarmedH U.vm) (hK : am_KX s) : am_KX U := by
  obtain ⟨h1, h2, h3, h4⟩ := hK
  refine ⟨fun w hw => ?_, va_AO.moved h.alike h2, va_AO.moved h.alike h3, va_AO.moved h.alike h4⟩
  have := (List.mem_filter.mp hw).2
  split at this
  · exact va_Nw.warmM h (h1 _ hw)
  · cases this
def am_SX (ad : Nat → Nat) (A : Nat → Prop) (U : State) (H : Heap) : Prop :=
  (∃ adV : Nat → Nat, vk_S 10 ((List.range 10).map (fun i => (am_str i).length)) ((List.range 10).map (fun i => (am_str i).map nI)) (fun i => ad (1000000 + i)) adV A U H) ∧ (∀ i, i < 2 → ad (1000010 + i) = ad (1000000 + i)) ∧ (∀ (i : Nat) (own : String) (k : Nat), am_sk i = some (own, k) → ∃ tx, vk_R own k tx (ad (1000000 + i)) U) ∧ va_Z "java/lang/String" "COMPACT_STRINGS" "Z" (.int 1) A U H ∧ va_Zq "jdk/internal/util/Preconditions" "SIOOBE_FORMATTER" "Ljava/util/function/BiFunction;" A U H
theorem am_SX_same {ad : Nat → Nat} {A : Nat → Prop} {u U : State} {H : Heap} (hv : U.vm = u.vm) (h : am_SX ad A u H) : am_SX ad A U H := by
  obtain ⟨⟨adV, h1⟩, h2, h3, h4, h5⟩ := h
  have ha : u.vm.Alike U.vm := by rw [hv]; exact Vm.Alike.refl _
  refine ⟨⟨adV, h1.moved ha⟩, h2, fun i own k hk => ?_, h4.moved ha, h5.moved ha⟩
  obtain ⟨tx, hx⟩ := h3 i own k hk
  exact ⟨tx, hx.same hv⟩
theorem am_SX_warm {ad : Nat → Nat} {A : Nat → Prop} {s U : State} {H : Heap} (hv : s.WarmedH U.vm) (h : am_SX ad A s H) : am_SX ad A U H := by
  obtain ⟨⟨adV, h1⟩, h2, h3, h4, h5⟩ := h
  refine ⟨⟨adV, h1.moved hv.alike⟩, h2, fun i own k hk => ?_, h4.moved hv.alike, h5.moved hv.alike⟩
  obtain ⟨tx, hx⟩ := h3 i own k hk
  exact ⟨tx, hx.warm hv⟩
theorem am_SX_kept {ad : Nat → Nat} {A : Nat → Prop} {U : State} {H H1 : Heap} (h : am_SX ad A U H) (hq : ∀ a : Nat, a < H.size → ¬ A a → H1[a]? = H[a]?) : am_SX ad A U H1 := by
  obtain ⟨⟨adV, h1⟩, h2, h3, h4, h5⟩ := h
  exact ⟨⟨adV, h1.kept hq⟩, h2, h3, h4.kept hq, h5.kept hq⟩
theorem am_SX_narrow {ad : Nat → Nat} {A B : Nat → Prop} {U : State} {H : Heap} (h : am_SX ad A U H) (hAB : ∀ q, B q → A q) : am_SX ad B U H := by
  obtain ⟨⟨adV, h1⟩, h2, h3, h4, h5⟩ := h
  exact ⟨⟨adV, h1.narrow hAB⟩, h2, h3, h4.narrow hAB, h5.narrow hAB⟩
theorem am_SX_ad {ad ad1 : Nat → Nat} {A : Nat → Prop} {U : State} {H : Heap} (h : am_SX ad A U H) (hx : ∀ k, 1000000 ≤ k → ad1 k = ad k) : am_SX ad1 A U H := by
  obtain ⟨⟨adV, h1⟩, h2, h3, h4, h5⟩ := h
  have e : (fun i => ad1 (1000000 + i)) = fun i => ad (1000000 + i) := funext fun i => hx _ (by omega)
  refine ⟨⟨adV, by rw [e]; exact h1⟩, fun i hi => by rw [hx _ (by omega), hx _ (by omega)]; exact h2 i hi, fun i own k hk => by rw [hx _ (by omega)]; exact h3 i own k hk, h4, h5⟩
def am_rm (d : Nat) (M : am_M) : Room := { frames := d + 40, cells := am_mc M, slots := am_ms M, locals := 80 * d + 2000 }
def am_ws (M : am_M) : List Jvm.Cond := Jvm.Cond.code (am_my M) (am_mb M) (am_mL M) (am_mr M) :: am_U
def am_Pc (dC : Nat → ClassId) (dI : Nat → Nat → Nat) (dA : Nat → ClassId) (As : List Value) (G : am_G) (ad : Nat → Nat) (sz : Nat) : Array Value → State → Prop := va_Pc (As.map (am_cv ad)) (fun U => U.heap.size = sz ∧ va_P (dC, dI) vwCl (am_cw dA ad G) U.heap ∧ va_K (dC, dI) vwCl (am_ty dA) U ∧ va_D (fun _ => True) (am_cw dA ad G) ∧ am_KX U ∧ am_SX ad (va_A (am_cw dA ad G) sz) U U.heap)
def am_B (dC : Nat → ClassId) (dI : Nat → Nat → Nat) (dA : Nat → ClassId) (mc : Nat) (G : am_G) (ad : Nat → Nat) (sz : Nat) (u : am_G × (Nat → Nat)) (t : State) : Prop := va_P (dC, dI) vwCl (am_cw dA u.2 u.1) t.heap ∧ va_D (va_A (am_cw dA ad G) sz) (am_cw dA u.2 u.1) ∧ G.length ≤ u.1.length ∧ am_Rel mc G.length ad u.2
def am_Qc (dC : Nat → ClassId) (dI : Nat → Nat → Nat) (dA : Nat → ClassId) (M : am_M) (post : Option Value → am_G → Prop) (G : am_G) (ad : Nat → Nat) (sz : Nat) : Array Value → State → Outcome → State → Prop := match am_mr M with
  | none => va_Qv (fun u : am_G × (Nat → Nat) => post none u.1) (am_B dC dI dA (am_mc M) G ad sz) (va_A (am_cw dA ad G) sz)
  | some .long => va_Ql (fun (r : Int64) (u : am_G × (Nat → Nat)) => post (some (.long r)) u.1) (am_B dC dI dA (am_mc M) G ad sz) (va_A (am_cw dA ad G) sz)
  | some _ => va_Qi (fun (r : Int32) (u : am_G × (Nat → Nat)) => post (some (.int r)) u.1) (am_B dC dI dA (am_mc M) G ad sz) (va_A (am_cw dA ad G) sz)
def am_Met (l : Launch) (dC : Nat → ClassId) (dI : Nat → Nat → Nat) (dA : Nat → ClassId) (d : Nat) (M : am_M) (As : List Value) (G : am_G) (post : Option Value → am_G → Prop) : Prop :=
  ∀ (ad : Nat → Nat) (sz : Nat), Met l (am_my M) (am_ws M) (am_rm d M) (am_Pc dC dI dA As G ad sz) (am_Qc dC dI dA M post G ad sz) (am_mc M) (am_ms M) (va_A (am_cw dA ad G) sz)
theorem am_blind {dC : Nat → ClassId} {dI : Nat → Nat → Nat} {dA : Nat → ClassId} {As : List Value} {G : am_G} {ad : Nat → Nat} {sz : Nat} : FrameBlind (am_Pc dC dI dA As G ad sz) := by
  intro a U g mk q
  obtain ⟨q0, q1, qP, qK, qD, qX, qS⟩ := q
  exact ⟨q0, q1, qP, va_K.moved (u := U) (U := U.calling g mk a) (Vm.Alike.refl U.vm) qK, qD, am_KX_same (u := U) (U := U.calling g mk a) rfl qX, am_SX_same (u := U) (U := U.calling g mk a) rfl qS⟩
section AMS
variable {p : Program} {l : Launch} {e : Env} {R : Room} {s : State} {m : MethodId} {args : Array Value} {below : List Frame} {meth : Method} {c : Code} {dC : Nat → ClassId} {dI : Nat → Nat → Nat} {dA : Nat → ClassId} {d : Nat} {M : am_M} {A : Nat → Prop} {H0 : Heap} {ad0 : Nat → Nat} {n0 : Nat} {QW : State → Prop} {MT : Nat → Option am_M} {scr : Option (Nat × (Nat → Int32))}

theorem am_i_iaload (hC : am_Ctx p R s m args meth c dC dI dA d M) {P0 : am_P} (hm : ∀ pc L st G nc ns, P0 pc L st G nc ns → am_W p l e R s m args below meth c dC dI dA M A H0 ad0 n0 QW pc L st G nc ns) {C : am_C} {Q : Option Value → am_G → Prop} {X : am_P} {pc npc a b t u pos : Nat} {cv : Int32} {cl : Int64} {L : am_L} {st : List Value} {G : am_G} {nc ns : Nat} (hd : decode (am_mb M) pc = .ok (.iaload, am_len (.iaload) (npc - pc))) (hn : npc = pc + am_len (.iaload) (npc - pc)) (hok : am_okX MT M pc (.iaload) a b t u pos cv cl = true) (h : am_ins C M none Q X P0 pc (.iaload) npc a b t u cv cl L st G nc ns) : am_W p l e R s m args below meth c dC dI dA M A H0 ad0 n0 QW pc L st G nc ns := by
  obtain ⟨hx, hb, hml, hown, hts, hini, hK, hKX, hRc, hRs, hRf, hRl⟩ := hC
  have hn : npc = pc + 1 := hn
  subst hn
  simp only [am_ins] at h
  split at h
  · split at h
    · rename_i hG
      obtain ⟨rfl, hin, h⟩ := h
      intro ad H locs ls hrel hn0 hw hnd hL hcs
      exact va_iald hx hb hK hw.1 _ 0 (am_cw_get hG) rfl hin hd (hm _ _ _ _ _ _ h ad H locs ls hrel hn0 hw hnd hL hcs)
    · exact h.elim
  · exact h.elim

theorem am_i_baload (hC : am_Ctx p R s m args meth c dC dI dA d M) {P0 : am_P} (hm : ∀ pc L st G nc ns, P0 pc L st G nc ns → am_W p l e R s m args below meth c dC dI dA M A H0 ad0 n0 QW pc L st G nc ns) {C : am_C} {Q : Option Value → am_G → Prop} {X : am_P} {pc npc a b t u pos : Nat} {cv : Int32} {cl : Int64} {L : am_L} {st : List Value} {G : am_G} {nc ns : Nat} (hd : decode (am_mb M) pc = .ok (.baload, am_len (.baload) (npc - pc))) (hn : npc = pc + am_len (.baload) (npc - pc)) (hok : am_okX MT M pc (.baload) a b t u pos cv cl = true) (h : am_ins C M scr Q X P0 pc (.baload) npc a b t u cv cl L st G nc ns) : am_W p l e R s m args below meth c dC dI dA M A H0 ad0 n0 QW pc L st G nc ns := by
  obtain ⟨hx, hb, hml, hown, hts, hini, hK, hKX, hRc, hRs, hRf, hRl⟩ := hC
  have hn : npc = pc + 1 := hn
  subst hn
  simp only [am_ins] at h
  split at h
  · split at h
    · rename_i hG
      obtain ⟨rfl, hin, h⟩ := h
      intro ad H locs ls hrel hn0 hw hnd hL hcs
      exact va_zald hx hb hK hw.1 _ 2 (am_cw_get hG) rfl hin hd (hm _ _ _ _ _ _ h ad H locs ls hrel hn0 hw hnd hL hcs)
    · exact h.elim
  · exact h.elim

theorem am_i_laload (hC : am_Ctx p R s m args meth c dC dI dA d M) {P0 : am_P} (hm : ∀ pc L st G nc ns, P0 pc L st G nc ns → am_W p l e R s m args below meth c dC dI dA M A H0 ad0 n0 QW pc L st G nc ns) {C : am_C} {Q : Option Value → am_G → Prop} {X : am_P} {pc npc a b t u pos : Nat} {cv : Int32} {cl : Int64} {L : am_L} {st : List Value} {G : am_G} {nc ns : Nat} (hd : decode (am_mb M) pc = .ok (.laload, am_len (.laload) (npc - pc))) (hn : npc = pc + am_len (.laload) (npc - pc)) (hok : am_okX MT M pc (.laload) a b t u pos cv cl = true) (h : am_ins C M scr Q X P0 pc (.laload) npc a b t u cv cl L st G nc ns) : am_W p l e R s m args below meth c dC dI dA M A H0 ad0 n0 QW pc L st G nc ns := by
  obtain ⟨hx, hb, hml, hown, hts, hini, hK, hKX, hRc, hRs, hRf, hRl⟩ := hC
  have hn : npc = pc + 1 := hn
  subst hn
  simp only [am_ins] at h
  split at h
  · split at h
    · rename_i hG
      obtain ⟨hin, h⟩ := h
      intro ad H locs ls hrel hn0 hw hnd hL hcs
      exact va_lald hx hb hK hw.1 _ 1 (am_cw_get hG) rfl hin hd (hm _ _ _ _ _ _ h ad H locs ls hrel hn0 hw hnd hL hcs)
    · exact h.elim
  · exact h.elim

theorem am_i_iastore (hC : am_Ctx p R s m args meth c dC dI dA d M) {P0 : am_P} (hm : ∀ pc L st G nc ns, P0 pc L st G nc ns → am_W p l e R s m args below meth c dC dI dA M A H0 ad0 n0 QW pc L st G nc ns) {C : am_C} {Q : Option Value → am_G → Prop} {X : am_P} {pc npc a b t u pos : Nat} {cv : Int32} {cl : Int64} {L : am_L} {st : List Value} {G : am_G} {nc ns : Nat} (hd : decode (am_mb M) pc = .ok (.iastore, am_len (.iastore) (npc - pc))) (hn : npc = pc + am_len (.iastore) (npc - pc)) (hok : am_okX MT M pc (.iastore) a b t u pos cv cl = true) (h : am_ins C M scr Q X P0 pc (.iastore) npc a b t u cv cl L st G nc ns) : am_W p l e R s m args below meth c dC dI dA M A H0 ad0 n0 QW pc L st G nc ns := by
  obtain ⟨hx, hb, hml, hown, hts, hini, hK, hKX, hRc, hRs, hRf, hRl⟩ := hC
  have hn : npc = pc + 1 := hn
  subst hn
  simp only [am_ins] at h
  split at h
  · split at h
    · rename_i hG
      obtain ⟨rfl, hin, h⟩ := h
      intro ad H locs ls hrel hn0 hw hnd hL hcs
      exact va_iast hx hb hK hw.1 hw.2.1 hw.2.2 _ 0 (am_cw_get hG) rfl hin hd (fun H1 locs1 h1 h2 h3 => hm _ _ _ _ _ _ h ad H1 locs1 ls hrel (by rw [List.length_set]; exact hn0) ⟨by rw [← am_cw_set]; exact h1, by rw [← am_cw_set]; exact h2, h3⟩ hnd hL hcs)
    · exact h.elim
  · exact h.elim

theorem am_i_bastore (hC : am_Ctx p R s m args meth c dC dI dA d M) {P0 : am_P} (hm : ∀ pc L st G nc ns, P0 pc L st G nc ns → am_W p l e R s m args below meth c dC dI dA M A H0 ad0 n0 QW pc L st G nc ns) {C : am_C} {Q : Option Value → am_G → Prop} {X : am_P} {pc npc a b t u pos : Nat} {cv : Int32} {cl : Int64} {L : am_L} {st : List Value} {G : am_G} {nc ns : Nat} (hd : decode (am_mb M) pc = .ok (.bastore, am_len (.bastore) (npc - pc))) (hn : npc = pc + am_len (.bastore) (npc - pc)) (hok : am_okX MT M pc (.bastore) a b t u pos cv cl = true) (h : am_ins C M scr Q X P0 pc (.bastore) npc a b t u cv cl L st G nc ns) : am_W p l e R s m args below meth c dC dI dA M A H0 ad0 n0 QW pc L st G nc ns := by
  obtain ⟨hx, hb, hml, hown, hts, hini, hK, hKX, hRc, hRs, hRf, hRl⟩ := hC
  have hn : npc = pc + 1 := hn
  subst hn
  simp only [am_ins] at h
  split at h
  · split at h
    · rename_i hG
      obtain ⟨rfl, hbx, hin, h⟩ := h
      intro ad H locs ls hrel hn0 hw hnd hL hcs
      exact va_zast hx hb hK hw.1 hw.2.1 hw.2.2 _ 2 (am_cw_get hG) rfl hin hd (fun H1 locs1 h1 h2 h3 => by
        rw [(am_nb hbx).2.2] at h1 h2
        exact hm _ _ _ _ _ _ h ad H1 locs1 ls hrel (by rw [List.length_set]; exact hn0) ⟨by rw [← am_cw_set]; exact h1, by rw [← am_cw_set]; exact h2, h3⟩ hnd hL hcs)
    · exact h.elim
  · exact h.elim

theorem am_i_lastore (hC : am_Ctx p R s m args meth c dC dI dA d M) {P0 : am_P} (hm : ∀ pc L st G nc ns, P0 pc L st G nc ns → am_W p l e R s m args below meth c dC dI dA M A H0 ad0 n0 QW pc L st G nc ns) {C : am_C} {Q : Option Value → am_G → Prop} {X : am_P} {pc npc a b t u pos : Nat} {cv : Int32} {cl : Int64} {L : am_L} {st : List Value} {G : am_G} {nc ns : Nat} (hd : decode (am_mb M) pc = .ok (.lastore, am_len (.lastore) (npc - pc))) (hn : npc = pc + am_len (.lastore) (npc - pc)) (hok : am_okX MT M pc (.lastore) a b t u pos cv cl = true) (h : am_ins C M scr Q X P0 pc (.lastore) npc a b t u cv cl L st G nc ns) : am_W p l e R s m args below meth c dC dI dA M A H0 ad0 n0 QW pc L st G nc ns := by
  obtain ⟨hx, hb, hml, hown, hts, hini, hK, hKX, hRc, hRs, hRf, hRl⟩ := hC
  have hn : npc = pc + 1 := hn
  subst hn
  simp only [am_ins] at h
  split at h
  · split at h
    · rename_i hG
      obtain ⟨hin, h⟩ := h
      intro ad H locs ls hrel hn0 hw hnd hL hcs
      exact va_last hx hb hK hw.1 hw.2.1 hw.2.2 _ 1 (am_cw_get hG) rfl hin hd (fun H1 locs1 h1 h2 h3 => hm _ _ _ _ _ _ h ad H1 locs1 ls hrel (by rw [List.length_set]; exact hn0) ⟨by rw [← am_cw_set]; exact h1, by rw [← am_cw_set]; exact h2, h3⟩ hnd hL hcs)
    · exact h.elim
  · exact h.elim

theorem am_i_aaload (hC : am_Ctx p R s m args meth c dC dI dA d M) {P0 : am_P} (hm : ∀ pc L st G nc ns, P0 pc L st G nc ns → am_W p l e R s m args below meth c dC dI dA M A H0 ad0 n0 QW pc L st G nc ns) {C : am_C} {Q : Option Value → am_G → Prop} {X : am_P} {pc npc a b t u pos : Nat} {cv : Int32} {cl : Int64} {L : am_L} {st : List Value} {G : am_G} {nc ns : Nat} (hd : decode (am_mb M) pc = .ok (.aaload, am_len (.aaload) (npc - pc))) (hn : npc = pc + am_len (.aaload) (npc - pc)) (hok : am_okX MT M pc (.aaload) a b t u pos cv cl = true) (h : am_ins C M scr Q X P0 pc (.aaload) npc a b t u cv cl L st G nc ns) : am_W p l e R s m args below meth c dC dI dA M A H0 ad0 n0 QW pc L st G nc ns := by
  obtain ⟨hx, hb, hml, hown, hts, hini, hK, hKX, hRc, hRs, hRf, hRl⟩ := hC
  have hn : npc = pc + 1 := hn
  subst hn
  simp only [am_ins] at h
  split at h
  · split at h
    · rename_i k lst hG
      obtain ⟨hk3, hk6, hin, h⟩ := h
      intro ad H locs ls hrel hn0 hw hnd hL hcs
      have hty : ∃ Cc, (am_ty dA)[k]? = some (dA k, .object Cc) := by
        match k, hk3, hk6 with
        | 3, _, _ => exact ⟨_, rfl⟩
        | 4, _, _ => exact ⟨_, rfl⟩
        | 5, _, _ => exact ⟨_, rfl⟩
      obtain ⟨Cc, hty⟩ := hty
      refine va_aldq hx hb hK hw.1 _ k (am_cw_get hG) hty hin hd ?_
      refine W.eq ?_ (hm _ _ _ _ _ _ h ad H locs ls hrel hn0 hw hnd hL hcs)
      simp only [List.map_cons]
      congr 2
      cases lst.getD _ none <;> rfl
    · exact h.elim
  · exact h.elim

theorem am_i_aastore (hC : am_Ctx p R s m args meth c dC dI dA d M) {P0 : am_P} (hm : ∀ pc L st G nc ns, P0 pc L st G nc ns → am_W p l e R s m args below meth c dC dI dA M A H0 ad0 n0 QW pc L st G nc ns) {C : am_C} {Q : Option Value → am_G → Prop} {X : am_P} {pc npc a b t u pos : Nat} {cv : Int32} {cl : Int64} {L : am_L} {st : List Value} {G : am_G} {nc ns : Nat} (hd : decode (am_mb M) pc = .ok (.aastore, am_len (.aastore) (npc - pc))) (hn : npc = pc + am_len (.aastore) (npc - pc)) (hok : am_okX MT M pc (.aastore) a b t u pos cv cl = true) (h : am_ins C M scr Q X P0 pc (.aastore) npc a b t u cv cl L st G nc ns) : am_W p l e R s m args below meth c dC dI dA M A H0 ad0 n0 QW pc L st G nc ns := by
  obtain ⟨hx, hb, hml, hown, hts, hini, hK, hKX, hRc, hRs, hRf, hRl⟩ := hC
  have hn : npc = pc + 1 := hn
  subst hn
  simp only [am_ins] at h
  split at h
  · split at h
    · rename_i k lst ci fs hG hV
      obtain ⟨hk3, hk6, hci, hin, h⟩ := h
      intro ad H locs ls hrel hn0 hw hnd hL hcs
      have hlt : (_ : Int32).toNatClampNeg < lst.length := Nat.lt_of_not_le fun z => hin (Or.inr z)
      have hty : ∃ r : vw_C, (am_ty dA)[k]? = some (dA k, .object r.1) ∧ vwCl[ci]? = some r := by
        subst hci
        match k, hk3, hk6 with
        | 3, _, _ => exact ⟨_, rfl, rfl⟩
        | 4, _, _ => exact ⟨_, rfl, rfl⟩
        | 5, _, _ => exact ⟨_, rfl, rfl⟩
      obtain ⟨r, hty, hr⟩ := hty
      exact va_astq hx hb hK hw.1 hw.2.1 hw.2.2 _ k _ ci (am_cw_get hG) hty (am_cw_get hV) hr hin hd (fun H1 locs1 h1 h2 h3 => hm _ _ _ _ _ _ h ad H1 locs1 ls hrel (by rw [List.length_set]; exact hn0) ⟨by rw [← am_set_R hlt]; exact h1, by rw [← am_set_R hlt]; exact h2, h3⟩ hnd hL hcs)
    · exact h.elim
  · exact h.elim

theorem am_i_arraylength (hC : am_Ctx p R s m args meth c dC dI dA d M) {P0 : am_P} (hm : ∀ pc L st G nc ns, P0 pc L st G nc ns → am_W p l e R s m args below meth c dC dI dA M A H0 ad0 n0 QW pc L st G nc ns) {C : am_C} {Q : Option Value → am_G → Prop} {X : am_P} {pc npc a b t u pos : Nat} {cv : Int32} {cl : Int64} {L : am_L} {st : List Value} {G : am_G} {nc ns : Nat} (hd : decode (am_mb M) pc = .ok (.arraylength, am_len (.arraylength) (npc - pc))) (hn : npc = pc + am_len (.arraylength) (npc - pc)) (hok : am_okX MT M pc (.arraylength) a b t u pos cv cl = true) (h : am_ins C M none Q X P0 pc (.arraylength) npc a b t u cv cl L st G nc ns) : am_W p l e R s m args below meth c dC dI dA M A H0 ad0 n0 QW pc L st G nc ns := by
  obtain ⟨hx, hb, hml, hown, hts, hini, hK, hKX, hRc, hRs, hRf, hRl⟩ := hC
  have hn : npc = pc + 1 := hn
  subst hn
  simp only [am_ins] at h
  split at h
  · split at h
    · rename_i k n f hG
      obtain ⟨hk, h⟩ := h
      intro ad H locs ls hrel hn0 hw hnd hL hcs
      have hty : ∃ ty, (am_ty dA)[k]? = some (dA k, ty) := by
        match k, hk with
        | 0, _ => exact ⟨_, rfl⟩
        | 1, _ => exact ⟨_, rfl⟩
        | 2, _ => exact ⟨_, rfl⟩
      obtain ⟨ty, hty⟩ := hty
      exact va_alen hx hb hK hw.1 _ k (am_cw_get hG) hty rfl hd (hm _ _ _ _ _ _ h ad H locs ls hrel hn0 hw hnd hL hcs)
    · rename_i hG
      intro ad H locs ls hrel hn0 hw hnd hL hcs
      exact va_alen hx hb hK hw.1 _ 1 (am_cw_get hG) rfl rfl hd (hm _ _ _ _ _ _ h ad H locs ls hrel hn0 hw hnd hL hcs)
    · rename_i k lst hG
      obtain ⟨hk3, hk6, h⟩ := h
      intro ad H locs ls hrel hn0 hw hnd hL hcs
      have hty : ∃ ty, (am_ty dA)[k]? = some (dA k, ty) := by
        match k, hk3, hk6 with
        | 3, _, _ => exact ⟨_, rfl⟩
        | 4, _, _ => exact ⟨_, rfl⟩
        | 5, _, _ => exact ⟨_, rfl⟩
      obtain ⟨ty, hty⟩ := hty
      exact va_alen hx hb hK hw.1 _ k (am_cw_get hG) hty rfl hd (hm _ _ _ _ _ _ h ad H locs ls hrel hn0 hw hnd hL hcs)
    · exact h.elim
  · exact h.elim

theorem am_i_new {idx : Nat} (hC : am_Ctx p R s m args meth c dC dI dA d M) {P0 : am_P} (hm : ∀ pc L st G nc ns, P0 pc L st G nc ns → am_W p l e R s m args below meth c dC dI dA M A H0 ad0 n0 QW pc L st G nc ns) {C : am_C} {Q : Option Value → am_G → Prop} {X : am_P} {pc npc a b t u pos : Nat} {cv : Int32} {cl : Int64} {L : am_L} {st : List Value} {G : am_G} {nc ns : Nat} (hd : decode (am_mb M) pc = .ok (.new idx, am_len (.new idx) (npc - pc))) (hn : npc = pc + am_len (.new idx) (npc - pc)) (hok : am_okX MT M pc (.new idx) a b t u pos cv cl = true) (h : am_ins C M scr Q X P0 pc (.new idx) npc a b t u cv cl L st G nc ns) (hA : ∀ q, H0.size ≤ q → A q) (ht : t = 0) : am_W p l e R s m args below meth c dC dI dA M A H0 ad0 n0 QW pc L st G nc ns := by
  obtain ⟨hx, hb, hml, hown, hts, hini, hK, hKX, hRc, hRs, hRf, hRl⟩ := hC
  have hn : npc = pc + 3 := hn
  subst hn
  match t, ht with
  | 0, _ =>
    simp only [am_okX] at hok
    split at hok
    · rename_i Cn T N hcl
      simp only [Bool.and_eq_true, decide_eq_true_eq] at hok
      obtain ⟨⟨rfl, hcw⟩, hiw⟩ := hok
      simp only [am_ins] at h
      obtain ⟨hc1, hc2, hwf, h⟩ := h
      have hwf2 := hwf
      simp only [am_wf, am_wfc, Bool.and_eq_true, decide_eq_true_eq] at hwf2
      obtain ⟨⟨⟨hwL, hwS⟩, hwG⟩, hbig⟩ := hwf2
      obtain ⟨hin, ty, hty, hnm, hdf⟩ := am_cls_ok hcl
      intro ad H locs ls hrel hn0 hw hnd hL hcs
      refine va_new hx hb hts hin ty hty hown (hts _ (am_at_U hcw rfl)) (hts _ (am_at_U hiw rfl)) (hts _ (am_cls_ini hcl)) hK hw.1 hw.2.1 hw.2.2 hA hcl (fs := am_dfl a) hdf (by rw [hRc]; exact hc1) (by rw [hRs]; exact hc2) hd (fun q H1 h1 h2 h3 => ?_)
      have hxx : ∀ k : Nat, k < G.length ∨ 1000000 ≤ k → va_up ad G.length q k = ad k := fun k hk => by
        simp only [va_up]
        rw [if_neg (by omega)]
      have hk := hm _ _ _ _ _ _ h (va_up ad G.length q) H1 locs ls ⟨fun z => by omega, fun k hk => (hxx k (by omega)).trans (hrel.2 k hk)⟩ (by rw [List.length_append]; omega) (am_Wd_new hwG (by simp only [am_ce, am_dfl_cv]) h1 h2 h3 hbig) hnd (am_LH_ad hxx hwL hL) ⟨hc1, hc2⟩
      refine W.eq ?_ hk
      simp only [List.map_cons, am_cv, am_st_ad hxx hwS, va_up, if_true]
    · cases hok

theorem am_i_newarray {aty : ArrayType} (hC : am_Ctx p R s m args meth c dC dI dA d M) {P0 : am_P} (hm : ∀ pc L st G nc ns, P0 pc L st G nc ns → am_W p l e R s m args below meth c dC dI dA M A H0 ad0 n0 QW pc L st G nc ns) {C : am_C} {Q : Option Value → am_G → Prop} {X : am_P} {pc npc a b t u pos : Nat} {cv : Int32} {cl : Int64} {L : am_L} {st : List Value} {G : am_G} {nc ns : Nat} (hd : decode (am_mb M) pc = .ok (.newarray aty, am_len (.newarray aty) (npc - pc))) (hn : npc = pc + am_len (.newarray aty) (npc - pc)) (hok : am_okX MT M pc (.newarray aty) a b t u pos cv cl = true) (h : am_ins C M scr Q X P0 pc (.newarray aty) npc a b t u cv cl L st G nc ns) (hA : ∀ q, H0.size ≤ q → A q) : am_W p l e R s m args below meth c dC dI dA M A H0 ad0 n0 QW pc L st G nc ns := by
  obtain ⟨hx, hb, hml, hown, hts, hini, hK, hKX, hRc, hRs, hRf, hRl⟩ := hC
  have hn : npc = pc + 2 := hn
  subst hn
  simp only [am_okX, Bool.and_eq_true, decide_eq_true_eq] at hok
  obtain ⟨⟨ha, rfl⟩, hwd⟩ := hok
  simp only [am_ins] at h
  split at h
  · rename_i n st1
    obtain ⟨hneg, hsz, hc1, hc2, hwf, h⟩ := h
    have hwf2 := hwf
    simp only [am_wf, am_wfc, Bool.and_eq_true, decide_eq_true_eq] at hwf2
    obtain ⟨⟨⟨hwL, hwS⟩, hwG⟩, hbig⟩ := hwf2
    intro ad H locs ls hrel hn0 hw hnd hL hcs
    have key : ∀ (a0 : vp_A) (ty : FieldType), newarray.typeOf (am_aty a) = ty → (∀ cA : ClassId, vp_cell cA a0 = arrV cA n.toNatClampNeg (fun _ => defaultValue ty)) → n.toNatClampNeg * componentBytes ty ≤ 536870912 → (∀ ad1 : Nat → Nat, am_ce dA ad1 (am_newa a n.toNatClampNeg) = .inl (dA a, a0)) → W p l e R s m args below meth c H locs nc ns QW (F0 m pc ls ((Value.int n :: st1).map (am_cv ad))) := by
      intro a0 ty hty ha0 hbytes hce
      refine va_newa hx hb (hts _ (am_at_U hwd rfl)) hty hK hw.1 hw.2.1 hw.2.2 hA ha0 hneg rfl hbytes (by rw [hRc]; exact hc1) (by rw [hRs]; exact hc2) hd (fun q cA H1 hK1 h1 h2 h3 => ?_)
      have hcA := am_prim ha hty hK hK1
      subst hcA
      have hxx : ∀ k : Nat, k < G.length ∨ 1000000 ≤ k → va_up ad G.length q k = ad k := fun k hk => by
        simp only [va_up]
        rw [if_neg (by omega)]
      have hk := hm _ _ _ _ _ _ h (va_up ad G.length q) H1 locs ls ⟨fun z => by omega, fun k hk => (hxx k (by omega)).trans (hrel.2 k hk)⟩ (by rw [List.length_append]; omega) (am_Wd_new hwG (hce _) h1 h2 h3 hbig) hnd (am_LH_ad hxx hwL hL) ⟨hc1, hc2⟩
      refine W.eq ?_ hk
      simp only [List.map_cons, am_cv, am_st_ad hxx hwS, va_up, if_true]
    match a, ha with
    | 0, _ => exact key (n.toNatClampNeg, .inl (fun _ => 0)) .int rfl (fun _ => rfl) (by show n.toNatClampNeg * 4 ≤ _; omega) (fun _ => rfl)
    | 1, _ => exact key (n.toNatClampNeg, .inr (.inl (fun _ => 0))) .long rfl (fun _ => rfl) (by show n.toNatClampNeg * 8 ≤ _; omega) (fun _ => rfl)
    | 2, _ => exact key (n.toNatClampNeg, .inl (fun _ => 0)) .boolean rfl (fun _ => rfl) (by show n.toNatClampNeg * 1 ≤ _; omega) (fun _ => rfl)
  · exact h.elim

theorem am_i_anewarray {idx : Nat} (hC : am_Ctx p R s m args meth c dC dI dA d M) {P0 : am_P} (hm : ∀ pc L st G nc ns, P0 pc L st G nc ns → am_W p l e R s m args below meth c dC dI dA M A H0 ad0 n0 QW pc L st G nc ns) {C : am_C} {Q : Option Value → am_G → Prop} {X : am_P} {pc npc a b t u pos : Nat} {cv : Int32} {cl : Int64} {L : am_L} {st : List Value} {G : am_G} {nc ns : Nat} (hd : decode (am_mb M) pc = .ok (.anewarray idx, am_len (.anewarray idx) (npc - pc))) (hn : npc = pc + am_len (.anewarray idx) (npc - pc)) (hok : am_okX MT M pc (.anewarray idx) a b t u pos cv cl = true) (h : am_ins C M scr Q X P0 pc (.anewarray idx) npc a b t u cv cl L st G nc ns) (hA : ∀ q, H0.size ≤ q → A q) : am_W p l e R s m args below meth c dC dI dA M A H0 ad0 n0 QW pc L st G nc ns := by
  obtain ⟨hx, hb, hml, hown, hts, hini, hK, hKX, hRc, hRs, hRf, hRl⟩ := hC
  have hn : npc = pc + 3 := hn
  subst hn
  simp only [am_okX, Bool.and_eq_true, decide_eq_true_eq] at hok
  obtain ⟨⟨ha3, ha6⟩, hok⟩ := hok
  split at hok
  · rename_i Cn T N hcl
    simp only [am_ins] at h
    split at h
    · rename_i n st1
      obtain ⟨hneg, hsz, hc1, hc2, hwf, h⟩ := h
      have hwf2 := hwf
      simp only [am_wf, am_wfc, Bool.and_eq_true, decide_eq_true_eq] at hwf2
      obtain ⟨⟨⟨hwL, hwS⟩, hwG⟩, hbig⟩ := hwf2
      have hty : (am_ty dA)[a]? = some (dA a, .object Cn) ∧ va_AO Cn s := by
        match a, ha3, ha6 with
        | 3, _, _ => cases hcl; exact ⟨rfl, hKX.2.1⟩
        | 4, _, _ => cases hcl; exact ⟨rfl, hKX.2.2.1⟩
        | 5, _, _ => cases hcl; exact ⟨rfl, hKX.2.2.2⟩
      intro ad H locs ls hrel hn0 hw hnd hL hcs
      refine va_newq hx hb hown (hts _ (am_at_U hok rfl)) hty.2 hK hw.1 hw.2.1 hw.2.2 hA hneg rfl (by omega) (by rw [hRc]; exact hc1) (by rw [hRs]; exact hc2) hd (fun q cA H1 hK1 h1 h2 h3 => ?_)
      have hcA := am_obj hty.1 hK hK1
      subst hcA
      have hce : am_ce dA (va_up ad G.length q) (.inr (.inr (.inl (a, List.replicate n.toNatClampNeg none)))) = .inl (dA a, n.toNatClampNeg, .inr (.inr (.inr (.inr (fun _ => none))))) := by
        simp only [am_ce, List.length_replicate]
        congr 7
        funext j
        rw [List.getD_eq_getElem?_getD, List.getElem?_replicate]
        split <;> rfl
      have hxx : ∀ k : Nat, k < G.length ∨ 1000000 ≤ k → va_up ad G.length q k = ad k := fun k hk => by
        simp only [va_up]
        rw [if_neg (by omega)]
      have hk := hm _ _ _ _ _ _ h (va_up ad G.length q) H1 locs ls ⟨fun z => by omega, fun k hk => (hxx k (by omega)).trans (hrel.2 k hk)⟩ (by rw [List.length_append]; omega) (am_Wd_new hwG hce h1 h2 h3 hbig) hnd (am_LH_ad hxx hwL hL) ⟨hc1, hc2⟩
      refine W.eq ?_ hk
      simp only [List.map_cons, am_cv, am_st_ad hxx hwS, va_up, if_true]
    · exact h.elim
  · cases hok

theorem am_i_mmax {idx : Nat} (hC : am_Ctx p R s m args meth c dC dI dA d M) {P0 : am_P} (hm : ∀ pc L st G nc ns, P0 pc L st G nc ns → am_W p l e R s m args below meth c dC dI dA M A H0 ad0 n0 QW pc L st G nc ns) {C : am_C} {Q : Option Value → am_G → Prop} {X : am_P} {pc npc a b t u pos : Nat} {cv : Int32} {cl : Int64} {L : am_L} {st : List Value} {G : am_G} {nc ns : Nat} (hd : decode (am_mb M) pc = .ok (.invokestatic idx, am_len (.invokestatic idx) (npc - pc))) (hn : npc = pc + am_len (.invokestatic idx) (npc - pc)) (hok : am_okX MT M pc (.invokestatic idx) a b t u pos cv cl = true) (h : am_ins C M scr Q X P0 pc (.invokestatic idx) npc a b t u cv cl L st G nc ns) (ht : t = 6) : am_W p l e R s m args below meth c dC dI dA M A H0 ad0 n0 QW pc L st G nc ns := by
  obtain ⟨hx, hb, hml, hown, hts, hini, hK, hKX, hRc, hRs, hRf, hRl⟩ := hC
  have hn : npc = pc + 3 := hn
  subst hn
  subst ht
  simp only [am_okX] at hok
  simp only [am_ins] at h
  split at h
  · obtain ⟨hcat, h⟩ := h
    intro ad H locs ls hrel hn0 hw hnd hL hcs
    exact va_mmax hx hb (hml.trans hL.2.1.symm) hown (hts _ (am_at_U hok rfl)) (hts _ am_w_maxs) (hts _ am_w_mi) (hts _ am_w_maxc) (by omega) (by rw [am_catsum]; omega) (by rw [hRc]; exact hcs.1) (by rw [hRs]; exact hcs.2) hd (hm _ _ _ _ _ _ h ad H locs ls hrel hn0 hw hnd hL hcs)
  · exact h.elim

theorem am_i_mmin {idx : Nat} (hC : am_Ctx p R s m args meth c dC dI dA d M) {P0 : am_P} (hm : ∀ pc L st G nc ns, P0 pc L st G nc ns → am_W p l e R s m args below meth c dC dI dA M A H0 ad0 n0 QW pc L st G nc ns) {C : am_C} {Q : Option Value → am_G → Prop} {X : am_P} {pc npc a b t u pos : Nat} {cv : Int32} {cl : Int64} {L : am_L} {st : List Value} {G : am_G} {nc ns : Nat} (hd : decode (am_mb M) pc = .ok (.invokestatic idx, am_len (.invokestatic idx) (npc - pc))) (hn : npc = pc + am_len (.invokestatic idx) (npc - pc)) (hok : am_okX MT M pc (.invokestatic idx) a b t u pos cv cl = true) (h : am_ins C M scr Q X P0 pc (.invokestatic idx) npc a b t u cv cl L st G nc ns) (ht : t = 7) : am_W p l e R s m args below meth c dC dI dA M A H0 ad0 n0 QW pc L st G nc ns := by
  obtain ⟨hx, hb, hml, hown, hts, hini, hK, hKX, hRc, hRs, hRf, hRl⟩ := hC
  have hn : npc = pc + 3 := hn
  subst hn
  subst ht
  simp only [am_okX] at hok
  simp only [am_ins] at h
  split at h
  · obtain ⟨hcat, h⟩ := h
    intro ad H locs ls hrel hn0 hw hnd hL hcs
    exact va_mmin hx hb (hml.trans hL.2.1.symm) hown (hts _ (am_at_U hok rfl)) (hts _ am_w_mins) (hts _ am_w_mi) (hts _ am_w_minc) (by omega) (by rw [am_catsum]; omega) (by rw [hRc]; exact hcs.1) (by rw [hRs]; exact hcs.2) hd (hm _ _ _ _ _ _ h ad H locs ls hrel hn0 hw hnd hL hcs)
  · exact h.elim

theorem am_i_mabs {idx : Nat} (hC : am_Ctx p R s m args meth c dC dI dA d M) {P0 : am_P} (hm : ∀ pc L st G nc ns, P0 pc L st G nc ns → am_W p l e R s m args below meth c dC dI dA M A H0 ad0 n0 QW pc L st G nc ns) {C : am_C} {Q : Option Value → am_G → Prop} {X : am_P} {pc npc a b t u pos : Nat} {cv : Int32} {cl : Int64} {L : am_L} {st : List Value} {G : am_G} {nc ns : Nat} (hd : decode (am_mb M) pc = .ok (.invokestatic idx, am_len (.invokestatic idx) (npc - pc))) (hn : npc = pc + am_len (.invokestatic idx) (npc - pc)) (hok : am_okX MT M pc (.invokestatic idx) a b t u pos cv cl = true) (h : am_ins C M scr Q X P0 pc (.invokestatic idx) npc a b t u cv cl L st G nc ns) (ht : t = 8) : am_W p l e R s m args below meth c dC dI dA M A H0 ad0 n0 QW pc L st G nc ns := by
  obtain ⟨hx, hb, hml, hown, hts, hini, hK, hKX, hRc, hRs, hRf, hRl⟩ := hC
  have hn : npc = pc + 3 := hn
  subst hn
  subst ht
  simp only [am_okX] at hok
  simp only [am_ins] at h
  split at h
  · obtain ⟨hcat, h⟩ := h
    intro ad H locs ls hrel hn0 hw hnd hL hcs
    exact va_mabs hx hb (hml.trans hL.2.1.symm) hown (hts _ (am_at_U hok rfl)) (hts _ am_w_abss) (hts _ am_w_mi) (hts _ am_w_absc) (by omega) (by rw [am_catsum]; omega) (by rw [hRc]; exact hcs.1) (by rw [hRs]; exact hcs.2) hd (hm _ _ _ _ _ _ h ad H locs ls hrel hn0 hw hnd hL hcs)
  · exact h.elim

theorem am_i_mmaxl {idx : Nat} (hC : am_Ctx p R s m args meth c dC dI dA d M) {P0 : am_P} (hm : ∀ pc L st G nc ns, P0 pc L st G nc ns → am_W p l e R s m args below meth c dC dI dA M A H0 ad0 n0 QW pc L st G nc ns) {C : am_C} {Q : Option Value → am_G → Prop} {X : am_P} {pc npc a b t u pos : Nat} {cv : Int32} {cl : Int64} {L : am_L} {st : List Value} {G : am_G} {nc ns : Nat} (hd : decode (am_mb M) pc = .ok (.invokestatic idx, am_len (.invokestatic idx) (npc - pc))) (hn : npc = pc + am_len (.invokestatic idx) (npc - pc)) (hok : am_okX MT M pc (.invokestatic idx) a b t u pos cv cl = true) (h : am_ins C M scr Q X P0 pc (.invokestatic idx) npc a b t u cv cl L st G nc ns) (ht : t = 9) : am_W p l e R s m args below meth c dC dI dA M A H0 ad0 n0 QW pc L st G nc ns := by
  obtain ⟨hx, hb, hml, hown, hts, hini, hK, hKX, hRc, hRs, hRf, hRl⟩ := hC
  have hn : npc = pc + 3 := hn
  subst hn
  subst ht
  simp only [am_okX] at hok
  simp only [am_ins] at h
  split at h
  · obtain ⟨hcat, h⟩ := h
    intro ad H locs ls hrel hn0 hw hnd hL hcs
    exact va_mmax_long hx hb (hml.trans hL.2.1.symm) hown (hts _ (am_at_U hok rfl)) (hts _ am_w_maxls) (hts _ am_w_mi) (hts _ am_w_maxlc) (by omega) (by rw [am_catsum]; omega) (by rw [hRc]; exact hcs.1) (by rw [hRs]; exact hcs.2) hd (hm _ _ _ _ _ _ h ad H locs ls hrel hn0 hw hnd hL hcs)
  · exact h.elim

theorem am_i_mabsl {idx : Nat} (hC : am_Ctx p R s m args meth c dC dI dA d M) {P0 : am_P} (hm : ∀ pc L st G nc ns, P0 pc L st G nc ns → am_W p l e R s m args below meth c dC dI dA M A H0 ad0 n0 QW pc L st G nc ns) {C : am_C} {Q : Option Value → am_G → Prop} {X : am_P} {pc npc a b t u pos : Nat} {cv : Int32} {cl : Int64} {L : am_L} {st : List Value} {G : am_G} {nc ns : Nat} (hd : decode (am_mb M) pc = .ok (.invokestatic idx, am_len (.invokestatic idx) (npc - pc))) (hn : npc = pc + am_len (.invokestatic idx) (npc - pc)) (hok : am_okX MT M pc (.invokestatic idx) a b t u pos cv cl = true) (h : am_ins C M scr Q X P0 pc (.invokestatic idx) npc a b t u cv cl L st G nc ns) (ht : t = 10) : am_W p l e R s m args below meth c dC dI dA M A H0 ad0 n0 QW pc L st G nc ns := by
  obtain ⟨hx, hb, hml, hown, hts, hini, hK, hKX, hRc, hRs, hRf, hRl⟩ := hC
  have hn : npc = pc + 3 := hn
  subst hn
  subst ht
  simp only [am_okX] at hok
  simp only [am_ins] at h
  split at h
  · obtain ⟨hcat, h⟩ := h
    intro ad H locs ls hrel hn0 hw hnd hL hcs
    exact va_mabs_long hx hb (hml.trans hL.2.1.symm) hown (hts _ (am_at_U hok rfl)) (hts _ am_w_absls) (hts _ am_w_mi) (hts _ am_w_abslc) (by omega) (by rw [am_catsum]; omega) (by rw [hRc]; exact hcs.1) (by rw [hRs]; exact hcs.2) hd (hm _ _ _ _ _ _ h ad H locs ls hrel hn0 hw hnd hL hcs)
  · exact h.elim

theorem am_i_acopy {idx : Nat} (hC : am_Ctx p R s m args meth c dC dI dA d M) {P0 : am_P} (hm : ∀ pc L st G nc ns, P0 pc L st G nc ns → am_W p l e R s m args below meth c dC dI dA M A H0 ad0 n0 QW pc L st G nc ns) {C : am_C} {Q : Option Value → am_G → Prop} {X : am_P} {pc npc a b t u pos : Nat} {cv : Int32} {cl : Int64} {L : am_L} {st : List Value} {G : am_G} {nc ns : Nat} (hd : decode (am_mb M) pc = .ok (.invokestatic idx, am_len (.invokestatic idx) (npc - pc))) (hn : npc = pc + am_len (.invokestatic idx) (npc - pc)) (hok : am_okX MT M pc (.invokestatic idx) a b t u pos cv cl = true) (h : am_ins C M scr Q X P0 pc (.invokestatic idx) npc a b t u cv cl L st G nc ns) (ht : t = 11) : am_W p l e R s m args below meth c dC dI dA M A H0 ad0 n0 QW pc L st G nc ns := by
  obtain ⟨hx, hb, hml, hown, hts, hini, hK, hKX, hRc, hRs, hRf, hRl⟩ := hC
  have hn : npc = pc + 3 := hn
  subst hn
  subst ht
  simp only [am_okX] at hok
  simp only [am_ins] at h
  split at h
  · unfold am_cpy at h
    obtain ⟨hp1, hp2, hp3, hcat, h⟩ := h
    split at h
    · rename_i t0 n0' f t1 n1 g hG0 hG1
      obtain ⟨rfl, rfl, hb0, hb1, h⟩ := h
      intro ad H locs ls hrel hn0 hw hnd hL hcs
      exact va_copyi hx hb (hml.trans hL.2.1.symm) hown (hts _ (am_at_U hok rfl)) (hts _ am_w_an) (hts _ am_w_as) (hts _ am_w_ai) hK hw.1 hw.2.1 hw.2.2 _ _ 0 0 (am_cw_get hG0) (am_cw_get hG1) rfl rfl rfl hp1 hp2 hp3 hb0 hb1 (fun _ _ => rfl) (by omega) (by rw [am_catsum]; simp only [nativeFrameWords]; split <;> omega) hd (fun H1 locs1 h1 h2 h3 => hm _ _ _ _ _ _ h ad H1 locs1 ls hrel (by rw [List.length_set]; exact hn0) ⟨by rw [← am_cw_set]; exact h1, by rw [← am_cw_set]; exact h2, h3⟩ hnd hL hcs)
    · rename_i n0' f n1 g hG0 hG1
      obtain ⟨hb0, hb1, h⟩ := h
      intro ad H locs ls hrel hn0 hw hnd hL hcs
      exact va_copyl hx hb (hml.trans hL.2.1.symm) hown (hts _ (am_at_U hok rfl)) (hts _ am_w_an) (hts _ am_w_as) (hts _ am_w_ai) hK hw.1 hw.2.1 hw.2.2 _ _ 1 1 (am_cw_get hG0) (am_cw_get hG1) rfl rfl rfl hp1 hp2 hp3 hb0 hb1 (fun _ _ => rfl) (by omega) (by rw [am_catsum]; simp only [nativeFrameWords]; split <;> omega) hd (fun H1 locs1 h1 h2 h3 => hm _ _ _ _ _ _ h ad H1 locs1 ls hrel (by rw [List.length_set]; exact hn0) ⟨by rw [← am_cw_set]; exact h1, by rw [← am_cw_set]; exact h2, h3⟩ hnd hL hcs)
    · exact h.elim
  · exact h.elim

theorem am_i_oinit {idx : Nat} (hC : am_Ctx p R s m args meth c dC dI dA d M) {P0 : am_P} (hm : ∀ pc L st G nc ns, P0 pc L st G nc ns → am_W p l e R s m args below meth c dC dI dA M A H0 ad0 n0 QW pc L st G nc ns) {C : am_C} {Q : Option Value → am_G → Prop} {X : am_P} {pc npc a b t u pos : Nat} {cv : Int32} {cl : Int64} {L : am_L} {st : List Value} {G : am_G} {nc ns : Nat} (hd : decode (am_mb M) pc = .ok (.invokespecial idx, am_len (.invokespecial idx) (npc - pc))) (hn : npc = pc + am_len (.invokespecial idx) (npc - pc)) (hok : am_okX MT M pc (.invokespecial idx) a b t u pos cv cl = true) (h : am_ins C M scr Q X P0 pc (.invokespecial idx) npc a b t u cv cl L st G nc ns) (ht : t = 5) : am_W p l e R s m args below meth c dC dI dA M A H0 ad0 n0 QW pc L st G nc ns := by
  obtain ⟨hx, hb, hml, hown, hts, hini, hK, hKX, hRc, hRs, hRf, hRl⟩ := hC
  have hn : npc = pc + 3 := hn
  subst hn
  subst ht
  simp only [am_okX] at hok
  simp only [am_ins] at h
  split at h
  · obtain ⟨hcat, h⟩ := h
    intro ad H locs ls hrel hn0 hw hnd hL hcs
    refine W.objInit hx hb hown (hts _ (am_at_U hok rfl)) (hts _ am_w_oi) (hts _ am_w_oc) rfl (hL.2.1.trans hml.symm) rfl hd (by omega) ?_ ?_
    · rw [am_catsum]
      show 2 * 0 + _ + 12 ≤ _
      omega
    · exact hm _ _ _ _ _ _ h ad H locs ls hrel hn0 hw hnd hL hcs
  · exact h.elim

end AMS
end
section
/-! CALLS, and the whole: what comes to its end in the abstract machine does so in the machine. -/
theorem am_lnk_ok {MT : Nat → Option am_M} {own : String} {idx a b t u pos : Nat} (h : am_lnk MT own idx a b t u pos = true) : ∃ M2, MT a = some M2 ∧ b = am_mp M2 ∧ ((t = 0 ∧ am_kd M2 = 1 ∧ u = am_mk M2 ∧ Jvm.Cond.methodLink own idx (am_my M2) ∈ am_U ∧ am_mc M2 = 0 ∧ am_ms M2 = 0) ∨ (t = 1 ∧ am_kd M2 = 0 ∧ Jvm.Cond.methodLink own idx (am_my M2) ∈ am_U ∧ am_mc M2 = 0 ∧ am_ms M2 = 0) ∨ (t = 2 ∧ am_kd M2 = 0 ∧ Jvm.Cond.methodLinkNest own idx (am_my M2) RX10 ∈ am_nest ∧ am_mc M2 = 0 ∧ am_ms M2 = 0) ∨ (t = 3 ∧ am_kd M2 = 2 ∧ Jvm.Cond.methodLink own idx (am_my M2) ∈ am_U ∧ am_mc M2 = u / 1000000 ∧ am_ms M2 = u % 1000000) ∨ (t = 4 ∧ am_kd M2 = 2 ∧ Jvm.Cond.methodLinkNest own idx (am_my M2) RX10 ∈ am_nest ∧ am_mc M2 = u / 1000000 ∧ am_ms M2 = u % 1000000)) := by
  unfold am_lnk at h
  split at h
  · rename_i M2 hM
    rw [Bool.and_eq_true, decide_eq_true_eq] at h
    obtain ⟨hb, h⟩ := h
    refine ⟨M2, hM, hb, ?_⟩
    have hn : ∀ {w : Jvm.Cond}, am_at pos w = true → (match w with
      | .methodLinkNest _ _ _ _ => true
      | _ => false) = true → w ∈ am_nest := fun hw hg => List.mem_filter.mpr ⟨List.mem_of_getElem? (of_decide_eq_true hw), hg⟩
    split at h
    · simp only [Bool.and_eq_true, decide_eq_true_eq] at h
      exact Or.inl ⟨rfl, h.1.1.1.1, h.1.1.1.2, am_at_U h.1.1.2 rfl, h.1.2, h.2⟩
    · simp only [Bool.and_eq_true, decide_eq_true_eq] at h
      exact Or.inr (Or.inl ⟨rfl, h.1.1.1, am_at_U h.1.1.2 rfl, h.1.2, h.2⟩)
    · simp only [Bool.and_eq_true, decide_eq_true_eq] at h
      exact Or.inr (Or.inr (Or.inl ⟨rfl, h.1.1.1, hn h.1.1.2 rfl, h.1.2, h.2⟩))
    · simp only [Bool.and_eq_true, decide_eq_true_eq] at h
      exact Or.inr (Or.inr (Or.inr (Or.inl ⟨rfl, h.1.1.1, am_at_U h.1.1.2 rfl, h.1.2, h.2⟩)))
    · simp only [Bool.and_eq_true, decide_eq_true_eq] at h
      exact Or.inr (Or.inr (Or.inr (Or.inr ⟨rfl, h.1.1.1, hn h.1.1.2 rfl, h.1.2, h.2⟩)))
    · cases h
  · cases h
/-- what a callee's words are -/
theorem am_okM_ok {M : am_M} (h : am_okM M = true) : Jvm.Cond.code (am_my M) (am_mb M) (am_mL M) (am_mr M) ∈ am_U ∧ Jvm.Cond.initialized (am_my M).cls ∈ am_U ∧ plainName (am_my M).cls = true ∧ (am_my M).cls ≠ "java/lang/invoke/MethodHandle" ∧ (am_my M).cls ≠ "java/lang/invoke/VarHandle" ∧ am_mL M ≤ 40 ∧
    ((am_kd M = 0 ∧ Jvm.Cond.static (am_my M) ∈ am_U ∧ (parseMethodDescriptor (am_my M).desc).map (fun d => d.parameters.length) = some (am_mp M)) ∨
     (am_kd M = 1 ∧ Jvm.Cond.instanceMethod (am_my M) ∈ am_U ∧ Jvm.Cond.selects (am_my M).cls (am_my M) (am_my M) ∈ am_U ∧ (parseMethodDescriptor (am_my M).desc).map (fun d => d.parameters.length) = some (am_mp M - 1) ∧ 1 ≤ am_mp M ∧ (vwCl[am_mk M]?).map (fun q => q.1) = some (am_my M).cls) ∨
     (am_kd M = 2 ∧ Jvm.Cond.instanceMethod (am_my M) ∈ am_U ∧ (parseMethodDescriptor (am_my M).desc).map (fun d => d.parameters.length) = some (am_mp M - 1) ∧ 1 ≤ am_mp M ∧ (am_my M).name = "<init>" ∧ am_mr M = none)) := by
  unfold am_okM at h
  unfold am_kd
  split at h
  · rename_i p0 p1 p2 p3 k hw
    simp only [Bool.and_eq_true, decide_eq_true_eq] at h
    obtain ⟨⟨⟨⟨⟨⟨h1, h2⟩, h3⟩, h4⟩, h5⟩, h6⟩, h7⟩ := h
    refine ⟨am_at_U h1 rfl, am_at_U h2 rfl, h3, h4, h5, h6, ?_⟩
    split at h7
    · simp only [Bool.and_eq_true, decide_eq_true_eq] at h7
      exact Or.inl ⟨rfl, am_at_U h7.1.1 rfl, h7.1.2⟩
    · simp only [Bool.and_eq_true, decide_eq_true_eq] at h7
      exact Or.inr (Or.inl ⟨rfl, am_at_U h7.1.1.1.1 rfl, am_at_U h7.1.1.1.2 rfl, h7.1.1.2, h7.1.2, h7.2⟩)
    · simp only [Bool.and_eq_true, decide_eq_true_eq] at h7
      exact Or.inr (Or.inr ⟨rfl, am_at_U h7.1.1.1.1 rfl, h7.1.1.1.2, h7.1.1.2, h7.1.2, h7.2⟩)
    · cases h7
  · cases h
theorem am_take {st : List Value} {b : Nat} {v : Value} (hb : 1 ≤ b) (h : st[b - 1]? = some v) : (st.take b).reverse = v :: (st.take (b - 1)).reverse ∧ st = st.take (b - 1) ++ v :: st.drop b := by
  obtain ⟨k, rfl⟩ : ∃ k, b = k + 1 := ⟨b - 1, by omega⟩
  simp only [Nat.add_sub_cancel] at h ⊢
  have hk : k < st.length := (List.getElem?_eq_some_iff.mp h).1
  have hv : st[k] = v := (List.getElem?_eq_some_iff.mp h).2
  constructor
  · rw [List.take_succ_eq_append_getElem hk, List.reverse_append, hv]
    rfl
  · conv => lhs; rw [← List.take_append_drop k st]
    rw [List.drop_eq_getElem_cons hk, hv]
section AMS
variable {p : Program} {l : Launch} {e : Env} {R : Room} {s : State} {m : MethodId} {args : Array Value} {below : List Frame} {meth : Method} {c : Code} {dC : Nat → ClassId} {dI : Nat → Nat → Nat} {dA : Nat → ClassId} {d : Nat} {M : am_M} {A : Nat → Prop} {H0 : Heap} {ad0 : Nat → Nat} {n0 : Nat} {QW : State → Prop} {MT : Nat → Option am_M} {scr : Option (Nat × (Nat → Int32))}
theorem am_hR {d2 : Nat} {M2 : am_M} (hC : am_Ctx p R s m args meth c dC dI dA d M) (hd2 : d2 + 1 ≤ d) (hL : am_mL M2 ≤ 40) : (am_rm d2 M2).frames + 1 ≤ R.frames ∧ 8 + (am_mL M2 + 11) + (am_rm d2 M2).locals ≤ R.locals := by
  obtain ⟨-, -, -, -, -, -, -, -, -, -, h1, h2⟩ := hC
  simp only [am_rm]
  omega
theorem am_goodws (M2 : am_M) (h : am_okM M2 = true) : GoodIn am_U (am_ws M2) := by
  intro w hw
  rcases List.mem_cons.mp hw with rfl | hw
  · exact am_good (am_okM_ok h).1
  · exact am_good hw
/-- behind a call -/
theorem am_done {M2 : am_M} {post : Option Value → am_G → Prop} {ad : Nat → Nat} {G : am_G} {H : Heap} {locs : List Loc} {ls : Array Slot} {pc nc ns : Nat} {st0 rest : List Value} {a' : Array Value} (hA : ∀ q, H0.size ≤ q → A q)
    (hr : va_Run p l e R s m args below meth c H locs nc ns (am_mc M2) (am_ms M2) (F0 m pc ls st0) rest (am_Qc dC dI dA M2 post G ad H.size a') (va_A (am_cw dA ad G) H.size)) (hw : am_Wd dC dI dA A H0 ad G H locs)
    (kk : ∀ (r : Option Value) (G1 : am_G) (ad1 : Nat → Nat) (H1 : Heap) (locs1 : List Loc), post r G1 → (∀ f : Nat → Nat, r.map (am_cv f) = r) → am_Rel (am_mc M2) G.length ad ad1 → G.length ≤ G1.length → am_Wd dC dI dA A H0 ad1 G1 H1 locs1 → W p l e R s m args below meth c H1 locs1 (nc + am_mc M2) (ns + am_ms M2) QW (F0 m (pc + 3) ls (am_psh r rest))) :
    W p l e R s m args below meth c H locs nc ns QW (F0 m pc ls st0) := by
  have hF : ∀ q, va_A (am_cw dA ad G) H.size q → A q := fun q h => by
    rcases h with ⟨k, e2, h⟩ | h
    · exact hw.2.1.2 k (q, e2) h
    · exact hA q (Nat.le_trans hw.2.2.1 h)
  unfold am_Qc at hr
  cases hmr : am_mr M2 with
  | none =>
    rw [hmr] at hr
    exact va_callv hr hw.2.2 (fun q _ h => hF q h) hF (fun u t H1 locs1 ht _ hp hB _ _ hS1 => by
      obtain ⟨b1, b2, b3, b4⟩ := hB
      rw [ht] at b1
      exact kk none u.1 u.2 H1 locs1 hp (fun _ => rfl) b4 b3 ⟨b1, b2.weaken (fun k q _ h => hF q.1 h), hS1⟩)
  | some ty =>
   rw [hmr] at hr
   cases ty with
   | long =>
    exact va_calll hr hw.2.2 (fun q _ h => hF q h) hF (fun r u t H1 locs1 ht _ hp hB _ _ hS1 => by
      obtain ⟨b1, b2, b3, b4⟩ := hB
      rw [ht] at b1
      exact kk (some (.long r)) u.1 u.2 H1 locs1 hp (fun _ => rfl) b4 b3 ⟨b1, b2.weaken (fun k q _ h => hF q.1 h), hS1⟩)
   | _ =>
    exact va_calli hr hw.2.2 (fun q _ h => hF q h) hF (fun r u t H1 locs1 ht _ hp hB _ _ hS1 => by
      obtain ⟨b1, b2, b3, b4⟩ := hB
      rw [ht] at b1
      exact kk (some (.int r)) u.1 u.2 H1 locs1 hp (fun _ => rfl) b4 b3 ⟨b1, b2.weaken (fun k q _ h => hF q.1 h), hS1⟩)
theorem am_psh_cv {r : Option Value} {st : List Value} {ad : Nat → Nat} (h : ∀ f : Nat → Nat, r.map (am_cv f) = r) : (am_psh r st).map (am_cv ad) = am_psh r (st.map (am_cv ad)) := by
  cases r with
  | none => rfl
  | some v =>
    have := Option.some.inj (h ad)
    simp only [am_psh, List.map_cons, this]
/-- the calls' predicate is sound at launch l -/
def am_sC (l : Launch) (dC : Nat → ClassId) (dI : Nat → Nat → Nat) (dA : Nat → ClassId) (MT : Nat → Option am_M) (d : Nat) (C : am_C) : Prop := ∀ (mi : Nat) (As : List Value) (G : am_G) (post : Option Value → am_G → Prop), C mi As G post → ∃ (M2 : am_M) (d2 : Nat), MT mi = some M2 ∧ d2 + 1 ≤ d ∧ am_okM M2 = true ∧ am_Met l dC dI dA d2 M2 As G post
theorem am_preS {H : Heap} {ad : Nat → Nat} {G : am_G} {locs : List Loc} {As : List Value} (hC : am_Ctx p R s m args meth c dC dI dA d M) (hA : ∀ q, H0.size ≤ q → A q) (hSX : am_SX ad0 A s H0) (hrel : am_Rel (am_mc M) n0 ad0 ad) (hw : am_Wd dC dI dA A H0 ad G H locs) : ∀ U : State, U.heap = H → s.WarmedH U.vm → am_Pc dC dI dA As G ad H.size (As.map (am_cv ad)).toArray U := by
  obtain ⟨-, -, -, -, -, -, hK, hKX, -⟩ := hC
  intro U hU hW
  have hF : ∀ q, va_A (am_cw dA ad G) H.size q → A q := fun q h => by
    rcases h with ⟨k, e2, h⟩ | h
    · exact hw.2.1.2 k (q, e2) h
    · exact hA q (Nat.le_trans hw.2.2.1 h)
  have hs := am_SX_warm hW (am_SX_narrow (am_SX_kept (am_SX_ad hSX (fun k hk => hrel.2 k (Or.inr hk))) hw.2.2.2.1) hF)
  exact ⟨rfl, by rw [hU], by rw [hU]; exact hw.1, va_K.moved hW.alike hK, hw.2.1.weaken (fun _ _ _ _ => trivial), am_KX_warm hW hKX, by rw [hU]; exact hs⟩

theorem am_i_invV {idx : Nat} (hC : am_Ctx p R s m args meth c dC dI dA d M) {P0 : am_P} (hm : ∀ pc L st G nc ns, P0 pc L st G nc ns → am_W p l e R s m args below meth c dC dI dA M A H0 ad0 n0 QW pc L st G nc ns) {C : am_C} {Q : Option Value → am_G → Prop} {X : am_P} {pc npc a b t u pos : Nat} {cv : Int32} {cl : Int64} {L : am_L} {st : List Value} {G : am_G} {nc ns : Nat} (hd : decode (am_mb M) pc = .ok (.invokevirtual idx, am_len (.invokevirtual idx) (npc - pc))) (hn : npc = pc + am_len (.invokevirtual idx) (npc - pc)) (hok : am_okX MT M pc (.invokevirtual idx) a b t u pos cv cl = true) (h : am_ins C M scr Q X P0 pc (.invokevirtual idx) npc a b t u cv cl L st G nc ns) (hsC : am_sC l dC dI dA MT d C) (hA : ∀ q, H0.size ≤ q → A q) (hSX : am_SX ad0 A s H0) (ht : t = 0) : am_W p l e R s m args below meth c dC dI dA M A H0 ad0 n0 QW pc L st G nc ns := by
  obtain ⟨hx, hb, hml, hown, hts, hini, hK, hKX, hRc, hRs, hRf, hRl⟩ := hC
  have hn : npc = pc + 3 := hn
  subst hn
  have hCC : am_Ctx p R s m args meth c dC dI dA d M := ⟨hx, hb, hml, hown, hts, hini, hK, hKX, hRc, hRs, hRf, hRl⟩
  subst ht
  simp only [am_okX] at hok
  obtain ⟨M2, hMT, rfl, hor⟩ := am_lnk_ok hok
  replace hor := (hor.resolve_right (by rintro (x | x | x | x) <;> exact absurd x.1 (by decide))).2
  simp only [am_ins] at h
  obtain ⟨hkd, rfl, hlk, hmc, hms⟩ := hor
  obtain ⟨hrv, hlen0, hcat, post, hc, hk⟩ := h
  obtain ⟨M2', d2, hMT', hd2, hokM, hMet⟩ := hsC _ _ _ _ hc
  cases hMT.symm.trans hMT'
  obtain ⟨hcode, hinit, hpl, hmh, hvh, hmL, hks⟩ := am_okM_ok hokM
  rw [hkd] at hks
  replace hks := ((hks.resolve_left (fun x => absurd x.1 (by decide))).resolve_right (fun x => absurd x.1 (by decide))).2
  obtain ⟨hinst, hsel, hpar, hnp, hcl⟩ := hks
  unfold am_rcv at hrv
  split at hrv
  · rename_i o hst
    split at hrv
    · rename_i ci fs hG
      subst hrv
      obtain ⟨e1, e2⟩ := am_take hnp hst
      rw [e1] at hMet
      have hMT := hMet
      intro ad H locs ls hrel hn0 hw hnd hL hcs
      have hvc : ∃ q, vwCl[am_mk M2]? = some q ∧ q.1 = (am_my M2).cls := by
        cases hq : vwCl[am_mk M2]? with
        | none => rw [hq] at hcl; cases hcl
        | some q => rw [hq] at hcl; exact ⟨q, rfl, Option.some.inj hcl⟩
      obtain ⟨q, hq1, hq2⟩ := hvc
      have hrecv := va_recv hK hw.1 hq1 (am_cw_get (ad := ad) (dA := dA) hG)
      rw [hq2] at hrecv
      have hpre := am_preS (As := .ref o :: (st.take (am_mp M2 - 1)).reverse) hCC hA hSX hrel hw
      exact am_done hA (va_runV (As := ((st.take (am_mp M2 - 1)).reverse).map (am_cv ad)) (rest := (st.drop (am_mp M2)).map (am_cv ad)) (b := ad o) ⟨hx, hb, hml, hown, hts⟩ (hMet ad H.size) (cwV (am_mp M2 - 1) hts (fun w h3 => by
          rcases List.mem_append.mp h3 with h3 | h3
          · simp only [List.mem_cons, List.not_mem_nil, or_false] at h3
            rcases h3 with rfl | rfl | rfl | rfl
            · exact am_good hlk
            · exact am_good hinst
            · exact am_good hsel
            · exact am_good hinit
          · exact am_goodws M2 hokM w h3) rfl rfl rfl ⟨rfl, hmh, hvh, hpar⟩ (am_hR hCC hd2 hmL)) ⟨am_blind, hrecv, hpre⟩ rfl (by rw [List.length_map, List.length_reverse, List.length_take]; omega) hL.2.1 (by
            show st.map (am_cv ad) = _
            conv => lhs; rw [e2]
            simp [am_cv]) (lv_room (by rw [am_catsum]; exact hcat)) hd (by rw [hmc, hms, hRc, hRs]; exact hcs)) hw (fun r G1 ad1 H1 locs1 hp hr1 hrel1 hlen hw1 => by
        rw [hmc, hms]
        have had : ad1 = ad := hrel1.1 hmc
        subst had
        refine W.eq ?_ (hm _ _ _ _ _ _ (hk r G1 hp) ad1 H1 locs1 ls hrel (Nat.le_trans hn0 hlen) hw1 hnd hL hcs)
        rw [am_psh_cv hr1])
    · exact hrv.elim
  · exact hrv.elim

theorem am_i_invS {idx : Nat} (hC : am_Ctx p R s m args meth c dC dI dA d M) {P0 : am_P} (hm : ∀ pc L st G nc ns, P0 pc L st G nc ns → am_W p l e R s m args below meth c dC dI dA M A H0 ad0 n0 QW pc L st G nc ns) {C : am_C} {Q : Option Value → am_G → Prop} {X : am_P} {pc npc a b t u pos : Nat} {cv : Int32} {cl : Int64} {L : am_L} {st : List Value} {G : am_G} {nc ns : Nat} (hd : decode (am_mb M) pc = .ok (.invokestatic idx, am_len (.invokestatic idx) (npc - pc))) (hn : npc = pc + am_len (.invokestatic idx) (npc - pc)) (hok : am_okX MT M pc (.invokestatic idx) a b t u pos cv cl = true) (h : am_ins C M scr Q X P0 pc (.invokestatic idx) npc a b t u cv cl L st G nc ns) (hsC : am_sC l dC dI dA MT d C) (hA : ∀ q, H0.size ≤ q → A q) (hSX : am_SX ad0 A s H0) (ht : t = 1) : am_W p l e R s m args below meth c dC dI dA M A H0 ad0 n0 QW pc L st G nc ns := by
  obtain ⟨hx, hb, hml, hown, hts, hini, hK, hKX, hRc, hRs, hRf, hRl⟩ := hC
  have hn : npc = pc + 3 := hn
  subst hn
  have hCC : am_Ctx p R s m args meth c dC dI dA d M := ⟨hx, hb, hml, hown, hts, hini, hK, hKX, hRc, hRs, hRf, hRl⟩
  subst ht
  simp only [am_okX] at hok
  obtain ⟨M2, hMT, rfl, hor⟩ := am_lnk_ok hok
  replace hor := ((hor.resolve_left (fun x => absurd x.1 (by decide))).resolve_right (by rintro (x | x | x) <;> exact absurd x.1 (by decide))).2
  simp only [am_ins] at h
  obtain ⟨hkd, hlk, hmc, hms⟩ := hor
  obtain ⟨hlen0, hcat, post, hc, hk⟩ := h
  obtain ⟨M2', d2, hMT', hd2, hokM, hMet⟩ := hsC _ _ _ _ hc
  cases hMT.symm.trans hMT'
  obtain ⟨hcode, hinit, hpl, hmh, hvh, hmL, hks⟩ := am_okM_ok hokM
  rw [hkd] at hks
  replace hks := (hks.resolve_right (by rintro (x | x) <;> exact absurd x.1 (by decide))).2
  obtain ⟨hstat, hpar⟩ := hks
  intro ad H locs ls hrel hn0 hw hnd hL hcs
  have hpre := am_preS (As := (st.take (am_mp M2)).reverse) hCC hA hSX hrel hw
  have hstk : st.map (am_cv ad) = (((st.take (am_mp M2)).reverse).map (am_cv ad)).reverse ++ (st.drop (am_mp M2)).map (am_cv ad) := by
    rw [← List.map_reverse, List.reverse_reverse, ← List.map_append, List.take_append_drop]
  exact am_done hA (va_runS (As := ((st.take (am_mp M2)).reverse).map (am_cv ad)) (rest := (st.drop (am_mp M2)).map (am_cv ad)) ⟨hx, hb, hml, hown, hts⟩ (hMet ad H.size) (va_cwS (am_mp M2) hts (fun w h3 => by
      rcases List.mem_append.mp h3 with h3 | h3
      · simp only [List.mem_cons, List.not_mem_nil, or_false] at h3
        rcases h3 with rfl | rfl | rfl
        · exact am_good hlk
        · exact am_good hstat
        · exact am_good hinit
      · exact am_goodws M2 hokM w h3) rfl rfl rfl ⟨hmh, hvh, hpar⟩ (am_hR hCC hd2 hmL)) ⟨am_blind, hpre⟩ rfl (by rw [List.length_map, List.length_reverse, List.length_take]; omega) hL.2.1 hstk (lv_room (by rw [am_catsum]; exact hcat)) hd (by rw [hmc, hms, hRc, hRs]; exact hcs)) hw (fun r G1 ad1 H1 locs1 hp hr1 hrel1 hlen hw1 => by
    rw [hmc, hms]
    have had : ad1 = ad := hrel1.1 hmc
    subst had
    refine W.eq ?_ (hm _ _ _ _ _ _ (hk r G1 hp) ad1 H1 locs1 ls hrel (Nat.le_trans hn0 hlen) hw1 hnd hL hcs)
    rw [am_psh_cv hr1])

theorem am_i_invSN {idx : Nat} (hC : am_Ctx p R s m args meth c dC dI dA d M) {P0 : am_P} (hm : ∀ pc L st G nc ns, P0 pc L st G nc ns → am_W p l e R s m args below meth c dC dI dA M A H0 ad0 n0 QW pc L st G nc ns) {C : am_C} {Q : Option Value → am_G → Prop} {X : am_P} {pc npc a b t u pos : Nat} {cv : Int32} {cl : Int64} {L : am_L} {st : List Value} {G : am_G} {nc ns : Nat} (hd : decode (am_mb M) pc = .ok (.invokestatic idx, am_len (.invokestatic idx) (npc - pc))) (hn : npc = pc + am_len (.invokestatic idx) (npc - pc)) (hok : am_okX MT M pc (.invokestatic idx) a b t u pos cv cl = true) (h : am_ins C M scr Q X P0 pc (.invokestatic idx) npc a b t u cv cl L st G nc ns) (hsC : am_sC l dC dI dA MT d C) (hA : ∀ q, H0.size ≤ q → A q) (hSX : am_SX ad0 A s H0) (ht : t = 2) : am_W p l e R s m args below meth c dC dI dA M A H0 ad0 n0 QW pc L st G nc ns := by
  obtain ⟨hx, hb, hml, hown, hts, hini, hK, hKX, hRc, hRs, hRf, hRl⟩ := hC
  have hn : npc = pc + 3 := hn
  subst hn
  have hCC : am_Ctx p R s m args meth c dC dI dA d M := ⟨hx, hb, hml, hown, hts, hini, hK, hKX, hRc, hRs, hRf, hRl⟩
  subst ht
  simp only [am_okX] at hok
  obtain ⟨M2, hMT, rfl, hor⟩ := am_lnk_ok hok
  replace hor := (((hor.resolve_left (fun x => absurd x.1 (by decide))).resolve_left (fun x => absurd x.1 (by decide))).resolve_right (by rintro (x | x) <;> exact absurd x.1 (by decide))).2
  simp only [am_ins] at h
  obtain ⟨hkd, hlk, hmc, hms⟩ := hor
  obtain ⟨hlen0, hcat, post, hc, hk⟩ := h
  obtain ⟨M2', d2, hMT', hd2, hokM, hMet⟩ := hsC _ _ _ _ hc
  cases hMT.symm.trans hMT'
  obtain ⟨hcode, hinit, hpl, hmh, hvh, hmL, hks⟩ := am_okM_ok hokM
  rw [hkd] at hks
  replace hks := (hks.resolve_right (by rintro (x | x) <;> exact absurd x.1 (by decide))).2
  obtain ⟨hstat, hpar⟩ := hks
  intro ad H locs ls hrel hn0 hw hnd hL hcs
  have hpre := am_preS (As := (st.take (am_mp M2)).reverse) hCC hA hSX hrel hw
  have hstk : st.map (am_cv ad) = (((st.take (am_mp M2)).reverse).map (am_cv ad)).reverse ++ (st.drop (am_mp M2)).map (am_cv ad) := by
    rw [← List.map_reverse, List.reverse_reverse, ← List.map_append, List.take_append_drop]
  exact am_done hA (va_runSN (As := ((st.take (am_mp M2)).reverse).map (am_cv ad)) (rest := (st.drop (am_mp M2)).map (am_cv ad)) ⟨hx, hb, hml, hown, hts⟩ (hMet ad H.size) ⟨va_cnB (am_mp M2) hts (am_goodws M2 hokM) rfl rfl rfl (hKX.1 _ hlk) (hts _ hinit) ⟨hmh, hvh, hpar⟩ (am_hR hCC hd2 hmL), hts _ hstat, trivial⟩ ⟨am_blind, hpre⟩ rfl (by rw [List.length_map, List.length_reverse, List.length_take]; omega) hL.2.1 hstk (lv_room (by rw [am_catsum]; exact hcat)) hd (by rw [hmc, hms, hRc, hRs]; exact hcs)) hw (fun r G1 ad1 H1 locs1 hp hr1 hrel1 hlen hw1 => by
    rw [hmc, hms]
    have had : ad1 = ad := hrel1.1 hmc
    subst had
    refine W.eq ?_ (hm _ _ _ _ _ _ (hk r G1 hp) ad1 H1 locs1 ls hrel (Nat.le_trans hn0 hlen) hw1 hnd hL hcs)
    rw [am_psh_cv hr1])

theorem am_i_invI {idx : Nat} (hC : am_Ctx p R s m args meth c dC dI dA d M) {P0 : am_P} (hm : ∀ pc L st G nc ns, P0 pc L st G nc ns → am_W p l e R s m args below meth c dC dI dA M A H0 ad0 n0 QW pc L st G nc ns) {C : am_C} {Q : Option Value → am_G → Prop} {X : am_P} {pc npc a b t u pos : Nat} {cv : Int32} {cl : Int64} {L : am_L} {st : List Value} {G : am_G} {nc ns : Nat} (hd : decode (am_mb M) pc = .ok (.invokespecial idx, am_len (.invokespecial idx) (npc - pc))) (hn : npc = pc + am_len (.invokespecial idx) (npc - pc)) (hok : am_okX MT M pc (.invokespecial idx) a b t u pos cv cl = true) (h : am_ins C M scr Q X P0 pc (.invokespecial idx) npc a b t u cv cl L st G nc ns) (hsC : am_sC l dC dI dA MT d C) (hA : ∀ q, H0.size ≤ q → A q) (hSX : am_SX ad0 A s H0) (ht : t = 3) : am_W p l e R s m args below meth c dC dI dA M A H0 ad0 n0 QW pc L st G nc ns := by
  obtain ⟨hx, hb, hml, hown, hts, hini, hK, hKX, hRc, hRs, hRf, hRl⟩ := hC
  have hn : npc = pc + 3 := hn
  subst hn
  have hCC : am_Ctx p R s m args meth c dC dI dA d M := ⟨hx, hb, hml, hown, hts, hini, hK, hKX, hRc, hRs, hRf, hRl⟩
  subst ht
  simp only [am_okX] at hok
  obtain ⟨M2, hMT, rfl, hor⟩ := am_lnk_ok hok
  replace hor := ((((hor.resolve_left (fun x => absurd x.1 (by decide))).resolve_left (fun x => absurd x.1 (by decide))).resolve_left (fun x => absurd x.1 (by decide))).resolve_right (fun x => absurd x.1 (by decide))).2
  simp only [am_ins] at h
  obtain ⟨hkd, hlk, hmc, hms⟩ := hor
  obtain ⟨hrcv, hlen0, hcat, hwf, hc1, hc2, post, hc, hk⟩ := h
  simp only [am_wfc, Bool.and_eq_true] at hwf
  obtain ⟨hwL, hwS⟩ := hwf
  obtain ⟨M2', d2, hMT', hd2, hokM, hMet⟩ := hsC _ _ _ _ hc
  cases hMT.symm.trans hMT'
  obtain ⟨hcode, hinit, hpl, hmh, hvh, hmL, hks⟩ := am_okM_ok hokM
  rw [hkd] at hks
  replace hks := ((hks.resolve_left (fun x => absurd x.1 (by decide))).resolve_left (fun x => absurd x.1 (by decide))).2
  obtain ⟨hinst, hpar, hnp, hnm, hret⟩ := hks
  have hst : ∃ o, st[am_mp M2 - 1]? = some (.ref o) := by
    unfold am_rcR at hrcv
    split at hrcv
    · rename_i o ho
      exact ⟨o, ho⟩
    · exact hrcv.elim
  obtain ⟨o, hst⟩ := hst
  obtain ⟨e1, e2⟩ := am_take hnp hst
  rw [e1] at hMet
  intro ad H locs ls hrel hn0 hw hnd hL hcs
  have hpre := am_preS (As := .ref o :: (st.take (am_mp M2 - 1)).reverse) hCC hA hSX hrel hw
  have hstk : st.map (am_cv ad) = (((st.take (am_mp M2 - 1)).reverse).map (am_cv ad)).reverse ++ .ref (ad o) :: (st.drop (am_mp M2)).map (am_cv ad) := by
    conv => lhs; rw [e2]
    simp [am_cv]
  exact am_done hA (va_runI (As := ((st.take (am_mp M2 - 1)).reverse).map (am_cv ad)) (rest := (st.drop (am_mp M2)).map (am_cv ad)) (b := ad o) ⟨hx, hb, hml, hown, hts⟩ (hMet ad H.size) (cwI (am_mp M2 - 1) hts (am_goodws M2 hokM) (by rw [am_ws, hret]) rfl rfl (hts _ hinit) (hts _ hlk) (hts _ hinst) hnm ⟨hmh, hvh, hpar⟩ (am_hR hCC hd2 hmL)) ⟨am_blind, hpre⟩ rfl (by rw [List.length_map, List.length_reverse, List.length_take]; omega) hL.2.1 hstk (lv_room (by rw [am_catsum]; exact hcat)) hd (by rw [hmc, hms, hRc, hRs]; exact ⟨hc1, hc2⟩)) hw (fun r G1 ad1 H1 locs1 hp hr1 hrel1 hlen hw1 => by
      have hxx := hrel1.2
      have h6 := hk r G1 hp
      rw [hmc, hms]
      have hk2 := hm _ _ _ _ _ _ h6 ad1 H1 locs1 ls ⟨fun z => by
        have z1 := hrel.1 z
        have z2 := hrel1.1 (by omega)
        rw [z2, z1], fun k hk => (hxx k (by omega)).trans (hrel.2 k hk)⟩ (Nat.le_trans hn0 hlen) hw1 hnd (am_LH_ad hxx hwL hL) ⟨hc1, hc2⟩
      refine W.eq ?_ hk2
      rw [am_psh_cv hr1, am_st_ad hxx hwS])

theorem am_i_invIN {idx : Nat} (hC : am_Ctx p R s m args meth c dC dI dA d M) {P0 : am_P} (hm : ∀ pc L st G nc ns, P0 pc L st G nc ns → am_W p l e R s m args below meth c dC dI dA M A H0 ad0 n0 QW pc L st G nc ns) {C : am_C} {Q : Option Value → am_G → Prop} {X : am_P} {pc npc a b t u pos : Nat} {cv : Int32} {cl : Int64} {L : am_L} {st : List Value} {G : am_G} {nc ns : Nat} (hd : decode (am_mb M) pc = .ok (.invokespecial idx, am_len (.invokespecial idx) (npc - pc))) (hn : npc = pc + am_len (.invokespecial idx) (npc - pc)) (hok : am_okX MT M pc (.invokespecial idx) a b t u pos cv cl = true) (h : am_ins C M scr Q X P0 pc (.invokespecial idx) npc a b t u cv cl L st G nc ns) (hsC : am_sC l dC dI dA MT d C) (hA : ∀ q, H0.size ≤ q → A q) (hSX : am_SX ad0 A s H0) (ht : t = 4) : am_W p l e R s m args below meth c dC dI dA M A H0 ad0 n0 QW pc L st G nc ns := by
  obtain ⟨hx, hb, hml, hown, hts, hini, hK, hKX, hRc, hRs, hRf, hRl⟩ := hC
  have hn : npc = pc + 3 := hn
  subst hn
  have hCC : am_Ctx p R s m args meth c dC dI dA d M := ⟨hx, hb, hml, hown, hts, hini, hK, hKX, hRc, hRs, hRf, hRl⟩
  subst ht
  simp only [am_okX] at hok
  obtain ⟨M2, hMT, rfl, hor⟩ := am_lnk_ok hok
  replace hor := ((((hor.resolve_left (fun x => absurd x.1 (by decide))).resolve_left (fun x => absurd x.1 (by decide))).resolve_left (fun x => absurd x.1 (by decide))).resolve_left (fun x => absurd x.1 (by decide))).2
  simp only [am_ins] at h
  obtain ⟨hkd, hlk, hmc, hms⟩ := hor
  obtain ⟨hrcv, hlen0, hcat, hwf, hc1, hc2, post, hc, hk⟩ := h
  simp only [am_wfc, Bool.and_eq_true] at hwf
  obtain ⟨hwL, hwS⟩ := hwf
  obtain ⟨M2', d2, hMT', hd2, hokM, hMet⟩ := hsC _ _ _ _ hc
  cases hMT.symm.trans hMT'
  obtain ⟨hcode, hinit, hpl, hmh, hvh, hmL, hks⟩ := am_okM_ok hokM
  rw [hkd] at hks
  replace hks := ((hks.resolve_left (fun x => absurd x.1 (by decide))).resolve_left (fun x => absurd x.1 (by decide))).2
  obtain ⟨hinst, hpar, hnp, hnm, hret⟩ := hks
  have hst : ∃ o, st[am_mp M2 - 1]? = some (.ref o) := by
    unfold am_rcR at hrcv
    split at hrcv
    · rename_i o ho
      exact ⟨o, ho⟩
    · exact hrcv.elim
  obtain ⟨o, hst⟩ := hst
  obtain ⟨e1, e2⟩ := am_take hnp hst
  rw [e1] at hMet
  intro ad H locs ls hrel hn0 hw hnd hL hcs
  have hpre := am_preS (As := .ref o :: (st.take (am_mp M2 - 1)).reverse) hCC hA hSX hrel hw
  have hstk : st.map (am_cv ad) = (((st.take (am_mp M2 - 1)).reverse).map (am_cv ad)).reverse ++ .ref (ad o) :: (st.drop (am_mp M2)).map (am_cv ad) := by
    conv => lhs; rw [e2]
    simp [am_cv]
  exact am_done hA (va_runIN (As := ((st.take (am_mp M2 - 1)).reverse).map (am_cv ad)) (rest := (st.drop (am_mp M2)).map (am_cv ad)) (b := ad o) ⟨hx, hb, hml, hown, hts⟩ (hMet ad H.size) ⟨va_cnB (am_mp M2 - 1) hts (am_goodws M2 hokM) (by rw [am_ws, hret]) rfl rfl (hKX.1 _ hlk) (hts _ hinit) ⟨hmh, hvh, hpar⟩ (am_hR hCC hd2 hmL), hnm, hts _ hinst⟩ ⟨am_blind, hpre⟩ rfl (by rw [List.length_map, List.length_reverse, List.length_take]; omega) hL.2.1 hstk (lv_room (by rw [am_catsum]; exact hcat)) hd (by rw [hmc, hms, hRc, hRs]; exact ⟨hc1, hc2⟩)) hw (fun r G1 ad1 H1 locs1 hp hr1 hrel1 hlen hw1 => by
      have hxx := hrel1.2
      have h6 := hk r G1 hp
      rw [hmc, hms]
      have hk2 := hm _ _ _ _ _ _ h6 ad1 H1 locs1 ls ⟨fun z => by
        have z1 := hrel.1 z
        have z2 := hrel1.1 (by omega)
        rw [z2, z1], fun k hk => (hxx k (by omega)).trans (hrel.2 k hk)⟩ (Nat.le_trans hn0 hlen) hw1 hnd (am_LH_ad hxx hwL hL) ⟨hc1, hc2⟩
      refine W.eq ?_ hk2
      rw [am_psh_cv hr1, am_st_ad hxx hwS])

end AMS
end
section
/-! THE WHOLE: a method that comes to its end in the abstract machine meets its contract. -/
section AMS
variable {p : Program} {l : Launch} {e : Env} {R : Room} {s : State} {m : MethodId} {args : Array Value} {below : List Frame} {meth : Method} {c : Code} {dC : Nat → ClassId} {dI : Nat → Nat → Nat} {dA : Nat → ClassId} {d : Nat} {M : am_M} {A : Nat → Prop} {H0 : Heap} {ad0 : Nat → Nat} {n0 : Nat} {QW : State → Prop} {MT : Nat → Option am_M} {scr : Option (Nat × (Nat → Int32))}
theorem am_ldcS (hC : am_Ctx p R s m args meth c dC dI dA d M) (hSX : am_SX ad0 A s H0) {pc : Nat} {L : am_L} {st : List Value} {G : am_G} {nc ns : Nat} (n b : Nat) (hb1 : 1000000 ≤ b) (hk : am_sk (b - 1000000) = some ((am_my M).cls, n)) (hd : decode (am_mb M) pc = .ok (.ldc n, 2)) (ad : Nat → Nat) (H : Heap) (locs : List Loc) (ls : Array Slot) (hrel : am_Rel (am_mc M) n0 ad0 ad) (k : W p l e R s m args below meth c H locs nc ns QW (F0 m (pc + 2) ls ((.ref b :: st).map (am_cv ad)))) : W p l e R s m args below meth c H locs nc ns QW (F0 m pc ls (st.map (am_cv ad))) := by
  obtain ⟨hx, hb, hml, hown, hts, hini, hK, hKX, hRc, hRs, hRf, hRl⟩ := hC
  obtain ⟨tx, hz⟩ := hSX.2.2.1 _ _ _ hk
  have e1 : 1000000 + (b - 1000000) = b := by omega
  rw [e1, ← hrel.2 b (Or.inr hb1)] at hz
  exact va_ldcS hx hb hown hz hd k
theorem am_ldcWx {T : State} {locs : List Loc} {cells slots : Nat} (X : Stand p l e R s m args below meth c T locs cells slots) (hexec : p.tables.exec = Jvm.exec) {own text : String} {index : Nat} {a : Addr} (hown : s.vm.findClass own = some m.cls)
    (hconst : (Jvm.Cond.stringRef own index text).before #[] s = true) (hev : (Term.string own index).eval #[] s none [] s = some (.ref a)) {g : JFrame} (hg : g.method = m) (hdg : decode c.code g.pc = .ok (.ldc_w index, 3)) :
    ∀ target, Steps p.tables e below (T.setTop { g with pc := g.pc + 3, stack := .ref a :: g.stack }) target → Steps p.tables e below (T.setTop g) target := by
  obtain ⟨k, cf, i, a', hk, hcf, hcp, -, hr, hev'⟩ := Cond.stringRef_spec hown hconst
  cases hev.symm.trans hev'
  obtain ⟨k', hk', he⟩ := X.warmed.alike.2.2 _ _ hk
  have hr' : k'.resolved[index]? = some (some (.string a)) := by
    rcases X.warmed.entry hk hk' index with h | ⟨h, -⟩
    · rw [h]; exact hr
    · rw [hr] at h; cases h
  intro target hrest
  subst hg
  jvm_step X.here [hexec, hdg, ldc_w.wp_string (e := e) (s := T) (f := g) X.here.top hk' (by rw [he]; exact hcf) hcp hr']
  exact hrest
theorem va_ldcSw {H : Heap} {locs : List Loc} {cells slots : Nat} {Q : State → Prop} {cc : ByteArray} {pc : Nat} {ls : Array Slot} {rest : List Value} (hexec : p.tables.exec = Jvm.exec) (hb : c.code = cc) {own tx : String} {index q : Nat} (hown : s.vm.findClass own = some m.cls) (hZ : vk_R own index tx q s) (hdg : decode cc pc = .ok (.ldc_w index, 3))
    (k : W p l e R s m args below meth c H locs cells slots Q (F0 m (pc + 3) ls (.ref q :: rest))) : W p l e R s m args below meth c H locs cells slots Q (F0 m pc ls rest) := by
  intro T hT X
  obtain ⟨t, a1, b1⟩ := k T hT X
  exact ⟨t, am_ldcWx X hexec hown (text := tx) (a := q) hZ.1 hZ.2 (g := F0 m pc ls rest) rfl (by rw [hb]; exact hdg) t a1, b1⟩
theorem am_ldcSW (hC : am_Ctx p R s m args meth c dC dI dA d M) (hSX : am_SX ad0 A s H0) {pc : Nat} {L : am_L} {st : List Value} {G : am_G} {nc ns : Nat} (n b : Nat) (hb1 : 1000000 ≤ b) (hk : am_sk (b - 1000000) = some ((am_my M).cls, n)) (hd : decode (am_mb M) pc = .ok (.ldc_w n, 3)) (ad : Nat → Nat) (H : Heap) (locs : List Loc) (ls : Array Slot) (hrel : am_Rel (am_mc M) n0 ad0 ad) (k : W p l e R s m args below meth c H locs nc ns QW (F0 m (pc + 3) ls ((.ref b :: st).map (am_cv ad)))) : W p l e R s m args below meth c H locs nc ns QW (F0 m pc ls (st.map (am_cv ad))) := by
  obtain ⟨hx, hb, hml, hown, hts, hini, hK, hKX, hRc, hRs, hRf, hRl⟩ := hC
  obtain ⟨tx, hz⟩ := hSX.2.2.1 _ _ _ hk
  have e1 : 1000000 + (b - 1000000) = b := by omega
  rw [e1, ← hrel.2 b (Or.inr hb1)] at hz
  exact va_ldcSw hx hb hown hz hd k
/-- texts: to be proved -/
def am_TX (l : Launch) (dC : Nat → ClassId) (dI : Nat → Nat → Nat) (dA : Nat → ClassId) (MT : Nat → Option am_M) : Prop := ∀ {p : Program} {e : Env} {R : Room} {s : State} {m : MethodId} {args : Array Value} {below : List Frame} {meth : Method} {c : Code} {d : Nat} {M : am_M} {A : Nat → Prop} {ad0 : Nat → Nat} {n0 : Nat} {QW : State → Prop} {C : am_C} {Q : Option Value → am_G → Prop} {X : am_P} {P0 : am_P} {pc npc a b t u pos : Nat} {cv : Int32} {cl : Int64} {L : am_L} {st : List Value} {G : am_G} {nc ns idx : Nat}, am_Ctx p R s m args meth c dC dI dA d M → (∀ pc L st G nc ns, P0 pc L st G nc ns → am_W p l e R s m args below meth c dC dI dA M A s.heap ad0 n0 QW pc L st G nc ns) → (∀ q, s.heap.size ≤ q → A q) → am_SX ad0 A s s.heap → decode (am_mb M) pc = .ok (.invokevirtual idx, 3) → npc = pc + 3 → am_okX MT M pc (.invokevirtual idx) a b t u pos cv cl = true → (t = 13 ∨ t = 14 ∨ t = 16) → am_ins C M none Q X P0 pc (.invokevirtual idx) npc a b t u cv cl L st G nc ns → am_W p l e R s m args below meth c dC dI dA M A s.heap ad0 n0 QW pc L st G nc ns
theorem am_stepS (hC : am_Ctx p R s m args meth c dC dI dA d M) {P0 : am_P} (hm : ∀ pc L st G nc ns, P0 pc L st G nc ns → am_W p l e R s m args below meth c dC dI dA M A s.heap ad0 n0 QW pc L st G nc ns) {C : am_C} {Q : Option Value → am_G → Prop} {X : am_P} (hT : am_okT MT M = true) (hTX : am_TX l dC dI dA MT) (hsC : am_sC l dC dI dA MT d C) (hA : ∀ q, s.heap.size ≤ q → A q) (hSX : am_SX ad0 A s s.heap)
    (hX : ∀ pc L st G nc ns idx, X pc L st G nc ns → (decode (am_mb M) pc = .ok (.new idx, 3) ∨ decode (am_mb M) pc = .ok (.invokestatic idx, 3)) → am_W p l e R s m args below meth c dC dI dA M A s.heap ad0 n0 QW pc L st G nc ns)
    (hri : ∀ pc L x G nc ns, Q (some (.int x)) G → (am_mr M = some .int ∨ (am_mr M = some .boolean ∧ (x = 0 ∨ x = 1))) → decode (am_mb M) pc = .ok (.ireturn, 1) → am_W p l e R s m args below meth c dC dI dA M A s.heap ad0 n0 QW pc L [.int x] G nc ns)
    (hrl : ∀ pc L x G nc ns, Q (some (.long x)) G → am_mr M = some .long → decode (am_mb M) pc = .ok (.lreturn, 1) → am_W p l e R s m args below meth c dC dI dA M A s.heap ad0 n0 QW pc L [.long x] G nc ns)
    (hrv : ∀ pc L G nc ns, Q none G → am_mr M = none → decode (am_mb M) pc = .ok (.return_, 1) → am_W p l e R s m args below meth c dC dI dA M A s.heap ad0 n0 QW pc L [] G nc ns)
    {pc : Nat} {L : am_L} {st : List Value} {G : am_G} {nc ns : Nat} (h : am_step C M none Q X P0 pc L st G nc ns) : am_W p l e R s m args below meth c dC dI dA M A s.heap ad0 n0 QW pc L st G nc ns := by
  unfold am_step at h
  split at h
  · exact h.elim
  · rename_i pc' i npc a b t u pos cv cl he
    obtain ⟨hok, hpc⟩ := am_lk_ok hT he
    simp only [am_okI, Bool.and_eq_true, decide_eq_true_eq] at hok
    obtain ⟨⟨hd, hn⟩, hok⟩ := hok
    have hpc : pc' = pc := hpc
    subst hpc
    cases i with
    | iconst n => exact am_i_iconst hC hm hd hn hok h
    | bipush n => exact am_i_bipush hC hm hd hn hok h
    | sipush n => exact am_i_sipush hC hm hd hn hok h
    | ldc2_w n => exact am_i_ldc2 hC hm hd hn hok h
    | lconst n => exact am_i_lconst hC hm hd hn hok h
    | iload_n k => exact am_i_iload_n hC hm hd hn hok h
    | iload k => exact am_i_iload hC hm hd hn hok h
    | lload_n k => exact am_i_lload_n hC hm hd hn hok h
    | lload k => exact am_i_lload hC hm hd hn hok h
    | aload_n k => exact am_i_aload_n hC hm hd hn hok h
    | aload k => exact am_i_aload hC hm hd hn hok h
    | istore_n k => exact am_i_istore_n hC hm hd hn hok h
    | istore k => exact am_i_istore hC hm hd hn hok h
    | astore_n k => exact am_i_astore_n hC hm hd hn hok h
    | astore k => exact am_i_astore hC hm hd hn hok h
    | lstore_n k => exact am_i_lstore_n hC hm hd hn hok h
    | lstore k => exact am_i_lstore hC hm hd hn hok h
    | iinc k n => exact am_i_iinc hC hm hd hn hok h
    | iadd => exact am_i_iadd hC hm hd hn hok h
    | isub => exact am_i_isub hC hm hd hn hok h
    | imul => exact am_i_imul hC hm hd hn hok h
    | iand => exact am_i_iand hC hm hd hn hok h
    | ior => exact am_i_ior hC hm hd hn hok h
    | ixor => exact am_i_ixor hC hm hd hn hok h
    | ishl => exact am_i_ishl hC hm hd hn hok h
    | ishr => exact am_i_ishr hC hm hd hn hok h
    | iushr => exact am_i_iushr hC hm hd hn hok h
    | idiv => exact am_i_idiv hC hm hd hn hok h
    | irem => exact am_i_irem hC hm hd hn hok h
    | ladd => exact am_i_ladd hC hm hd hn hok h
    | lsub => exact am_i_lsub hC hm hd hn hok h
    | lmul => exact am_i_lmul hC hm hd hn hok h
    | lcmp => exact am_i_lcmp hC hm hd hn hok h
    | ldiv => exact am_i_ldiv hC hm hd hn hok h
    | lrem => exact am_i_lrem hC hm hd hn hok h
    | ineg => exact am_i_ineg hC hm hd hn hok h
    | i2l => exact am_i_i2l hC hm hd hn hok h
    | i2b => exact am_i_i2b hC hm hd hn hok h
    | i2s => exact am_i_i2s hC hm hd hn hok h
    | i2c => exact am_i_i2c hC hm hd hn hok h
    | lneg => exact am_i_lneg hC hm hd hn hok h
    | dup => exact am_i_dup hC hm hd hn hok h
    | dup2 => exact am_i_dup2 hC hm hd hn hok h
    | pop => exact am_i_pop hC hm hd hn hok h
    | ifCond o off => exact am_i_ifCond hC hm hd hn hok h
    | if_icmp o off => exact am_i_if_icmp hC hm hd hn hok h
    | ifnull off => exact am_i_ifnull hC hm hd hn hok h
    | ifnonnull off => exact am_i_ifnonnull hC hm hd hn hok h
    | goto off => exact am_i_goto hC hm hd hn hok h
    | tableswitch a b2 c2 d2 => exact am_i_tableswitch hC hm hd hn hok h
    | lookupswitch a2 b2 => exact am_i_lookupswitch hC hm hd hn hok h
    | getfield n => exact am_i_getfield hC hm hd hn hok h
    | putfield n => exact am_i_putfield hC hm hd hn hok h
    | iaload => exact am_i_iaload hC hm hd hn hok h
    | iastore => exact am_i_iastore hC hm hd hn hok h
    | baload => exact am_i_baload hC hm hd hn hok h
    | bastore => exact am_i_bastore hC hm hd hn hok h
    | laload => exact am_i_laload hC hm hd hn hok h
    | lastore => exact am_i_lastore hC hm hd hn hok h
    | aaload => exact am_i_aaload hC hm hd hn hok h
    | aastore => exact am_i_aastore hC hm hd hn hok h
    | arraylength => exact am_i_arraylength hC hm hd hn hok h
    | ldc n => exact am_i_ldc hC hm hd hn hok h (fun n b h1 h2 h3 ad H locs ls hrel _ _ _ _ _ k => am_ldcS (L := L) (G := G) hC hSX n b h1 h2 h3 ad H locs ls hrel k)
    | ldc_w n => exact am_i_ldc_w hC hm hd hn hok h (fun n b h1 h2 h3 ad H locs ls hrel _ _ _ _ _ k => am_ldcSW (L := L) (G := G) hC hSX n b h1 h2 h3 ad H locs ls hrel k)
    | newarray ty => exact am_i_newarray hC hm hd hn hok h hA
    | anewarray n => exact am_i_anewarray hC hm hd hn hok h hA
    | new n =>
      cases t with
      | zero => exact am_i_new hC hm hd hn hok h hA rfl
      | succ t => exact hX _ _ _ _ _ _ n h (Or.inl hd)
    | ireturn =>
      simp only [am_ins] at h
      split at h
      · split at h
        · rename_i hmr
          exact hri _ _ _ _ _ _ h (Or.inl hmr) hd
        · rename_i hmr
          exact hri _ _ _ _ _ _ h.2 (Or.inr ⟨hmr, h.1⟩) hd
        · exact h.elim
      · exact h.elim
    | lreturn =>
      simp only [am_okX, decide_eq_true_eq] at hok
      simp only [am_ins] at h
      split at h
      · exact hrl _ _ _ _ _ _ h hok hd
      · exact h.elim
    | return_ =>
      simp only [am_okX, decide_eq_true_eq] at hok
      simp only [am_ins] at h
      split at h
      · exact hrv _ _ _ _ _ h hok hd
      · exact h.elim
    | invokestatic n =>
      match t, hok, h with
      | 1, hok, h => exact am_i_invS hC hm hd hn hok h hsC hA hSX rfl
      | 2, hok, h => exact am_i_invSN hC hm hd hn hok h hsC hA hSX rfl
      | 6, hok, h => exact am_i_mmax hC hm hd hn hok h rfl
      | 7, hok, h => exact am_i_mmin hC hm hd hn hok h rfl
      | 8, hok, h => exact am_i_mabs hC hm hd hn hok h rfl
      | 9, hok, h => exact am_i_mmaxl hC hm hd hn hok h rfl
      | 10, hok, h => exact am_i_mabsl hC hm hd hn hok h rfl
      | 11, hok, h => exact am_i_acopy hC hm hd hn hok h rfl
      | 0, hok, h => exact False.elim h
      | 3, hok, h => exact False.elim h
      | 4, hok, h => exact False.elim h
      | 5, hok, h => exact False.elim h
      | 77, hok, h => exact hX _ _ _ _ _ _ n h (Or.inr hd)
      | t + 12, hok, h =>
        by_cases e : t + 12 = 77
        · rw [e] at h
          exact hX _ _ _ _ _ _ n h (Or.inr hd)
        · simp only [am_ins] at h
    | invokespecial n =>
      match t, hok, h with
      | 3, hok, h => exact am_i_invI hC hm hd hn hok h hsC hA hSX rfl
      | 4, hok, h => exact am_i_invIN hC hm hd hn hok h hsC hA hSX rfl
      | 5, hok, h => exact am_i_oinit hC hm hd hn hok h rfl
      | 0, hok, h => exact False.elim h
      | 1, hok, h => exact False.elim h
      | 2, hok, h => exact False.elim h
      | t + 6, hok, h => exact False.elim h
    | invokevirtual n =>
      match t, hok, h with
      | 0, hok, h => exact am_i_invV hC hm hd hn hok h hsC hA hSX rfl
      | 13, hok, h => exact hTX hC hm hA hSX hd hn hok (Or.inl rfl) h
      | 14, hok, h => exact hTX hC hm hA hSX hd hn hok (Or.inr (Or.inl rfl)) h
      | 16, hok, h => exact hTX hC hm hA hSX hd hn hok (Or.inr (Or.inr rfl)) h
      | 1, hok, h => exact False.elim h
      | 2, hok, h => exact False.elim h
      | 3, hok, h => exact False.elim h
      | 4, hok, h => exact False.elim h
      | 5, hok, h => exact False.elim h
      | 6, hok, h => exact False.elim h
      | 7, hok, h => exact False.elim h
      | 8, hok, h => exact False.elim h
      | 9, hok, h => exact False.elim h
      | 10, hok, h => exact False.elim h
      | 11, hok, h => exact False.elim h
      | 12, hok, h => exact False.elim h
      | 15, hok, h => exact False.elim h
      | t + 17, hok, h => exact False.elim h
    | _ => exact False.elim h
end AMS
/-- the locals at a method's entry -/
def am_ent : List Value → am_L
  | [] => []
  | v :: t => if v.category = 2 then some v :: none :: am_ent t else some v :: am_ent t
def am_entL (nL : Nat) (vs : List Value) : am_L := am_ent vs ++ List.replicate (nL - (am_ent vs).length) none
/-- calls to a depth d: the callee comes to its end -/
def am_Call (MT : Nat → Option am_M) : Nat → am_C
  | 0 => fun _ _ _ _ => False
  | d + 1 => fun mi As G post => ∃ M, MT mi = some M ∧ (am_ent As).length ≤ am_mL M ∧ (∀ v ∈ As, v.category = 2 → ∃ x, v = .long x) ∧ am_Ex (am_Call MT d) M none post (fun _ _ _ _ _ _ => False) 0 (am_entL (am_mL M) As) [] G 0 0
theorem am_ent_len (ad : Nat → Nat) : ∀ As : List Value, (am_ent As).length = (lg_sl (As.map (am_cv ad))).length
  | [] => rfl
  | v :: t => by
    have ih := am_ent_len ad t
    simp only [lg_sl, List.map_cons, List.flatMap_cons, List.length_append, am_ent, am_cat] at ih ⊢
    by_cases h : v.category = 2
    · simp only [h, if_true, List.length_cons, List.length_nil]
      omega
    · simp only [h, if_false, List.length_cons, List.length_nil]
      omega
theorem am_ent_args (ad : Nat → Nat) : ∀ (As : List Value) (i k : Nat) (v : Value), (am_ent As)[k]? = some (some v) → (i + k, am_cv ad v) ∈ lv_args i (As.map (am_cv ad))
  | [], _, _, _, h => by simp [am_ent] at h
  | w :: t, i, k, v, h => by
    simp only [List.map_cons, lv_args, am_cat]
    by_cases hc : w.category = 2
    · simp only [am_ent, hc, if_true] at h ⊢
      match k, h with
      | 0, h =>
        simp at h
        subst h
        exact List.mem_cons.mpr (Or.inl rfl)
      | 1, h => simp at h
      | k + 2, h =>
        have h2 : (am_ent t)[k]? = some (some v) := by simpa using h
        have ih := am_ent_args ad t (i + 2) k v h2
        rw [show i + (k + 2) = i + 2 + k by omega]
        exact List.mem_cons_of_mem _ ih
    · simp only [am_ent, hc, if_false] at h ⊢
      match k, h with
      | 0, h =>
        simp at h
        subst h
        exact List.mem_cons.mpr (Or.inl rfl)
      | k + 1, h =>
        have h2 : (am_ent t)[k]? = some (some v) := by simpa using h
        have ih := am_ent_args ad t (i + 1) k v h2
        rw [show i + (k + 1) = i + 1 + k by omega]
        exact List.mem_cons_of_mem _ ih
theorem am_entL_get {nL : Nat} {As : List Value} {k : Nat} {v : Value} (h : (am_entL nL As)[k]? = some (some v)) : (am_ent As)[k]? = some (some v) := by
  unfold am_entL at h
  by_cases hk : k < (am_ent As).length
  · rwa [List.getElem?_append_left hk] at h
  · rw [List.getElem?_append_right (by omega), List.getElem?_replicate] at h
    split at h <;> cases h
theorem am_ent_mem : ∀ (As : List Value) (k : Nat) (v : Value), (am_ent As)[k]? = some (some v) → v ∈ As
  | [], _, _, h => by simp [am_ent] at h
  | w :: t, k, v, h => by
    by_cases hc : w.category = 2
    · simp only [am_ent, hc, if_true] at h
      match k, h with
      | 0, h => simp at h; subst h; exact List.mem_cons_self
      | 1, h => simp at h
      | k + 2, h => exact List.mem_cons_of_mem _ (am_ent_mem t k v (by simpa using h))
    · simp only [am_ent, hc, if_false] at h
      match k, h with
      | 0, h => simp at h; subst h; exact List.mem_cons_self
      | k + 1, h => exact List.mem_cons_of_mem _ (am_ent_mem t k v (by simpa using h))
theorem am_entry {As : List Value} {nL : Nat} (ad : Nat → Nat) (h : (am_ent As).length ≤ nL) : am_LH ((lg_sl (As.map (am_cv ad)) ++ List.replicate (nL - (lg_sl (As.map (am_cv ad))).length) Slot.unset).toArray) nL (am_entL nL As) ad := by
  refine ⟨by simp only [am_entL, List.length_append, List.length_replicate]; omega, am_LH_sub (lv_entry (As.map (am_cv ad)) (by rw [← am_ent_len]; exact h)) fun q hq => ?_⟩
  obtain ⟨v, h1, h2⟩ := am_lv_mem.mp hq
  have h3 := am_ent_args ad As 0 q.1 v (am_entL_get h1)
  rw [Nat.zero_add, ← h2] at h3
  exact h3
theorem am_soundS {l : Launch} {dC : Nat → ClassId} {dI : Nat → Nat → Nat} {dA : Nat → ClassId} {MT : Nat → Option am_M} (hMT : ∀ mi M, MT mi = some M → am_okM M = true ∧ am_okT MT M = true) (hTX : am_TX l dC dI dA MT) (d : Nat) (hsC : am_sC l dC dI dA MT d (am_Call MT d)) (mi : Nat) (As : List Value) (G : am_G) (post : Option Value → am_G → Prop) (h : am_Call MT (d + 1) mi As G post) : ∃ M, MT mi = some M ∧ am_okM M = true ∧ am_Met l dC dI dA d M As G post := by
  obtain ⟨M, hM, hlen, hlong, hE⟩ := h
  obtain ⟨hok, hT⟩ := hMT mi M hM
  refine ⟨M, hM, hok, fun ad sz => ?_⟩
  obtain ⟨hcode, hinit, hpl, hmh, hvh, hmL, hks⟩ := am_okM_ok hok
  refine Met.ofW (cc := am_mb M) (maxL := am_mL M) (ret := am_mr M) hpl rfl ?_
  intro p e s m args below meth c s₁ B hml hv
  obtain ⟨rfl, hsz, hP, hK, hD0, hKX, hSX⟩ := hv
  have hx := B.exec
  have hb := B.bytes
  have hr := B.returns
  have hts0 := atoms_spec (ws := am_ws M) B.pre
  have hts : ∀ w ∈ am_U, w.before ((As.map (am_cv ad)).toArray) s = true := fun w hw => hts0 w (List.mem_cons_of_mem _ hw)
  have hown : s.vm.findClass (am_my M).cls = some m.cls := findClass_of_methodNamed B.named
  have hlocks := B.notSynchronized
  have hin : (am_my M).name = "<init>" → meth.name = "<init>" := fun z => (name_of_methodNamed B.named B.method).1.trans z
  subst hsz
  have hD := hD0.self (sz := s.heap.size)
  have hA : ∀ q : Nat, s.heap.size ≤ q → va_A (am_cw dA ad G) s.heap.size q := fun q h => Or.inr h
  have hC : am_Ctx p (am_rm d M) s m ((As.map (am_cv ad)).toArray) meth c dC dI dA d M := ⟨hx, hb, hml, hown, hts, hin, hK, hKX, rfl, rfl, Nat.le_refl _, Nat.le_refl _⟩
  have key := hE (am_W p l e (am_rm d M) s m ((As.map (am_cv ad)).toArray) below meth c dC dI dA M (va_A (am_cw dA ad G) s.heap.size) s.heap ad G.length (MQ below (am_Qc dC dI dA M post G ad s.heap.size) ((As.map (am_cv ad)).toArray) s (am_mc M) (am_ms M) (va_A (am_cw dA ad G) s.heap.size)))
    (fun P0 hle pc L st G1 nc ns hstep => am_stepS hC hle hT hTX hsC hA hSX (fun _ _ _ _ _ _ _ z => z.elim)
      (fun pc L x G2 nc ns hq hmr hd => by
        intro ad1 H locs ls hrel hn0 hw hnd hL hcs
        refine W.widen hcs.1 hcs.2 ?_
        rcases hmr with hmr | ⟨hmr, hx01⟩
        · refine W.iret hx hb (hr.trans hmr) (fun t ht _ => ?_) (fun q hq => hw.2.2.2.2 q hq) hd hlocks
          unfold am_Qc
          rw [hmr]
          exact ⟨⟨x, (G2, ad1), rfl, hq, by rw [ht]; exact hw.1, hw.2.1, hn0, hrel⟩, hw.2.2.F ht⟩
        · refine W.zret hx hb (hr.trans hmr) (am_nb hx01).1 (fun t ht _ => ?_) (fun q hq => hw.2.2.2.2 q hq) hd hlocks
          unfold am_Qc
          rw [hmr]
          exact ⟨⟨x, (G2, ad1), rfl, hq, by rw [ht]; exact hw.1, hw.2.1, hn0, hrel⟩, hw.2.2.F ht⟩)
      (fun pc L x G2 nc ns hq hmr hd => by
        intro ad1 H locs ls hrel hn0 hw hnd hL hcs
        refine W.widen hcs.1 hcs.2 ?_
        refine W.lret hx hb (hr.trans hmr) (fun t ht _ => ?_) (fun q hq => hw.2.2.2.2 q hq) hd hlocks
        unfold am_Qc
        rw [hmr]
        exact ⟨⟨x, (G2, ad1), rfl, hq, by rw [ht]; exact hw.1, hw.2.1, hn0, hrel⟩, hw.2.2.F ht⟩)
      (fun pc L G2 nc ns hq hmr hd => by
        intro ad1 H locs ls hrel hn0 hw hnd hL hcs
        refine W.widen hcs.1 hcs.2 ?_
        refine W.vret hx hb (hr.trans hmr) (fun t ht _ => ?_) (fun q hq => hw.2.2.2.2 q hq) hd hlocks
        unfold am_Qc
        rw [hmr]
        exact ⟨⟨(G2, ad1), rfl, hq, by rw [ht]; exact hw.1, hw.2.1, hn0, hrel⟩, hw.2.2.F ht⟩)
      hstep)
  rw [lg_entry_eq]
  refine key ad s.heap [] _ ⟨fun _ => rfl, fun _ _ => rfl⟩ (Nat.le_refl _) ⟨hP, hD, va_S.rf⟩ ?_ (am_entry ad hlen) ⟨Nat.zero_le _, Nat.zero_le _⟩
  intro i v hi hc
  exact hlong v (am_ent_mem As i v (am_entL_get hi)) hc
theorem am_sound {l : Launch} {dC : Nat → ClassId} {dI : Nat → Nat → Nat} {dA : Nat → ClassId} {MT : Nat → Option am_M} (hMT : ∀ mi M, MT mi = some M → am_okM M = true ∧ am_okT MT M = true) (hTX : am_TX l dC dI dA MT) : ∀ (d mi : Nat) (As : List Value) (G : am_G) (post : Option Value → am_G → Prop), am_Call MT (d + 1) mi As G post → ∃ M, MT mi = some M ∧ am_okM M = true ∧ am_Met l dC dI dA d M As G post := by
  intro d
  induction d with
  | zero =>
    intro mi As G post h
    exact am_soundS hMT hTX 0 (fun mi As G post h => h.elim) mi As G post h
  | succ d ih =>
    intro mi As G post h
    refine am_soundS hMT hTX (d + 1) (fun mi As G post h => ?_) mi As G post h
    obtain ⟨M, h1, h2, h3⟩ := ih mi As G post h
    exact ⟨M, d, h1, Nat.le_refl _, h2, h3⟩
end
section
/-! THE TABLES of all methods, by program. -/
def tbX0_init : List (Nat × List am_I) := [(24, [(0, .aload_n 0, 1, 0, 0, 0, 0, 0, 0, 0), (1, .invokespecial 3, 4, 0, 0, 5, 0, 209, 0, 0), (4, .aload_n 0, 5, 0, 0, 0, 0, 0, 0, 0), (5, .iconst 1, 6, 0, 0, 0, 0, 0, 1, 0), (6, .putfield 9, 9, 0, 2, 0, 0, 215, 0, 0), (9, .aload_n 0, 10, 0, 0, 0, 0, 0, 0, 0), (10, .sipush 200, 13, 0, 0, 0, 0, 0, 200, 0), (13, .newarray .int, 15, 0, 0, 0, 0, 150, 0, 0), (15, .putfield 15, 18, 0, 4, 2, 0, 219, 0, 0), (18, .aload_n 0, 19, 0, 0, 0, 0, 0, 0, 0), (19, .sipush 1200, 22, 0, 0, 0, 0, 0, 1200, 0), (22, .newarray .int, 24, 0, 0, 0, 0, 150, 0, 0)]),
  (51, [(24, .putfield 19, 27, 0, 5, 2, 0, 220, 0, 0), (27, .aload_n 0, 28, 0, 0, 0, 0, 0, 0, 0), (28, .sipush 1200, 31, 0, 0, 0, 0, 0, 1200, 0), (31, .newarray .int, 33, 0, 0, 0, 0, 150, 0, 0), (33, .putfield 22, 36, 0, 6, 2, 0, 223, 0, 0), (36, .aload_n 0, 37, 0, 0, 0, 0, 0, 0, 0), (37, .sipush 1200, 40, 0, 0, 0, 0, 0, 1200, 0), (40, .newarray .int, 42, 0, 0, 0, 0, 150, 0, 0), (42, .putfield 25, 45, 0, 7, 2, 0, 226, 0, 0), (45, .aload_n 0, 46, 0, 0, 0, 0, 0, 0, 0), (46, .sipush 1200, 49, 0, 0, 0, 0, 0, 1200, 0), (49, .newarray .int, 51, 0, 0, 0, 0, 150, 0, 0)]),
  (100000, [(51, .putfield 28, 54, 0, 8, 2, 0, 228, 0, 0), (54, .return_, 55, 0, 0, 0, 0, 0, 0, 0)])]
def mmX0_init : am_M := (yX0_init, cX0_init, 1, none, 5, 5000, 1, 0, [208, 207, 0, 80, 2], tbX0_init)
def tbX0_restart : List (Nat × List am_I) := [(100000, [(0, .aload_n 0, 1, 0, 0, 0, 0, 0, 0, 0), (1, .iconst 0, 2, 0, 0, 0, 0, 0, 0, 0), (2, .putfield 31, 5, 0, 0, 0, 0, 210, 0, 0), (5, .aload_n 0, 6, 0, 0, 0, 0, 0, 0, 0), (6, .getfield 15, 9, 0, 4, 0, 0, 219, 0, 0), (9, .iconst 0, 10, 0, 0, 0, 0, 0, 0, 0), (10, .aload_n 0, 11, 0, 0, 0, 0, 0, 0, 0), (11, .getfield 34, 14, 0, 1, 0, 0, 213, 0, 0), (14, .iastore, 15, 0, 0, 0, 0, 0, 0, 0), (15, .return_, 16, 0, 0, 0, 0, 0, 0, 0)])]
def mmX0_restart : am_M := (yX0_restart, cX0_restart, 1, none, 0, 0, 1, 0, [465, 463, 464, 80, 1], tbX0_restart)
def tbX0_copy : List (Nat × List am_I) := [(24, [(0, .aload_n 0, 1, 0, 0, 0, 0, 0, 0, 0), (1, .aload_n 1, 2, 1, 0, 0, 0, 0, 0, 0), (2, .getfield 31, 5, 0, 0, 0, 0, 210, 0, 0), (5, .putfield 31, 8, 0, 0, 0, 0, 210, 0, 0), (8, .aload_n 0, 9, 0, 0, 0, 0, 0, 0, 0), (9, .aload_n 1, 10, 1, 0, 0, 0, 0, 0, 0), (10, .getfield 34, 13, 0, 1, 0, 0, 213, 0, 0), (13, .putfield 34, 16, 0, 1, 0, 0, 213, 0, 0), (16, .aload_n 0, 17, 0, 0, 0, 0, 0, 0, 0), (17, .aload_n 1, 18, 1, 0, 0, 0, 0, 0, 0), (18, .getfield 9, 21, 0, 2, 0, 0, 215, 0, 0), (21, .putfield 9, 24, 0, 2, 0, 0, 215, 0, 0)]),
  (46, [(24, .aload_n 0, 25, 0, 0, 0, 0, 0, 0, 0), (25, .aload_n 1, 26, 1, 0, 0, 0, 0, 0, 0), (26, .getfield 37, 29, 0, 3, 0, 0, 217, 0, 0), (29, .putfield 37, 32, 0, 3, 0, 0, 217, 0, 0), (32, .aload_n 1, 33, 1, 0, 0, 0, 0, 0, 0), (33, .getfield 15, 36, 0, 4, 0, 0, 219, 0, 0), (36, .iconst 0, 37, 0, 0, 0, 0, 0, 0, 0), (37, .aload_n 0, 38, 0, 0, 0, 0, 0, 0, 0), (38, .getfield 15, 41, 0, 4, 0, 0, 219, 0, 0), (41, .iconst 0, 42, 0, 0, 0, 0, 0, 0, 0), (42, .aload_n 0, 43, 0, 0, 0, 0, 0, 0, 0), (43, .getfield 15, 46, 0, 4, 0, 0, 219, 0, 0)]),
  (68, [(46, .arraylength, 47, 0, 0, 0, 0, 0, 0, 0), (47, .invokestatic 40, 50, 0, 0, 11, 0, 1071, 0, 0), (50, .aload_n 1, 51, 1, 0, 0, 0, 0, 0, 0), (51, .getfield 19, 54, 0, 5, 0, 0, 220, 0, 0), (54, .iconst 0, 55, 0, 0, 0, 0, 0, 0, 0), (55, .aload_n 0, 56, 0, 0, 0, 0, 0, 0, 0), (56, .getfield 19, 59, 0, 5, 0, 0, 220, 0, 0), (59, .iconst 0, 60, 0, 0, 0, 0, 0, 0, 0), (60, .aload_n 0, 61, 0, 0, 0, 0, 0, 0, 0), (61, .getfield 19, 64, 0, 5, 0, 0, 220, 0, 0), (64, .arraylength, 65, 0, 0, 0, 0, 0, 0, 0), (65, .invokestatic 40, 68, 0, 0, 11, 0, 1071, 0, 0)]),
  (90, [(68, .aload_n 1, 69, 1, 0, 0, 0, 0, 0, 0), (69, .getfield 22, 72, 0, 6, 0, 0, 223, 0, 0), (72, .iconst 0, 73, 0, 0, 0, 0, 0, 0, 0), (73, .aload_n 0, 74, 0, 0, 0, 0, 0, 0, 0), (74, .getfield 22, 77, 0, 6, 0, 0, 223, 0, 0), (77, .iconst 0, 78, 0, 0, 0, 0, 0, 0, 0), (78, .aload_n 0, 79, 0, 0, 0, 0, 0, 0, 0), (79, .getfield 22, 82, 0, 6, 0, 0, 223, 0, 0), (82, .arraylength, 83, 0, 0, 0, 0, 0, 0, 0), (83, .invokestatic 40, 86, 0, 0, 11, 0, 1071, 0, 0), (86, .aload_n 1, 87, 1, 0, 0, 0, 0, 0, 0), (87, .getfield 25, 90, 0, 7, 0, 0, 226, 0, 0)]),
  (110, [(90, .iconst 0, 91, 0, 0, 0, 0, 0, 0, 0), (91, .aload_n 0, 92, 0, 0, 0, 0, 0, 0, 0), (92, .getfield 25, 95, 0, 7, 0, 0, 226, 0, 0), (95, .iconst 0, 96, 0, 0, 0, 0, 0, 0, 0), (96, .aload_n 0, 97, 0, 0, 0, 0, 0, 0, 0), (97, .getfield 25, 100, 0, 7, 0, 0, 226, 0, 0), (100, .arraylength, 101, 0, 0, 0, 0, 0, 0, 0), (101, .invokestatic 40, 104, 0, 0, 11, 0, 1071, 0, 0), (104, .aload_n 1, 105, 1, 0, 0, 0, 0, 0, 0), (105, .getfield 28, 108, 0, 8, 0, 0, 228, 0, 0), (108, .iconst 0, 109, 0, 0, 0, 0, 0, 0, 0), (109, .aload_n 0, 110, 0, 0, 0, 0, 0, 0, 0)]),
  (100000, [(110, .getfield 28, 113, 0, 8, 0, 0, 228, 0, 0), (113, .iconst 0, 114, 0, 0, 0, 0, 0, 0, 0), (114, .aload_n 0, 115, 0, 0, 0, 0, 0, 0, 0), (115, .getfield 28, 118, 0, 8, 0, 0, 228, 0, 0), (118, .arraylength, 119, 0, 0, 0, 0, 0, 0, 0), (119, .invokestatic 40, 122, 0, 0, 11, 0, 1071, 0, 0), (122, .return_, 123, 0, 0, 0, 0, 0, 0, 0)])]
def mmX0_copy : am_M := (yX0_copy, cX0_copy, 2, none, 0, 0, 2, 0, [1070, 1068, 1069, 80, 1], tbX0_copy)
def tbX0_placeAt : List (Nat × List am_I) := [(24, [(0, .iload_n 1, 1, 1, 0, 0, 0, 0, 0, 0), (1, .ifCond .lt 10, 4, 11, 0, 0, 0, 0, 0, 0), (4, .iload_n 1, 5, 1, 0, 0, 0, 0, 0, 0), (5, .sipush 199, 8, 0, 0, 0, 0, 0, 199, 0), (8, .if_icmp .le 10, 11, 18, 0, 0, 0, 0, 0, 0), (11, .aload_n 0, 12, 0, 0, 0, 0, 0, 0, 0), (12, .getfield 34, 15, 0, 1, 0, 0, 213, 0, 0), (15, .goto 9, 18, 24, 0, 0, 0, 0, 0, 0), (18, .aload_n 0, 19, 0, 0, 0, 0, 0, 0, 0), (19, .getfield 15, 22, 0, 4, 0, 0, 219, 0, 0), (22, .iload_n 1, 23, 1, 0, 0, 0, 0, 0, 0), (23, .iaload, 24, 0, 0, 0, 0, 0, 0, 0)]),
  (100000, [(24, .ireturn, 25, 0, 0, 0, 0, 0, 0, 0)])]
def mmX0_placeAt : am_M := (yX0_placeAt, cX0_placeAt, 2, some .int, 0, 0, 2, 0, [652, 650, 651, 80, 1], tbX0_placeAt)
def tbX0_noted : List (Nat × List am_I) := [(22, [(0, .iload_n 2, 1, 2, 0, 0, 0, 0, 0, 0), (1, .sipush 200, 4, 0, 0, 0, 0, 0, 200, 0), (4, .imul, 5, 0, 0, 0, 0, 0, 0, 0), (5, .iload_n 3, 6, 3, 0, 0, 0, 0, 0, 0), (6, .iadd, 7, 0, 0, 0, 0, 0, 0, 0), (7, .istore 4, 9, 4, 0, 0, 0, 0, 0, 0), (9, .iload_n 3, 10, 3, 0, 0, 0, 0, 0, 0), (10, .ifCond .lt 22, 13, 32, 0, 0, 0, 0, 0, 0), (13, .iload_n 3, 14, 3, 0, 0, 0, 0, 0, 0), (14, .sipush 199, 17, 0, 0, 0, 0, 0, 199, 0), (17, .if_icmp .gt 15, 20, 32, 0, 0, 0, 0, 0, 0), (20, .iload 4, 22, 4, 0, 0, 0, 0, 0, 0)]),
  (100000, [(22, .ifCond .lt 10, 25, 32, 0, 0, 0, 0, 0, 0), (25, .iload 4, 27, 4, 0, 0, 0, 0, 0, 0), (27, .aload_n 1, 28, 1, 0, 0, 0, 0, 0, 0), (28, .arraylength, 29, 0, 0, 0, 0, 0, 0, 0), (29, .if_icmp .lt 7, 32, 36, 0, 0, 0, 0, 0, 0), (32, .iconst 0, 33, 0, 0, 0, 0, 0, 0, 0), (33, .goto 7, 36, 40, 0, 0, 0, 0, 0, 0), (36, .aload_n 1, 37, 1, 0, 0, 0, 0, 0, 0), (37, .iload 4, 39, 4, 0, 0, 0, 0, 0, 0), (39, .iaload, 40, 0, 0, 0, 0, 0, 0, 0), (40, .ireturn, 41, 0, 0, 0, 0, 0, 0, 0)])]
def mmX0_noted : am_M := (yX0_noted, cX0_noted, 5, some .int, 0, 0, 4, 0, [708, 706, 707, 80, 1], tbX0_noted)
def tbX0_spoke : List (Nat × List am_I) := [(100000, [(0, .aload_n 0, 1, 0, 0, 0, 0, 0, 0, 0), (1, .aload_n 0, 2, 0, 0, 0, 0, 0, 0, 0), (2, .getfield 22, 5, 0, 6, 0, 0, 223, 0, 0), (5, .iload_n 1, 6, 1, 0, 0, 0, 0, 0, 0), (6, .iload_n 2, 7, 2, 0, 0, 0, 0, 0, 0), (7, .invokevirtual 46, 10, 4, 4, 0, 0, 705, 0, 0), (10, .ifCond .eq 7, 13, 17, 0, 0, 0, 0, 0, 0), (13, .iconst 1, 14, 0, 0, 0, 0, 0, 1, 0), (14, .goto 4, 17, 18, 0, 0, 0, 0, 0, 0), (17, .iconst 0, 18, 0, 0, 0, 0, 0, 0, 0), (18, .ireturn, 19, 0, 0, 0, 0, 0, 0, 0)])]
def mmX0_spoke : am_M := (yX0_spoke, cX0_spoke, 3, some .boolean, 0, 0, 3, 0, [704, 702, 703, 80, 1], tbX0_spoke)
def tbX0_note : List (Nat × List am_I) := [(23, [(0, .iload_n 1, 1, 1, 0, 0, 0, 0, 0, 0), (1, .sipush 200, 4, 0, 0, 0, 0, 0, 200, 0), (4, .imul, 5, 0, 0, 0, 0, 0, 0, 0), (5, .aload_n 0, 6, 0, 0, 0, 0, 0, 0, 0), (6, .getfield 31, 9, 0, 0, 0, 0, 210, 0, 0), (9, .iadd, 10, 0, 0, 0, 0, 0, 0, 0), (10, .istore 6, 12, 6, 0, 0, 0, 0, 0, 0), (12, .iload 6, 14, 6, 0, 0, 0, 0, 0, 0), (14, .ifCond .lt 47, 17, 61, 0, 0, 0, 0, 0, 0), (17, .iload 6, 19, 6, 0, 0, 0, 0, 0, 0), (19, .aload_n 0, 20, 0, 0, 0, 0, 0, 0, 0), (20, .getfield 19, 23, 0, 5, 0, 0, 220, 0, 0)]),
  (43, [(23, .arraylength, 24, 0, 0, 0, 0, 0, 0, 0), (24, .if_icmp .ge 37, 27, 61, 0, 0, 0, 0, 0, 0), (27, .aload_n 0, 28, 0, 0, 0, 0, 0, 0, 0), (28, .getfield 19, 31, 0, 5, 0, 0, 220, 0, 0), (31, .iload 6, 33, 6, 0, 0, 0, 0, 0, 0), (33, .iload_n 2, 34, 2, 0, 0, 0, 0, 0, 0), (34, .iastore, 35, 0, 0, 0, 0, 0, 0, 0), (35, .aload_n 0, 36, 0, 0, 0, 0, 0, 0, 0), (36, .getfield 22, 39, 0, 6, 0, 0, 223, 0, 0), (39, .iload 6, 41, 6, 0, 0, 0, 0, 0, 0), (41, .iload_n 3, 42, 3, 0, 0, 0, 0, 0, 0), (42, .iastore, 43, 0, 0, 0, 0, 0, 0, 0)]),
  (100000, [(43, .aload_n 0, 44, 0, 0, 0, 0, 0, 0, 0), (44, .getfield 25, 47, 0, 7, 0, 0, 226, 0, 0), (47, .iload 6, 49, 6, 0, 0, 0, 0, 0, 0), (49, .iload 4, 51, 4, 0, 0, 0, 0, 0, 0), (51, .iastore, 52, 0, 0, 0, 0, 0, 0, 0), (52, .aload_n 0, 53, 0, 0, 0, 0, 0, 0, 0), (53, .getfield 28, 56, 0, 8, 0, 0, 228, 0, 0), (56, .iload 6, 58, 6, 0, 0, 0, 0, 0, 0), (58, .iload 5, 60, 5, 0, 0, 0, 0, 0, 0), (60, .iastore, 61, 0, 0, 0, 0, 0, 0, 0), (61, .return_, 62, 0, 0, 0, 0, 0, 0, 0)])]
def mmX0_note : am_M := (yX0_note, cX0_note, 7, none, 0, 0, 6, 0, [773, 771, 772, 80, 1], tbX0_note)
def tbX0_move : List (Nat × List am_I) := [(26, [(0, .aload_n 0, 1, 0, 0, 0, 0, 0, 0, 0), (1, .getfield 31, 4, 0, 0, 0, 0, 210, 0, 0), (4, .ifCond .lt 51, 7, 55, 0, 0, 0, 0, 0, 0), (7, .aload_n 0, 8, 0, 0, 0, 0, 0, 0, 0), (8, .getfield 31, 11, 0, 0, 0, 0, 210, 0, 0), (11, .sipush 199, 14, 0, 0, 0, 0, 0, 199, 0), (14, .if_icmp .ge 41, 17, 55, 0, 0, 0, 0, 0, 0), (17, .aload_n 0, 18, 0, 0, 0, 0, 0, 0, 0), (18, .getfield 15, 21, 0, 4, 0, 0, 219, 0, 0), (21, .aload_n 0, 22, 0, 0, 0, 0, 0, 0, 0), (22, .getfield 31, 25, 0, 0, 0, 0, 210, 0, 0), (25, .iconst 1, 26, 0, 0, 0, 0, 0, 1, 0)]),
  (46, [(26, .iadd, 27, 0, 0, 0, 0, 0, 0, 0), (27, .aload_n 0, 28, 0, 0, 0, 0, 0, 0, 0), (28, .getfield 15, 31, 0, 4, 0, 0, 219, 0, 0), (31, .aload_n 0, 32, 0, 0, 0, 0, 0, 0, 0), (32, .getfield 31, 35, 0, 0, 0, 0, 210, 0, 0), (35, .iaload, 36, 0, 0, 0, 0, 0, 0, 0), (36, .iload_n 1, 37, 1, 0, 0, 0, 0, 0, 0), (37, .iadd, 38, 0, 0, 0, 0, 0, 0, 0), (38, .sipush 999, 41, 0, 0, 0, 0, 0, 999, 0), (41, .invokestatic 50, 44, 134, 2, 2, 0, 787, 0, 0), (44, .iastore, 45, 0, 0, 0, 0, 0, 0, 0), (45, .aload_n 0, 46, 0, 0, 0, 0, 0, 0, 0)]),
  (100000, [(46, .dup, 47, 0, 0, 0, 0, 0, 0, 0), (47, .getfield 31, 50, 0, 0, 0, 0, 210, 0, 0), (50, .iconst 1, 51, 0, 0, 0, 0, 0, 1, 0), (51, .iadd, 52, 0, 0, 0, 0, 0, 0, 0), (52, .putfield 31, 55, 0, 0, 0, 0, 210, 0, 0), (55, .return_, 56, 0, 0, 0, 0, 0, 0, 0)])]
def mmX0_move : am_M := (yX0_move, cX0_move, 2, none, 0, 0, 2, 0, [786, 784, 785, 80, 1], tbX0_move)
def tbX0_drawOfTen : List (Nat × List am_I) := [(22, [(0, .aload_n 0, 1, 0, 0, 0, 0, 0, 0, 0), (1, .aload_n 0, 2, 0, 0, 0, 0, 0, 0, 0), (2, .getfield 9, 5, 0, 2, 0, 0, 215, 0, 0), (5, .ldc 54, 7, 0, 0, 0, 0, 782, 1103515245, 0), (7, .imul, 8, 0, 0, 0, 0, 0, 0, 0), (8, .sipush 12345, 11, 0, 0, 0, 0, 0, 12345, 0), (11, .iadd, 12, 0, 0, 0, 0, 0, 0, 0), (12, .putfield 9, 15, 0, 2, 0, 0, 215, 0, 0), (15, .aload_n 0, 16, 0, 0, 0, 0, 0, 0, 0), (16, .getfield 9, 19, 0, 2, 0, 0, 215, 0, 0), (19, .bipush 16, 21, 0, 0, 0, 0, 0, 16, 0), (21, .iushr, 22, 0, 0, 0, 0, 0, 0, 0)]),
  (100000, [(22, .bipush 10, 24, 0, 0, 0, 0, 0, 10, 0), (24, .irem, 25, 0, 0, 0, 0, 0, 0, 0), (25, .ireturn, 26, 0, 0, 0, 0, 0, 0, 0)])]
def mmX0_drawOfTen : am_M := (yX0_drawOfTen, cX0_drawOfTen, 1, some .int, 0, 0, 1, 0, [781, 779, 780, 80, 1], tbX0_drawOfTen)
def tbX0_off : List (Nat × List am_I) := [(100000, [(0, .aload_n 0, 1, 0, 0, 0, 0, 0, 0, 0), (1, .iload_n 1, 2, 1, 0, 0, 0, 0, 0, 0), (2, .invokevirtual 55, 5, 3, 2, 0, 0, 649, 0, 0), (5, .iload_n 2, 6, 2, 0, 0, 0, 0, 0, 0), (6, .isub, 7, 0, 0, 0, 0, 0, 0, 0), (7, .invokestatic 59, 10, 0, 0, 8, 0, 661, 0, 0), (10, .ireturn, 11, 0, 0, 0, 0, 0, 0, 0)])]
def mmX0_off : am_M := (yX0_off, cX0_off, 3, some .int, 0, 0, 3, 0, [660, 658, 659, 80, 1], tbX0_off)
def tbX0_costTo : List (Nat × List am_I) := [(16, [(0, .iconst 0, 1, 0, 0, 0, 0, 0, 0, 0), (1, .istore_n 2, 2, 2, 0, 0, 0, 0, 0, 0), (2, .iconst 1, 3, 0, 0, 0, 0, 0, 1, 0), (3, .istore_n 3, 4, 3, 0, 0, 0, 0, 0, 0), (4, .iload_n 3, 5, 3, 0, 0, 0, 0, 0, 0), (5, .aload_n 0, 6, 0, 0, 0, 0, 0, 0, 0), (6, .getfield 31, 9, 0, 0, 0, 0, 210, 0, 0), (9, .if_icmp .gt 18, 12, 27, 0, 0, 0, 0, 0, 0), (12, .iload_n 2, 13, 2, 0, 0, 0, 0, 0, 0), (13, .aload_n 0, 14, 0, 0, 0, 0, 0, 0, 0), (14, .iload_n 3, 15, 3, 0, 0, 0, 0, 0, 0), (15, .iload_n 1, 16, 1, 0, 0, 0, 0, 0, 0)]),
  (100000, [(16, .invokevirtual 64, 19, 9, 3, 0, 0, 657, 0, 0), (19, .iadd, 20, 0, 0, 0, 0, 0, 0, 0), (20, .istore_n 2, 21, 2, 0, 0, 0, 0, 0, 0), (21, .iinc 3 1, 24, 3, 0, 0, 0, 0, 1, 0), (24, .goto (-20), 27, 4, 0, 0, 0, 0, 0, 0), (27, .iload_n 2, 28, 2, 0, 0, 0, 0, 0, 0), (28, .ireturn, 29, 0, 0, 0, 0, 0, 0, 0)])]
def mmX0_costTo : am_M := (yX0_costTo, cX0_costTo, 4, some .int, 0, 0, 2, 0, [684, 682, 683, 80, 1], tbX0_costTo)
def tbX0_settledFrom : List (Nat × List am_I) := [(20, [(0, .iconst (-1), 1, 0, 0, 0, 0, 0, -1, 0), (1, .istore_n 2, 2, 2, 0, 0, 0, 0, 0, 0), (2, .aload_n 0, 3, 0, 0, 0, 0, 0, 0, 0), (3, .getfield 31, 6, 0, 0, 0, 0, 210, 0, 0), (6, .istore_n 3, 7, 3, 0, 0, 0, 0, 0, 0), (7, .iload_n 3, 8, 3, 0, 0, 0, 0, 0, 0), (8, .ifCond .lt 20, 11, 28, 0, 0, 0, 0, 0, 0), (11, .aload_n 0, 12, 0, 0, 0, 0, 0, 0, 0), (12, .iload_n 3, 13, 3, 0, 0, 0, 0, 0, 0), (13, .invokevirtual 55, 16, 3, 2, 0, 0, 649, 0, 0), (16, .iload_n 1, 17, 1, 0, 0, 0, 0, 0, 0), (17, .if_icmp .ne 11, 20, 28, 0, 0, 0, 0, 0, 0)]),
  (100000, [(20, .iload_n 3, 21, 3, 0, 0, 0, 0, 0, 0), (21, .istore_n 2, 22, 2, 0, 0, 0, 0, 0, 0), (22, .iinc 3 (-1), 25, 3, 0, 0, 0, 0, -1, 0), (25, .goto (-18), 28, 7, 0, 0, 0, 0, 0, 0), (28, .iload_n 2, 29, 2, 0, 0, 0, 0, 0, 0), (29, .ireturn, 30, 0, 0, 0, 0, 0, 0, 0)])]
def mmX0_settledFrom : am_M := (yX0_settledFrom, cX0_settledFrom, 4, some .int, 0, 0, 2, 0, [648, 646, 647, 80, 1], tbX0_settledFrom)
def tbX0_widest : List (Nat × List am_I) := [(21, [(0, .iconst 0, 1, 0, 0, 0, 0, 0, 0, 0), (1, .istore 4, 3, 4, 0, 0, 0, 0, 0, 0), (3, .iload_n 1, 4, 1, 0, 0, 0, 0, 0, 0), (4, .istore 5, 6, 5, 0, 0, 0, 0, 0, 0), (6, .iload 5, 8, 5, 0, 0, 0, 0, 0, 0), (8, .iload_n 2, 9, 2, 0, 0, 0, 0, 0, 0), (9, .if_icmp .gt 23, 12, 32, 0, 0, 0, 0, 0, 0), (12, .iload 4, 14, 4, 0, 0, 0, 0, 0, 0), (14, .aload_n 0, 15, 0, 0, 0, 0, 0, 0, 0), (15, .iload 5, 17, 5, 0, 0, 0, 0, 0, 0), (17, .iload_n 3, 18, 3, 0, 0, 0, 0, 0, 0), (18, .invokevirtual 64, 21, 9, 3, 0, 0, 657, 0, 0)]),
  (100000, [(21, .invokestatic 67, 24, 0, 0, 6, 0, 664, 0, 0), (24, .istore 4, 26, 4, 0, 0, 0, 0, 0, 0), (26, .iinc 5 1, 29, 5, 0, 0, 0, 0, 1, 0), (29, .goto (-23), 32, 6, 0, 0, 0, 0, 0, 0), (32, .iload 4, 34, 4, 0, 0, 0, 0, 0, 0), (34, .ireturn, 35, 0, 0, 0, 0, 0, 0, 0)])]
def mmX0_widest : am_M := (yX0_widest, cX0_widest, 6, some .int, 0, 0, 4, 0, [656, 654, 655, 80, 1], tbX0_widest)
def tbX0_turnsRound : List (Nat × List am_I) := [(19, [(0, .iconst 0, 1, 0, 0, 0, 0, 0, 0, 0), (1, .istore_n 2, 2, 2, 0, 0, 0, 0, 0, 0), (2, .iconst 0, 3, 0, 0, 0, 0, 0, 0, 0), (3, .istore_n 3, 4, 3, 0, 0, 0, 0, 0, 0), (4, .iconst 0, 5, 0, 0, 0, 0, 0, 0, 0), (5, .istore 4, 7, 4, 0, 0, 0, 0, 0, 0), (7, .iload 4, 9, 4, 0, 0, 0, 0, 0, 0), (9, .aload_n 0, 10, 0, 0, 0, 0, 0, 0, 0), (10, .getfield 31, 13, 0, 0, 0, 0, 210, 0, 0), (13, .if_icmp .gt 49, 16, 62, 0, 0, 0, 0, 0, 0), (16, .aload_n 0, 17, 0, 0, 0, 0, 0, 0, 0), (17, .iload 4, 19, 4, 0, 0, 0, 0, 0, 0)]),
  (41, [(19, .invokevirtual 55, 22, 3, 2, 0, 0, 649, 0, 0), (22, .iload_n 1, 23, 1, 0, 0, 0, 0, 0, 0), (23, .isub, 24, 0, 0, 0, 0, 0, 0, 0), (24, .invokestatic 70, 27, 255, 1, 1, 0, 827, 0, 0), (27, .istore 5, 29, 5, 0, 0, 0, 0, 0, 0), (29, .iload_n 2, 30, 2, 0, 0, 0, 0, 0, 0), (30, .iload 5, 32, 5, 0, 0, 0, 0, 0, 0), (32, .iload_n 3, 33, 3, 0, 0, 0, 0, 0, 0), (33, .imul, 34, 0, 0, 0, 0, 0, 0, 0), (34, .ifCond .ge 7, 37, 41, 0, 0, 0, 0, 0, 0), (37, .iconst 1, 38, 0, 0, 0, 0, 0, 1, 0), (38, .goto 4, 41, 42, 0, 0, 0, 0, 0, 0)]),
  (63, [(41, .iconst 0, 42, 0, 0, 0, 0, 0, 0, 0), (42, .iadd, 43, 0, 0, 0, 0, 0, 0, 0), (43, .istore_n 2, 44, 2, 0, 0, 0, 0, 0, 0), (44, .iload 5, 46, 5, 0, 0, 0, 0, 0, 0), (46, .ifCond .ne 7, 49, 53, 0, 0, 0, 0, 0, 0), (49, .iload_n 3, 50, 3, 0, 0, 0, 0, 0, 0), (50, .goto 5, 53, 55, 0, 0, 0, 0, 0, 0), (53, .iload 5, 55, 5, 0, 0, 0, 0, 0, 0), (55, .istore_n 3, 56, 3, 0, 0, 0, 0, 0, 0), (56, .iinc 4 1, 59, 4, 0, 0, 0, 0, 1, 0), (59, .goto (-52), 62, 7, 0, 0, 0, 0, 0, 0), (62, .iload_n 2, 63, 2, 0, 0, 0, 0, 0, 0)]),
  (100000, [(63, .ireturn, 64, 0, 0, 0, 0, 0, 0, 0)])]
def mmX0_turnsRound : am_M := (yX0_turnsRound, cX0_turnsRound, 6, some .int, 0, 0, 2, 0, [826, 824, 825, 80, 1], tbX0_turnsRound)
def tbX1_init : List (Nat × List am_I) := [(100000, [(0, .aload_n 0, 1, 0, 0, 0, 0, 0, 0, 0), (1, .invokespecial 3, 4, 0, 0, 5, 0, 155, 0, 0), (4, .aload_n 0, 5, 0, 0, 0, 0, 0, 0, 0), (5, .bipush 40, 7, 0, 0, 0, 0, 0, 40, 0), (7, .newarray .int, 9, 0, 0, 0, 0, 150, 0, 0), (9, .putfield 9, 12, 1, 0, 2, 0, 156, 0, 0), (12, .aload_n 0, 13, 0, 0, 0, 0, 0, 0, 0), (13, .bipush 40, 15, 0, 0, 0, 0, 0, 40, 0), (15, .newarray .int, 17, 0, 0, 0, 0, 150, 0, 0), (17, .putfield 13, 20, 1, 2, 2, 0, 160, 0, 0), (20, .return_, 21, 0, 0, 0, 0, 0, 0, 0)])]
def mmX1_init : am_M := (yX1_init, cX1_init, 1, none, 2, 80, 1, 1, [154, 153, 0, 79, 2], tbX1_init)
def tbX1_add : List (Nat × List am_I) := [(22, [(0, .aload_n 0, 1, 0, 0, 0, 0, 0, 0, 0), (1, .getfield 16, 4, 1, 1, 0, 0, 157, 0, 0), (4, .aload_n 0, 5, 0, 0, 0, 0, 0, 0, 0), (5, .getfield 9, 8, 1, 0, 0, 0, 156, 0, 0), (8, .arraylength, 9, 0, 0, 0, 0, 0, 0, 0), (9, .if_icmp .ge 23, 12, 32, 0, 0, 0, 0, 0, 0), (12, .aload_n 0, 13, 0, 0, 0, 0, 0, 0, 0), (13, .getfield 9, 16, 1, 0, 0, 0, 156, 0, 0), (16, .aload_n 0, 17, 0, 0, 0, 0, 0, 0, 0), (17, .getfield 16, 20, 1, 1, 0, 0, 157, 0, 0), (20, .iload_n 1, 21, 1, 0, 0, 0, 0, 0, 0), (21, .iastore, 22, 0, 0, 0, 0, 0, 0, 0)]),
  (100000, [(22, .aload_n 0, 23, 0, 0, 0, 0, 0, 0, 0), (23, .dup, 24, 0, 0, 0, 0, 0, 0, 0), (24, .getfield 16, 27, 1, 1, 0, 0, 157, 0, 0), (27, .iconst 1, 28, 0, 0, 0, 0, 0, 1, 0), (28, .iadd, 29, 0, 0, 0, 0, 0, 0, 0), (29, .putfield 16, 32, 1, 1, 0, 0, 157, 0, 0), (32, .return_, 33, 0, 0, 0, 0, 0, 0, 0)])]
def mmX1_add : am_M := (yX1_add, cX1_add, 2, none, 0, 0, 2, 1, [608, 606, 607, 79, 1], tbX1_add)
def tbX1_copy : List (Nat × List am_I) := [(22, [(0, .aload_n 0, 1, 0, 0, 0, 0, 0, 0, 0), (1, .aload_n 1, 2, 1, 0, 0, 0, 0, 0, 0), (2, .getfield 16, 5, 1, 1, 0, 0, 157, 0, 0), (5, .putfield 16, 8, 1, 1, 0, 0, 157, 0, 0), (8, .aload_n 1, 9, 1, 0, 0, 0, 0, 0, 0), (9, .getfield 9, 12, 1, 0, 0, 0, 156, 0, 0), (12, .iconst 0, 13, 0, 0, 0, 0, 0, 0, 0), (13, .aload_n 0, 14, 0, 0, 0, 0, 0, 0, 0), (14, .getfield 9, 17, 1, 0, 0, 0, 156, 0, 0), (17, .iconst 0, 18, 0, 0, 0, 0, 0, 0, 0), (18, .aload_n 0, 19, 0, 0, 0, 0, 0, 0, 0), (19, .getfield 9, 22, 1, 0, 0, 0, 156, 0, 0)]),
  (100000, [(22, .arraylength, 23, 0, 0, 0, 0, 0, 0, 0), (23, .invokestatic 20, 26, 0, 0, 11, 0, 633, 0, 0), (26, .return_, 27, 0, 0, 0, 0, 0, 0, 0)])]
def mmX1_copy : am_M := (yX1_copy, cX1_copy, 2, none, 0, 0, 2, 1, [632, 630, 631, 79, 1], tbX1_copy)
def tbX1_value : List (Nat × List am_I) := [(18, [(0, .iconst 0, 1, 0, 0, 0, 0, 0, 0, 0), (1, .istore_n 2, 2, 2, 0, 0, 0, 0, 0, 0), (2, .iconst 0, 3, 0, 0, 0, 0, 0, 0, 0), (3, .istore_n 3, 4, 3, 0, 0, 0, 0, 0, 0), (4, .iload_n 3, 5, 3, 0, 0, 0, 0, 0, 0), (5, .aload_n 0, 6, 0, 0, 0, 0, 0, 0, 0), (6, .getfield 16, 9, 1, 1, 0, 0, 157, 0, 0), (9, .if_icmp .ge 70, 12, 79, 0, 0, 0, 0, 0, 0), (12, .iload_n 3, 13, 3, 0, 0, 0, 0, 0, 0), (13, .aload_n 0, 14, 0, 0, 0, 0, 0, 0, 0), (14, .getfield 9, 17, 1, 0, 0, 0, 156, 0, 0), (17, .arraylength, 18, 0, 0, 0, 0, 0, 0, 0)]),
  (41, [(18, .if_icmp .ge 61, 21, 79, 0, 0, 0, 0, 0, 0), (21, .aload_n 0, 22, 0, 0, 0, 0, 0, 0, 0), (22, .getfield 9, 25, 1, 0, 0, 0, 156, 0, 0), (25, .iload_n 3, 26, 3, 0, 0, 0, 0, 0, 0), (26, .iaload, 27, 0, 0, 0, 0, 0, 0, 0), (27, .istore 4, 29, 4, 0, 0, 0, 0, 0, 0), (29, .iload 4, 31, 4, 0, 0, 0, 0, 0, 0), (31, .sipush 2000, 34, 0, 0, 0, 0, 0, 2000, 0), (34, .if_icmp .lt 14, 37, 48, 0, 0, 0, 0, 0, 0), (37, .aload_n 0, 38, 0, 0, 0, 0, 0, 0, 0), (38, .iload 4, 40, 4, 0, 0, 0, 0, 0, 0), (40, .iload_n 2, 41, 2, 0, 0, 0, 0, 0, 0)]),
  (63, [(41, .invokevirtual 26, 44, 19, 3, 0, 1, 752, 0, 0), (44, .istore_n 2, 45, 2, 0, 0, 0, 0, 0, 0), (45, .goto 28, 48, 73, 0, 0, 0, 0, 0, 0), (48, .iload_n 2, 49, 2, 0, 0, 0, 0, 0, 0), (49, .aload_n 0, 50, 0, 0, 0, 0, 0, 0, 0), (50, .getfield 13, 53, 1, 2, 0, 0, 160, 0, 0), (53, .arraylength, 54, 0, 0, 0, 0, 0, 0, 0), (54, .if_icmp .ge 19, 57, 73, 0, 0, 0, 0, 0, 0), (57, .aload_n 0, 58, 0, 0, 0, 0, 0, 0, 0), (58, .getfield 13, 61, 1, 2, 0, 0, 160, 0, 0), (61, .iload_n 2, 62, 2, 0, 0, 0, 0, 0, 0), (62, .aload_n 0, 63, 0, 0, 0, 0, 0, 0, 0)]),
  (88, [(63, .iload 4, 65, 4, 0, 0, 0, 0, 0, 0), (65, .aload_n 1, 66, 1, 0, 0, 0, 0, 0, 0), (66, .invokevirtual 30, 69, 18, 3, 0, 1, 759, 0, 0), (69, .iastore, 70, 0, 0, 0, 0, 0, 0, 0), (70, .iinc 2 1, 73, 2, 0, 0, 0, 0, 1, 0), (73, .iinc 3 1, 76, 3, 0, 0, 0, 0, 1, 0), (76, .goto (-72), 79, 4, 0, 0, 0, 0, 0, 0), (79, .iload_n 2, 80, 2, 0, 0, 0, 0, 0, 0), (80, .iconst 1, 81, 0, 0, 0, 0, 0, 1, 0), (81, .if_icmp .ne 12, 84, 93, 0, 0, 0, 0, 0, 0), (84, .aload_n 0, 85, 0, 0, 0, 0, 0, 0, 0), (85, .getfield 13, 88, 1, 2, 0, 0, 160, 0, 0)]),
  (100000, [(88, .iconst 0, 89, 0, 0, 0, 0, 0, 0, 0), (89, .iaload, 90, 0, 0, 0, 0, 0, 0, 0), (90, .goto 4, 93, 94, 0, 0, 0, 0, 0, 0), (93, .iconst 0, 94, 0, 0, 0, 0, 0, 0, 0), (94, .ireturn, 95, 0, 0, 0, 0, 0, 0, 0)])]
def mmX1_value : am_M := (yX1_value, cX1_value, 5, some .int, 0, 0, 2, 1, [751, 749, 750, 79, 1], tbX1_value)
def tbX1_thing : List (Nat × List am_I) := [(20, [(0, .iload_n 1, 1, 1, 0, 0, 0, 0, 0, 0), (1, .sipush 1000, 4, 0, 0, 0, 0, 0, 1000, 0), (4, .isub, 5, 0, 0, 0, 0, 0, 0, 0), (5, .istore_n 3, 6, 3, 0, 0, 0, 0, 0, 0), (6, .iload_n 3, 7, 3, 0, 0, 0, 0, 0, 0), (7, .ifCond .ge 7, 10, 14, 0, 0, 0, 0, 0, 0), (10, .iload_n 1, 11, 1, 0, 0, 0, 0, 0, 0), (11, .goto 16, 14, 27, 0, 0, 0, 0, 0, 0), (14, .iload_n 3, 15, 3, 0, 0, 0, 0, 0, 0), (15, .aload_n 2, 16, 2, 0, 0, 0, 0, 0, 0), (16, .arraylength, 17, 0, 0, 0, 0, 0, 0, 0), (17, .if_icmp .ge 9, 20, 26, 0, 0, 0, 0, 0, 0)]),
  (100000, [(20, .aload_n 2, 21, 2, 0, 0, 0, 0, 0, 0), (21, .iload_n 3, 22, 3, 0, 0, 0, 0, 0, 0), (22, .iaload, 23, 0, 0, 0, 0, 0, 0, 0), (23, .goto 4, 26, 27, 0, 0, 0, 0, 0, 0), (26, .iconst 0, 27, 0, 0, 0, 0, 0, 0, 0), (27, .ireturn, 28, 0, 0, 0, 0, 0, 0, 0)])]
def mmX1_thing : am_M := (yX1_thing, cX1_thing, 4, some .int, 0, 0, 3, 1, [762, 761, 14, 79, 1], tbX1_thing)
def tbX1_reckon : List (Nat × List am_I) := [(20, [(0, .iload_n 2, 1, 2, 0, 0, 0, 0, 0, 0), (1, .iconst 1, 2, 0, 0, 0, 0, 0, 1, 0), (2, .if_icmp .lt 12, 5, 14, 0, 0, 0, 0, 0, 0), (5, .iload_n 2, 6, 2, 0, 0, 0, 0, 0, 0), (6, .aload_n 0, 7, 0, 0, 0, 0, 0, 0, 0), (7, .getfield 13, 10, 1, 2, 0, 0, 160, 0, 0), (10, .arraylength, 11, 0, 0, 0, 0, 0, 0, 0), (11, .if_icmp .le 5, 14, 16, 0, 0, 0, 0, 0, 0), (14, .iconst 0, 15, 0, 0, 0, 0, 0, 0, 0), (15, .ireturn, 16, 0, 0, 0, 0, 0, 0, 0), (16, .aload_n 0, 17, 0, 0, 0, 0, 0, 0, 0), (17, .getfield 13, 20, 1, 2, 0, 0, 160, 0, 0)]),
  (38, [(20, .iload_n 2, 21, 2, 0, 0, 0, 0, 0, 0), (21, .iconst 1, 22, 0, 0, 0, 0, 0, 1, 0), (22, .isub, 23, 0, 0, 0, 0, 0, 0, 0), (23, .iaload, 24, 0, 0, 0, 0, 0, 0, 0), (24, .istore_n 3, 25, 3, 0, 0, 0, 0, 0, 0), (25, .iload_n 1, 26, 1, 0, 0, 0, 0, 0, 0), (26, .sipush 2110, 29, 0, 0, 0, 0, 0, 2110, 0), (29, .if_icmp .ne 15, 32, 44, 0, 0, 0, 0, 0, 0), (32, .aload_n 0, 33, 0, 0, 0, 0, 0, 0, 0), (33, .getfield 13, 36, 1, 2, 0, 0, 160, 0, 0), (36, .iload_n 2, 37, 2, 0, 0, 0, 0, 0, 0), (37, .iconst 1, 38, 0, 0, 0, 0, 0, 1, 0)]),
  (56, [(38, .isub, 39, 0, 0, 0, 0, 0, 0, 0), (39, .iload_n 3, 40, 3, 0, 0, 0, 0, 0, 0), (40, .ineg, 41, 0, 0, 0, 0, 0, 0, 0), (41, .iastore, 42, 0, 0, 0, 0, 0, 0, 0), (42, .iload_n 2, 43, 2, 0, 0, 0, 0, 0, 0), (43, .ireturn, 44, 0, 0, 0, 0, 0, 0, 0), (44, .iload_n 1, 45, 1, 0, 0, 0, 0, 0, 0), (45, .sipush 2033, 48, 0, 0, 0, 0, 0, 2033, 0), (48, .if_icmp .ne 22, 51, 70, 0, 0, 0, 0, 0, 0), (51, .aload_n 0, 52, 0, 0, 0, 0, 0, 0, 0), (52, .getfield 13, 55, 1, 2, 0, 0, 160, 0, 0), (55, .iload_n 2, 56, 2, 0, 0, 0, 0, 0, 0)]),
  (72, [(56, .iconst 1, 57, 0, 0, 0, 0, 0, 1, 0), (57, .isub, 58, 0, 0, 0, 0, 0, 0, 0), (58, .iload_n 3, 59, 3, 0, 0, 0, 0, 0, 0), (59, .ifCond .ne 7, 62, 66, 0, 0, 0, 0, 0, 0), (62, .iconst 1, 63, 0, 0, 0, 0, 0, 1, 0), (63, .goto 4, 66, 67, 0, 0, 0, 0, 0, 0), (66, .iconst 0, 67, 0, 0, 0, 0, 0, 0, 0), (67, .iastore, 68, 0, 0, 0, 0, 0, 0, 0), (68, .iload_n 2, 69, 2, 0, 0, 0, 0, 0, 0), (69, .ireturn, 70, 0, 0, 0, 0, 0, 0, 0), (70, .iload_n 2, 71, 2, 0, 0, 0, 0, 0, 0), (71, .iconst 2, 72, 0, 0, 0, 0, 0, 2, 0)]),
  (90, [(72, .if_icmp .ge 5, 75, 77, 0, 0, 0, 0, 0, 0), (75, .iconst 0, 76, 0, 0, 0, 0, 0, 0, 0), (76, .ireturn, 77, 0, 0, 0, 0, 0, 0, 0), (77, .aload_n 0, 78, 0, 0, 0, 0, 0, 0, 0), (78, .getfield 13, 81, 1, 2, 0, 0, 160, 0, 0), (81, .iload_n 2, 82, 2, 0, 0, 0, 0, 0, 0), (82, .iconst 2, 83, 0, 0, 0, 0, 0, 2, 0), (83, .isub, 84, 0, 0, 0, 0, 0, 0, 0), (84, .iload_n 1, 85, 1, 0, 0, 0, 0, 0, 0), (85, .sipush 2000, 88, 0, 0, 0, 0, 0, 2000, 0), (88, .isub, 89, 0, 0, 0, 0, 0, 0, 0), (89, .aload_n 0, 90, 0, 0, 0, 0, 0, 0, 0)]),
  (100000, [(90, .getfield 13, 93, 1, 2, 0, 0, 160, 0, 0), (93, .iload_n 2, 94, 2, 0, 0, 0, 0, 0, 0), (94, .iconst 2, 95, 0, 0, 0, 0, 0, 2, 0), (95, .isub, 96, 0, 0, 0, 0, 0, 0, 0), (96, .iaload, 97, 0, 0, 0, 0, 0, 0, 0), (97, .iload_n 3, 98, 3, 0, 0, 0, 0, 0, 0), (98, .invokestatic 34, 101, 20, 3, 1, 0, 756, 0, 0), (101, .iastore, 102, 0, 0, 0, 0, 0, 0, 0), (102, .iload_n 2, 103, 2, 0, 0, 0, 0, 0, 0), (103, .iconst 1, 104, 0, 0, 0, 0, 0, 1, 0), (104, .isub, 105, 0, 0, 0, 0, 0, 0, 0), (105, .ireturn, 106, 0, 0, 0, 0, 0, 0, 0)])]
def mmX1_reckon : am_M := (yX1_reckon, cX1_reckon, 4, some .int, 0, 0, 3, 1, [755, 754, 13, 79, 1], tbX1_reckon)
def tbX1_join : List (Nat × List am_I) := [(94, [(0, .iload_n 0, 1, 0, 0, 0, 0, 0, 0, 0), (1, .lookupswitch 148 #[(38, 89), (42, 144), (43, 136), (45, 140), (60, 103), (61, 125), (62, 114), (124, 75)], 76, 0, 0, 0, 0, 0, 0, 0), (76, .iload_n 1, 77, 1, 0, 0, 0, 0, 0, 0), (77, .ifCond .ne 7, 80, 84, 0, 0, 0, 0, 0, 0), (80, .iload_n 2, 81, 2, 0, 0, 0, 0, 0, 0), (81, .ifCond .eq 7, 84, 88, 0, 0, 0, 0, 0, 0), (84, .iconst 1, 85, 0, 0, 0, 0, 0, 1, 0), (85, .goto 4, 88, 89, 0, 0, 0, 0, 0, 0), (88, .iconst 0, 89, 0, 0, 0, 0, 0, 0, 0), (89, .ireturn, 90, 0, 0, 0, 0, 0, 0, 0), (90, .iload_n 1, 91, 1, 0, 0, 0, 0, 0, 0), (91, .ifCond .eq 11, 94, 102, 0, 0, 0, 0, 0, 0)]),
  (114, [(94, .iload_n 2, 95, 2, 0, 0, 0, 0, 0, 0), (95, .ifCond .eq 7, 98, 102, 0, 0, 0, 0, 0, 0), (98, .iconst 1, 99, 0, 0, 0, 0, 0, 1, 0), (99, .goto 4, 102, 103, 0, 0, 0, 0, 0, 0), (102, .iconst 0, 103, 0, 0, 0, 0, 0, 0, 0), (103, .ireturn, 104, 0, 0, 0, 0, 0, 0, 0), (104, .iload_n 1, 105, 1, 0, 0, 0, 0, 0, 0), (105, .iload_n 2, 106, 2, 0, 0, 0, 0, 0, 0), (106, .if_icmp .ge 7, 109, 113, 0, 0, 0, 0, 0, 0), (109, .iconst 1, 110, 0, 0, 0, 0, 0, 1, 0), (110, .goto 4, 113, 114, 0, 0, 0, 0, 0, 0), (113, .iconst 0, 114, 0, 0, 0, 0, 0, 0, 0)]),
  (132, [(114, .ireturn, 115, 0, 0, 0, 0, 0, 0, 0), (115, .iload_n 1, 116, 1, 0, 0, 0, 0, 0, 0), (116, .iload_n 2, 117, 2, 0, 0, 0, 0, 0, 0), (117, .if_icmp .le 7, 120, 124, 0, 0, 0, 0, 0, 0), (120, .iconst 1, 121, 0, 0, 0, 0, 0, 1, 0), (121, .goto 4, 124, 125, 0, 0, 0, 0, 0, 0), (124, .iconst 0, 125, 0, 0, 0, 0, 0, 0, 0), (125, .ireturn, 126, 0, 0, 0, 0, 0, 0, 0), (126, .iload_n 1, 127, 1, 0, 0, 0, 0, 0, 0), (127, .iload_n 2, 128, 2, 0, 0, 0, 0, 0, 0), (128, .if_icmp .ne 7, 131, 135, 0, 0, 0, 0, 0, 0), (131, .iconst 1, 132, 0, 0, 0, 0, 0, 1, 0)]),
  (146, [(132, .goto 4, 135, 136, 0, 0, 0, 0, 0, 0), (135, .iconst 0, 136, 0, 0, 0, 0, 0, 0, 0), (136, .ireturn, 137, 0, 0, 0, 0, 0, 0, 0), (137, .iload_n 1, 138, 1, 0, 0, 0, 0, 0, 0), (138, .iload_n 2, 139, 2, 0, 0, 0, 0, 0, 0), (139, .iadd, 140, 0, 0, 0, 0, 0, 0, 0), (140, .ireturn, 141, 0, 0, 0, 0, 0, 0, 0), (141, .iload_n 1, 142, 1, 0, 0, 0, 0, 0, 0), (142, .iload_n 2, 143, 2, 0, 0, 0, 0, 0, 0), (143, .isub, 144, 0, 0, 0, 0, 0, 0, 0), (144, .ireturn, 145, 0, 0, 0, 0, 0, 0, 0), (145, .iload_n 1, 146, 1, 0, 0, 0, 0, 0, 0)]),
  (100000, [(146, .iload_n 2, 147, 2, 0, 0, 0, 0, 0, 0), (147, .imul, 148, 0, 0, 0, 0, 0, 0, 0), (148, .ireturn, 149, 0, 0, 0, 0, 0, 0, 0), (149, .iload_n 2, 150, 2, 0, 0, 0, 0, 0, 0), (150, .ifCond .ne 7, 153, 157, 0, 0, 0, 0, 0, 0), (153, .iconst 0, 154, 0, 0, 0, 0, 0, 0, 0), (154, .goto 6, 157, 160, 0, 0, 0, 0, 0, 0), (157, .iload_n 1, 158, 1, 0, 0, 0, 0, 0, 0), (158, .iload_n 2, 159, 2, 0, 0, 0, 0, 0, 0), (159, .idiv, 160, 0, 0, 0, 0, 0, 0, 0), (160, .ireturn, 161, 0, 0, 0, 0, 0, 0, 0)])]
def mmX1_join : am_M := (yX1_join, cX1_join, 3, some .int, 0, 0, 3, 1, [758, 757, 0, 79, 0], tbX1_join)
def tbX2_init : List (Nat × List am_I) := [(23, [(0, .aload_n 0, 1, 0, 0, 0, 0, 0, 0, 0), (1, .invokespecial 3, 4, 0, 0, 5, 0, 330, 0, 0), (4, .aload_n 0, 5, 0, 0, 0, 0, 0, 0, 0), (5, .bipush 11, 7, 0, 0, 0, 0, 0, 11, 0), (7, .newarray .long, 9, 1, 0, 0, 0, 306, 0, 0), (9, .putfield 9, 12, 2, 0, 2, 0, 331, 0, 0), (12, .aload_n 0, 13, 0, 0, 0, 0, 0, 0, 0), (13, .bipush 61, 15, 0, 0, 0, 0, 0, 61, 0), (15, .newarray .long, 17, 1, 0, 0, 0, 306, 0, 0), (17, .putfield 13, 20, 2, 1, 2, 0, 332, 0, 0), (20, .aload_n 0, 21, 0, 0, 0, 0, 0, 0, 0), (21, .bipush 61, 23, 0, 0, 0, 0, 0, 61, 0)]),
  (100000, [(23, .newarray .long, 25, 1, 0, 0, 0, 306, 0, 0), (25, .putfield 16, 28, 2, 2, 2, 0, 333, 0, 0), (28, .aload_n 0, 29, 0, 0, 0, 0, 0, 0, 0), (29, .bipush 61, 31, 0, 0, 0, 0, 0, 61, 0), (31, .newarray .long, 33, 1, 0, 0, 0, 306, 0, 0), (33, .putfield 19, 36, 2, 3, 2, 0, 334, 0, 0), (36, .return_, 37, 0, 0, 0, 0, 0, 0, 0)])]
def mmX2_init : am_M := (yX2_init, cX2_init, 1, none, 4, 194, 1, 2, [329, 328, 0, 84, 2], tbX2_init)
def tbX2_leastCost : List (Nat × List am_I) := [(16, [(0, .aload_n 0, 1, 0, 0, 0, 0, 0, 0, 0), (1, .aload_n 1, 2, 1, 0, 0, 0, 0, 0, 0), (2, .iload_n 2, 3, 2, 0, 0, 0, 0, 0, 0), (3, .iconst 1, 4, 0, 0, 0, 0, 0, 1, 0), (4, .iadd, 5, 0, 0, 0, 0, 0, 0, 0), (5, .invokevirtual 22, 8, 23, 3, 0, 2, 839, 0, 0), (8, .aload_n 0, 9, 0, 0, 0, 0, 0, 0, 0), (9, .aload_n 1, 10, 1, 0, 0, 0, 0, 0, 0), (10, .getfield 26, 13, 9, 4, 0, 0, 177, 0, 0), (13, .iload_n 2, 14, 2, 0, 0, 0, 0, 0, 0), (14, .iconst 1, 15, 0, 0, 0, 0, 0, 1, 0), (15, .iadd, 16, 0, 0, 0, 0, 0, 0, 0)]),
  (39, [(16, .iload_n 3, 17, 3, 0, 0, 0, 0, 0, 0), (17, .invokevirtual 32, 20, 24, 4, 0, 2, 843, 0, 0), (20, .iconst 0, 21, 0, 0, 0, 0, 0, 0, 0), (21, .istore 6, 23, 6, 0, 0, 0, 0, 0, 0), (23, .iload 6, 25, 6, 0, 0, 0, 0, 0, 0), (25, .aload_n 0, 26, 0, 0, 0, 0, 0, 0, 0), (26, .getfield 19, 29, 2, 3, 0, 0, 334, 0, 0), (29, .arraylength, 30, 0, 0, 0, 0, 0, 0, 0), (30, .if_icmp .ge 17, 33, 47, 0, 0, 0, 0, 0, 0), (33, .aload_n 0, 34, 0, 0, 0, 0, 0, 0, 0), (34, .getfield 19, 37, 2, 3, 0, 0, 334, 0, 0), (37, .iload 6, 39, 6, 0, 0, 0, 0, 0, 0)]),
  (61, [(39, .lconst 0, 40, 0, 0, 0, 0, 0, 0, 0), (40, .lastore, 41, 0, 0, 0, 0, 0, 0, 0), (41, .iinc 6 1, 44, 6, 0, 0, 0, 0, 1, 0), (44, .goto (-21), 47, 23, 0, 0, 0, 0, 0, 0), (47, .lconst 1, 48, 0, 0, 0, 0, 0, 0, 1), (48, .lstore 6, 50, 6, 0, 0, 0, 0, 0, 0), (50, .iload 4, 52, 4, 0, 0, 0, 0, 0, 0), (52, .iconst 1, 53, 0, 0, 0, 0, 0, 1, 0), (53, .isub, 54, 0, 0, 0, 0, 0, 0, 0), (54, .istore 8, 56, 8, 0, 0, 0, 0, 0, 0), (56, .iload 8, 58, 8, 0, 0, 0, 0, 0, 0), (58, .ifCond .lt 83, 61, 141, 0, 0, 0, 0, 0, 0)]),
  (82, [(61, .iload 8, 63, 8, 0, 0, 0, 0, 0, 0), (63, .iload 5, 65, 5, 0, 0, 0, 0, 0, 0), (65, .iconst 1, 66, 0, 0, 0, 0, 0, 1, 0), (66, .iadd, 67, 0, 0, 0, 0, 0, 0, 0), (67, .imul, 68, 0, 0, 0, 0, 0, 0, 0), (68, .istore 9, 70, 9, 0, 0, 0, 0, 0, 0), (70, .iload 9, 72, 9, 0, 0, 0, 0, 0, 0), (72, .ineg, 73, 0, 0, 0, 0, 0, 0, 0), (73, .istore 10, 75, 10, 0, 0, 0, 0, 0, 0), (75, .iload 10, 77, 10, 0, 0, 0, 0, 0, 0), (77, .iload 9, 79, 9, 0, 0, 0, 0, 0, 0), (79, .if_icmp .gt 30, 82, 109, 0, 0, 0, 0, 0, 0)]),
  (106, [(82, .aload_n 0, 83, 0, 0, 0, 0, 0, 0, 0), (83, .getfield 16, 86, 2, 2, 0, 0, 333, 0, 0), (86, .iload 10, 88, 10, 0, 0, 0, 0, 0, 0), (88, .invokestatic 36, 91, 27, 1, 1, 0, 848, 0, 0), (91, .aload_n 0, 92, 0, 0, 0, 0, 0, 0, 0), (92, .aload_n 1, 93, 1, 0, 0, 0, 0, 0, 0), (93, .iload 10, 95, 10, 0, 0, 0, 0, 0, 0), (95, .iload 5, 97, 5, 0, 0, 0, 0, 0, 0), (97, .lload 6, 99, 6, 0, 0, 0, 0, 0, 0), (99, .invokevirtual 40, 102, 25, 5, 0, 2, 852, 0, 0), (102, .lastore, 103, 0, 0, 0, 0, 0, 0, 0), (103, .iinc 10 1, 106, 10, 0, 0, 0, 0, 1, 0)]),
  (129, [(106, .goto (-31), 109, 75, 0, 0, 0, 0, 0, 0), (109, .aload_n 0, 110, 0, 0, 0, 0, 0, 0, 0), (110, .getfield 16, 113, 2, 2, 0, 0, 333, 0, 0), (113, .iconst 0, 114, 0, 0, 0, 0, 0, 0, 0), (114, .aload_n 0, 115, 0, 0, 0, 0, 0, 0, 0), (115, .getfield 19, 118, 2, 3, 0, 0, 334, 0, 0), (118, .iconst 0, 119, 0, 0, 0, 0, 0, 0, 0), (119, .aload_n 0, 120, 0, 0, 0, 0, 0, 0, 0), (120, .getfield 19, 123, 2, 3, 0, 0, 334, 0, 0), (123, .arraylength, 124, 0, 0, 0, 0, 0, 0, 0), (124, .invokestatic 44, 127, 0, 0, 11, 0, 860, 0, 0), (127, .lload 6, 129, 6, 0, 0, 0, 0, 0, 0)]),
  (100000, [(129, .ldc2_w 50, 132, 0, 0, 0, 0, 861, 0, 10), (132, .lmul, 133, 0, 0, 0, 0, 0, 0, 0), (133, .lstore 6, 135, 6, 0, 0, 0, 0, 0, 0), (135, .iinc 8 (-1), 138, 8, 0, 0, 0, 0, -1, 0), (138, .goto (-82), 141, 56, 0, 0, 0, 0, 0, 0), (141, .aload_n 0, 142, 0, 0, 0, 0, 0, 0, 0), (142, .getfield 19, 145, 2, 3, 0, 0, 334, 0, 0), (145, .bipush 30, 147, 0, 0, 0, 0, 0, 30, 0), (147, .laload, 148, 0, 0, 0, 0, 0, 0, 0), (148, .lreturn, 149, 0, 0, 0, 0, 0, 0, 0)])]
def mmX2_leastCost : am_M := (yX2_leastCost, cX2_leastCost, 11, some .long, 0, 0, 6, 2, [838, 836, 837, 84, 1], tbX2_leastCost)
def tbX2_spread : List (Nat × List am_I) := [(18, [(0, .iconst 0, 1, 0, 0, 0, 0, 0, 0, 0), (1, .istore_n 3, 2, 3, 0, 0, 0, 0, 0, 0), (2, .iload_n 3, 3, 3, 0, 0, 0, 0, 0, 0), (3, .aload_n 0, 4, 0, 0, 0, 0, 0, 0, 0), (4, .getfield 9, 7, 2, 0, 0, 0, 331, 0, 0), (7, .arraylength, 8, 0, 0, 0, 0, 0, 0, 0), (8, .if_icmp .ge 16, 11, 24, 0, 0, 0, 0, 0, 0), (11, .aload_n 0, 12, 0, 0, 0, 0, 0, 0, 0), (12, .getfield 9, 15, 2, 0, 0, 0, 331, 0, 0), (15, .iload_n 3, 16, 3, 0, 0, 0, 0, 0, 0), (16, .lconst 0, 17, 0, 0, 0, 0, 0, 0, 0), (17, .lastore, 18, 0, 0, 0, 0, 0, 0, 0)]),
  (39, [(18, .iinc 3 1, 21, 3, 0, 0, 0, 0, 1, 0), (21, .goto (-19), 24, 2, 0, 0, 0, 0, 0, 0), (24, .aload_n 0, 25, 0, 0, 0, 0, 0, 0, 0), (25, .getfield 9, 28, 2, 0, 0, 0, 331, 0, 0), (28, .iconst 0, 29, 0, 0, 0, 0, 0, 0, 0), (29, .lconst 1, 30, 0, 0, 0, 0, 0, 0, 1), (30, .lastore, 31, 0, 0, 0, 0, 0, 0, 0), (31, .bipush 10, 33, 0, 0, 0, 0, 0, 10, 0), (33, .aload_n 1, 34, 1, 0, 0, 0, 0, 0, 0), (34, .getfield 52, 37, 9, 5, 0, 0, 180, 0, 0), (37, .isub, 38, 0, 0, 0, 0, 0, 0, 0), (38, .aload_n 1, 39, 1, 0, 0, 0, 0, 0, 0)]),
  (59, [(39, .getfield 55, 42, 9, 6, 0, 0, 183, 0, 0), (42, .isub, 43, 0, 0, 0, 0, 0, 0, 0), (43, .istore_n 3, 44, 3, 0, 0, 0, 0, 0, 0), (44, .iconst 0, 45, 0, 0, 0, 0, 0, 0, 0), (45, .istore 4, 47, 4, 0, 0, 0, 0, 0, 0), (47, .iload 4, 49, 4, 0, 0, 0, 0, 0, 0), (49, .iload_n 2, 50, 2, 0, 0, 0, 0, 0, 0), (50, .if_icmp .ge 110, 53, 160, 0, 0, 0, 0, 0, 0), (53, .aload_n 0, 54, 0, 0, 0, 0, 0, 0, 0), (54, .getfield 9, 57, 2, 0, 0, 0, 331, 0, 0), (57, .arraylength, 58, 0, 0, 0, 0, 0, 0, 0), (58, .iconst 1, 59, 0, 0, 0, 0, 0, 1, 0)]),
  (80, [(59, .isub, 60, 0, 0, 0, 0, 0, 0, 0), (60, .istore 5, 62, 5, 0, 0, 0, 0, 0, 0), (62, .iload 5, 64, 5, 0, 0, 0, 0, 0, 0), (64, .ifCond .lt 90, 67, 154, 0, 0, 0, 0, 0, 0), (67, .aload_n 0, 68, 0, 0, 0, 0, 0, 0, 0), (68, .getfield 9, 71, 2, 0, 0, 0, 331, 0, 0), (71, .iload 5, 73, 5, 0, 0, 0, 0, 0, 0), (73, .laload, 74, 0, 0, 0, 0, 0, 0, 0), (74, .aload_n 1, 75, 1, 0, 0, 0, 0, 0, 0), (75, .getfield 52, 78, 9, 5, 0, 0, 180, 0, 0), (78, .i2l, 79, 0, 0, 0, 0, 0, 0, 0), (79, .lmul, 80, 0, 0, 0, 0, 0, 0, 0)]),
  (100, [(80, .lstore 6, 82, 6, 0, 0, 0, 0, 0, 0), (82, .lload 6, 84, 6, 0, 0, 0, 0, 0, 0), (84, .iload 5, 86, 5, 0, 0, 0, 0, 0, 0), (86, .iconst 1, 87, 0, 0, 0, 0, 0, 1, 0), (87, .if_icmp .lt 18, 90, 105, 0, 0, 0, 0, 0, 0), (90, .aload_n 0, 91, 0, 0, 0, 0, 0, 0, 0), (91, .getfield 9, 94, 2, 0, 0, 0, 331, 0, 0), (94, .iload 5, 96, 5, 0, 0, 0, 0, 0, 0), (96, .iconst 1, 97, 0, 0, 0, 0, 0, 1, 0), (97, .isub, 98, 0, 0, 0, 0, 0, 0, 0), (98, .laload, 99, 0, 0, 0, 0, 0, 0, 0), (99, .iload_n 3, 100, 3, 0, 0, 0, 0, 0, 0)]),
  (121, [(100, .i2l, 101, 0, 0, 0, 0, 0, 0, 0), (101, .lmul, 102, 0, 0, 0, 0, 0, 0, 0), (102, .goto 4, 105, 106, 0, 0, 0, 0, 0, 0), (105, .lconst 0, 106, 0, 0, 0, 0, 0, 0, 0), (106, .ladd, 107, 0, 0, 0, 0, 0, 0, 0), (107, .lstore 6, 109, 6, 0, 0, 0, 0, 0, 0), (109, .lload 6, 111, 6, 0, 0, 0, 0, 0, 0), (111, .iload 5, 113, 5, 0, 0, 0, 0, 0, 0), (113, .iconst 2, 114, 0, 0, 0, 0, 0, 2, 0), (114, .if_icmp .lt 21, 117, 135, 0, 0, 0, 0, 0, 0), (117, .aload_n 0, 118, 0, 0, 0, 0, 0, 0, 0), (118, .getfield 9, 121, 2, 0, 0, 0, 331, 0, 0)]),
  (139, [(121, .iload 5, 123, 5, 0, 0, 0, 0, 0, 0), (123, .iconst 2, 124, 0, 0, 0, 0, 0, 2, 0), (124, .isub, 125, 0, 0, 0, 0, 0, 0, 0), (125, .laload, 126, 0, 0, 0, 0, 0, 0, 0), (126, .aload_n 1, 127, 1, 0, 0, 0, 0, 0, 0), (127, .getfield 55, 130, 9, 6, 0, 0, 183, 0, 0), (130, .i2l, 131, 0, 0, 0, 0, 0, 0, 0), (131, .lmul, 132, 0, 0, 0, 0, 0, 0, 0), (132, .goto 4, 135, 136, 0, 0, 0, 0, 0, 0), (135, .lconst 0, 136, 0, 0, 0, 0, 0, 0, 0), (136, .ladd, 137, 0, 0, 0, 0, 0, 0, 0), (137, .lstore 6, 139, 6, 0, 0, 0, 0, 0, 0)]),
  (100000, [(139, .aload_n 0, 140, 0, 0, 0, 0, 0, 0, 0), (140, .getfield 9, 143, 2, 0, 0, 0, 331, 0, 0), (143, .iload 5, 145, 5, 0, 0, 0, 0, 0, 0), (145, .lload 6, 147, 6, 0, 0, 0, 0, 0, 0), (147, .lastore, 148, 0, 0, 0, 0, 0, 0, 0), (148, .iinc 5 (-1), 151, 5, 0, 0, 0, 0, -1, 0), (151, .goto (-89), 154, 62, 0, 0, 0, 0, 0, 0), (154, .iinc 4 1, 157, 4, 0, 0, 0, 0, 1, 0), (157, .goto (-110), 160, 47, 0, 0, 0, 0, 0, 0), (160, .return_, 161, 0, 0, 0, 0, 0, 0, 0)])]
def mmX2_spread : am_M := (yX2_spread, cX2_spread, 8, none, 0, 0, 3, 2, [842, 841, 16, 84, 1], tbX2_spread)
def tbX2_reckonCosts : List (Nat × List am_I) := [(23, [(0, .bipush (-30), 2, 0, 0, 0, 0, 0, -30, 0), (2, .istore 4, 4, 4, 0, 0, 0, 0, 0, 0), (4, .iload 4, 6, 4, 0, 0, 0, 0, 0, 0), (6, .bipush 30, 8, 0, 0, 0, 0, 0, 30, 0), (8, .if_icmp .gt 71, 11, 79, 0, 0, 0, 0, 0, 0), (11, .lconst 0, 12, 0, 0, 0, 0, 0, 0, 0), (12, .lstore 5, 14, 5, 0, 0, 0, 0, 0, 0), (14, .iconst 0, 15, 0, 0, 0, 0, 0, 0, 0), (15, .istore 7, 17, 7, 0, 0, 0, 0, 0, 0), (17, .iload 7, 19, 7, 0, 0, 0, 0, 0, 0), (19, .aload_n 0, 20, 0, 0, 0, 0, 0, 0, 0), (20, .getfield 9, 23, 2, 0, 0, 0, 331, 0, 0)]),
  (43, [(23, .arraylength, 24, 0, 0, 0, 0, 0, 0, 0), (24, .if_icmp .ge 37, 27, 61, 0, 0, 0, 0, 0, 0), (27, .lload 5, 29, 5, 0, 0, 0, 0, 0, 0), (29, .aload_n 0, 30, 0, 0, 0, 0, 0, 0, 0), (30, .getfield 9, 33, 2, 0, 0, 0, 331, 0, 0), (33, .iload 7, 35, 7, 0, 0, 0, 0, 0, 0), (35, .laload, 36, 0, 0, 0, 0, 0, 0, 0), (36, .iload_n 3, 37, 3, 0, 0, 0, 0, 0, 0), (37, .iload 4, 39, 4, 0, 0, 0, 0, 0, 0), (39, .iadd, 40, 0, 0, 0, 0, 0, 0, 0), (40, .iload 7, 42, 7, 0, 0, 0, 0, 0, 0), (42, .iadd, 43, 0, 0, 0, 0, 0, 0, 0)]),
  (62, [(43, .iload_n 2, 44, 2, 0, 0, 0, 0, 0, 0), (44, .isub, 45, 0, 0, 0, 0, 0, 0, 0), (45, .iload_n 1, 46, 1, 0, 0, 0, 0, 0, 0), (46, .isub, 47, 0, 0, 0, 0, 0, 0, 0), (47, .invokestatic 58, 50, 0, 0, 8, 0, 847, 0, 0), (50, .i2l, 51, 0, 0, 0, 0, 0, 0, 0), (51, .lmul, 52, 0, 0, 0, 0, 0, 0, 0), (52, .ladd, 53, 0, 0, 0, 0, 0, 0, 0), (53, .lstore 5, 55, 5, 0, 0, 0, 0, 0, 0), (55, .iinc 7 1, 58, 7, 0, 0, 0, 0, 1, 0), (58, .goto (-41), 61, 17, 0, 0, 0, 0, 0, 0), (61, .aload_n 0, 62, 0, 0, 0, 0, 0, 0, 0)]),
  (100000, [(62, .getfield 13, 65, 2, 1, 0, 0, 332, 0, 0), (65, .iload 4, 67, 4, 0, 0, 0, 0, 0, 0), (67, .invokestatic 36, 70, 27, 1, 1, 0, 848, 0, 0), (70, .lload 5, 72, 5, 0, 0, 0, 0, 0, 0), (72, .lastore, 73, 0, 0, 0, 0, 0, 0, 0), (73, .iinc 4 1, 76, 4, 0, 0, 0, 0, 1, 0), (76, .goto (-72), 79, 4, 0, 0, 0, 0, 0, 0), (79, .return_, 80, 0, 0, 0, 0, 0, 0, 0)])]
def mmX2_reckonCosts : am_M := (yX2_reckonCosts, cX2_reckonCosts, 8, none, 0, 0, 4, 2, [846, 845, 17, 84, 1], tbX2_reckonCosts)
def tbX2_leastAt : List (Nat × List am_I) := [(20, [(0, .aload_n 0, 1, 0, 0, 0, 0, 0, 0, 0), (1, .aload_n 1, 2, 1, 0, 0, 0, 0, 0, 0), (2, .iload_n 2, 3, 2, 0, 0, 0, 0, 0, 0), (3, .lload 4, 5, 4, 0, 0, 0, 0, 0, 0), (5, .invokevirtual 63, 8, 26, 4, 0, 2, 856, 0, 0), (8, .lstore 6, 10, 6, 0, 0, 0, 0, 0, 0), (10, .aload_n 0, 11, 0, 0, 0, 0, 0, 0, 0), (11, .iconst 0, 12, 0, 0, 0, 0, 0, 0, 0), (12, .putfield 67, 15, 2, 4, 0, 0, 335, 0, 0), (15, .iconst 1, 16, 0, 0, 0, 0, 0, 1, 0), (16, .istore 8, 18, 8, 0, 0, 0, 0, 0, 0), (18, .iload 8, 20, 8, 0, 0, 0, 0, 0, 0)]),
  (41, [(20, .iload_n 3, 21, 3, 0, 0, 0, 0, 0, 0), (21, .if_icmp .gt 64, 24, 85, 0, 0, 0, 0, 0, 0), (24, .iload 8, 26, 8, 0, 0, 0, 0, 0, 0), (26, .ineg, 27, 0, 0, 0, 0, 0, 0, 0), (27, .istore 9, 29, 9, 0, 0, 0, 0, 0, 0), (29, .iload 9, 31, 9, 0, 0, 0, 0, 0, 0), (31, .iload 8, 33, 8, 0, 0, 0, 0, 0, 0), (33, .if_icmp .gt 46, 36, 79, 0, 0, 0, 0, 0, 0), (36, .aload_n 0, 37, 0, 0, 0, 0, 0, 0, 0), (37, .aload_n 1, 38, 1, 0, 0, 0, 0, 0, 0), (38, .iload_n 2, 39, 2, 0, 0, 0, 0, 0, 0), (39, .iload 9, 41, 9, 0, 0, 0, 0, 0, 0)]),
  (64, [(41, .iadd, 42, 0, 0, 0, 0, 0, 0, 0), (42, .lload 4, 44, 4, 0, 0, 0, 0, 0, 0), (44, .invokevirtual 63, 47, 26, 4, 0, 2, 856, 0, 0), (47, .lstore 10, 49, 10, 0, 0, 0, 0, 0, 0), (49, .lload 10, 51, 10, 0, 0, 0, 0, 0, 0), (51, .lload 6, 53, 6, 0, 0, 0, 0, 0, 0), (53, .lcmp, 54, 0, 0, 0, 0, 0, 0, 0), (54, .ifCond .ge 13, 57, 67, 0, 0, 0, 0, 0, 0), (57, .lload 10, 59, 10, 0, 0, 0, 0, 0, 0), (59, .lstore 6, 61, 6, 0, 0, 0, 0, 0, 0), (61, .aload_n 0, 62, 0, 0, 0, 0, 0, 0, 0), (62, .iload 9, 64, 9, 0, 0, 0, 0, 0, 0)]),
  (100000, [(64, .putfield 67, 67, 2, 4, 0, 0, 335, 0, 0), (67, .iload 9, 69, 9, 0, 0, 0, 0, 0, 0), (69, .iconst 2, 70, 0, 0, 0, 0, 0, 2, 0), (70, .iload 8, 72, 8, 0, 0, 0, 0, 0, 0), (72, .imul, 73, 0, 0, 0, 0, 0, 0, 0), (73, .iadd, 74, 0, 0, 0, 0, 0, 0, 0), (74, .istore 9, 76, 9, 0, 0, 0, 0, 0, 0), (76, .goto (-47), 79, 29, 0, 0, 0, 0, 0, 0), (79, .iinc 8 1, 82, 8, 0, 0, 0, 0, 1, 0), (82, .goto (-64), 85, 18, 0, 0, 0, 0, 0, 0), (85, .lload 6, 87, 6, 0, 0, 0, 0, 0, 0), (87, .lreturn, 88, 0, 0, 0, 0, 0, 0, 0)])]
def mmX2_leastAt : am_M := (yX2_leastAt, cX2_leastAt, 12, some .long, 0, 0, 5, 2, [855, 854, 18, 84, 1], tbX2_leastAt)
def tbX2_hopedFor : List (Nat × List am_I) := [(22, [(0, .bipush 10, 2, 0, 0, 0, 0, 0, 10, 0), (2, .aload_n 1, 3, 1, 0, 0, 0, 0, 0, 0), (3, .getfield 52, 6, 9, 5, 0, 0, 180, 0, 0), (6, .isub, 7, 0, 0, 0, 0, 0, 0, 0), (7, .aload_n 1, 8, 1, 0, 0, 0, 0, 0, 0), (8, .getfield 55, 11, 9, 6, 0, 0, 183, 0, 0), (11, .isub, 12, 0, 0, 0, 0, 0, 0, 0), (12, .istore 5, 14, 5, 0, 0, 0, 0, 0, 0), (14, .aload_n 0, 15, 0, 0, 0, 0, 0, 0, 0), (15, .getfield 13, 18, 2, 1, 0, 0, 332, 0, 0), (18, .iload_n 2, 19, 2, 0, 0, 0, 0, 0, 0), (19, .invokestatic 36, 22, 27, 1, 1, 0, 848, 0, 0)]),
  (40, [(22, .laload, 23, 0, 0, 0, 0, 0, 0, 0), (23, .lload_n 3, 24, 3, 0, 0, 0, 0, 0, 0), (24, .lmul, 25, 0, 0, 0, 0, 0, 0, 0), (25, .aload_n 0, 26, 0, 0, 0, 0, 0, 0, 0), (26, .getfield 19, 29, 2, 3, 0, 0, 334, 0, 0), (29, .iload_n 2, 30, 2, 0, 0, 0, 0, 0, 0), (30, .iconst 1, 31, 0, 0, 0, 0, 0, 1, 0), (31, .isub, 32, 0, 0, 0, 0, 0, 0, 0), (32, .invokestatic 36, 35, 27, 1, 1, 0, 848, 0, 0), (35, .laload, 36, 0, 0, 0, 0, 0, 0, 0), (36, .aload_n 1, 37, 1, 0, 0, 0, 0, 0, 0), (37, .getfield 52, 40, 9, 5, 0, 0, 180, 0, 0)]),
  (57, [(40, .i2l, 41, 0, 0, 0, 0, 0, 0, 0), (41, .lmul, 42, 0, 0, 0, 0, 0, 0, 0), (42, .ladd, 43, 0, 0, 0, 0, 0, 0, 0), (43, .aload_n 0, 44, 0, 0, 0, 0, 0, 0, 0), (44, .getfield 19, 47, 2, 3, 0, 0, 334, 0, 0), (47, .iload_n 2, 48, 2, 0, 0, 0, 0, 0, 0), (48, .invokestatic 36, 51, 27, 1, 1, 0, 848, 0, 0), (51, .laload, 52, 0, 0, 0, 0, 0, 0, 0), (52, .iload 5, 54, 5, 0, 0, 0, 0, 0, 0), (54, .i2l, 55, 0, 0, 0, 0, 0, 0, 0), (55, .lmul, 56, 0, 0, 0, 0, 0, 0, 0), (56, .ladd, 57, 0, 0, 0, 0, 0, 0, 0)]),
  (75, [(57, .aload_n 0, 58, 0, 0, 0, 0, 0, 0, 0), (58, .getfield 19, 61, 2, 3, 0, 0, 334, 0, 0), (61, .iload_n 2, 62, 2, 0, 0, 0, 0, 0, 0), (62, .iconst 1, 63, 0, 0, 0, 0, 0, 1, 0), (63, .iadd, 64, 0, 0, 0, 0, 0, 0, 0), (64, .invokestatic 36, 67, 27, 1, 1, 0, 848, 0, 0), (67, .laload, 68, 0, 0, 0, 0, 0, 0, 0), (68, .aload_n 1, 69, 1, 0, 0, 0, 0, 0, 0), (69, .getfield 55, 72, 9, 6, 0, 0, 183, 0, 0), (72, .i2l, 73, 0, 0, 0, 0, 0, 0, 0), (73, .lmul, 74, 0, 0, 0, 0, 0, 0, 0), (74, .ladd, 75, 0, 0, 0, 0, 0, 0, 0)]),
  (100000, [(75, .lreturn, 76, 0, 0, 0, 0, 0, 0, 0)])]
def mmX2_hopedFor : am_M := (yX2_hopedFor, cX2_hopedFor, 6, some .long, 0, 0, 4, 2, [859, 858, 19, 84, 1], tbX2_hopedFor)
def tbX2_inReach : List (Nat × List am_I) := [(100000, [(0, .bipush 30, 2, 0, 0, 0, 0, 0, 30, 0), (2, .iload_n 0, 3, 0, 0, 0, 0, 0, 0, 0), (3, .bipush 30, 5, 0, 0, 0, 0, 0, 30, 0), (5, .invokestatic 70, 8, 134, 2, 2, 0, 851, 0, 0), (8, .iadd, 9, 0, 0, 0, 0, 0, 0, 0), (9, .ireturn, 10, 0, 0, 0, 0, 0, 0, 0)])]
def mmX2_inReach : am_M := (yX2_inReach, cX2_inReach, 1, some .int, 0, 0, 1, 2, [850, 849, 0, 84, 0], tbX2_inReach)
def tbX3_init : List (Nat × List am_I) := [(16, [(0, .aload_n 0, 1, 0, 0, 0, 0, 0, 0, 0), (1, .invokespecial 1, 4, 0, 0, 5, 0, 366, 0, 0), (4, .aload_n 0, 5, 0, 0, 0, 0, 0, 0, 0), (5, .bipush 9, 7, 0, 0, 0, 0, 0, 9, 0), (7, .newarray .int, 9, 0, 0, 0, 0, 150, 0, 0), (9, .dup, 10, 0, 0, 0, 0, 0, 0, 0), (10, .iconst 0, 11, 0, 0, 0, 0, 0, 0, 0), (11, .iconst 1, 12, 0, 0, 0, 0, 0, 1, 0), (12, .iastore, 13, 0, 0, 0, 0, 0, 0, 0), (13, .dup, 14, 0, 0, 0, 0, 0, 0, 0), (14, .iconst 1, 15, 0, 0, 0, 0, 0, 1, 0), (15, .iconst 1, 16, 0, 0, 0, 0, 0, 1, 0)]),
  (28, [(16, .iastore, 17, 0, 0, 0, 0, 0, 0, 0), (17, .dup, 18, 0, 0, 0, 0, 0, 0, 0), (18, .iconst 2, 19, 0, 0, 0, 0, 0, 2, 0), (19, .iconst 1, 20, 0, 0, 0, 0, 0, 1, 0), (20, .iastore, 21, 0, 0, 0, 0, 0, 0, 0), (21, .dup, 22, 0, 0, 0, 0, 0, 0, 0), (22, .iconst 3, 23, 0, 0, 0, 0, 0, 3, 0), (23, .iconst 1, 24, 0, 0, 0, 0, 0, 1, 0), (24, .iastore, 25, 0, 0, 0, 0, 0, 0, 0), (25, .dup, 26, 0, 0, 0, 0, 0, 0, 0), (26, .iconst 4, 27, 0, 0, 0, 0, 0, 4, 0), (27, .iconst 1, 28, 0, 0, 0, 0, 0, 1, 0)]),
  (42, [(28, .iastore, 29, 0, 0, 0, 0, 0, 0, 0), (29, .dup, 30, 0, 0, 0, 0, 0, 0, 0), (30, .iconst 5, 31, 0, 0, 0, 0, 0, 5, 0), (31, .iconst 1, 32, 0, 0, 0, 0, 0, 1, 0), (32, .iastore, 33, 0, 0, 0, 0, 0, 0, 0), (33, .dup, 34, 0, 0, 0, 0, 0, 0, 0), (34, .bipush 6, 36, 0, 0, 0, 0, 0, 6, 0), (36, .iconst 1, 37, 0, 0, 0, 0, 0, 1, 0), (37, .iastore, 38, 0, 0, 0, 0, 0, 0, 0), (38, .dup, 39, 0, 0, 0, 0, 0, 0, 0), (39, .bipush 7, 41, 0, 0, 0, 0, 0, 7, 0), (41, .iconst 1, 42, 0, 0, 0, 0, 0, 1, 0)]),
  (63, [(42, .iastore, 43, 0, 0, 0, 0, 0, 0, 0), (43, .dup, 44, 0, 0, 0, 0, 0, 0, 0), (44, .bipush 8, 46, 0, 0, 0, 0, 0, 8, 0), (46, .iconst 1, 47, 0, 0, 0, 0, 0, 1, 0), (47, .iastore, 48, 0, 0, 0, 0, 0, 0, 0), (48, .putfield 7, 51, 3, 0, 2, 0, 369, 0, 0), (51, .aload_n 0, 52, 0, 0, 0, 0, 0, 0, 0), (52, .new 13, 55, 1, 3, 0, 151, 367, 0, 0), (55, .dup, 56, 0, 0, 0, 0, 0, 0, 0), (56, .invokespecial 15, 59, 14, 1, 4, 2000080, 368, 0, 0), (59, .putfield 16, 62, 3, 1, 2, 0, 371, 0, 0), (62, .aload_n 0, 63, 0, 0, 0, 0, 0, 0, 0)]),
  (85, [(63, .bipush 81, 65, 0, 0, 0, 0, 0, 81, 0), (65, .newarray .int, 67, 0, 0, 0, 0, 150, 0, 0), (67, .putfield 20, 70, 3, 2, 2, 0, 373, 0, 0), (70, .aload_n 0, 71, 0, 0, 0, 0, 0, 0, 0), (71, .iconst 3, 72, 0, 0, 0, 0, 0, 3, 0), (72, .newarray .int, 74, 0, 0, 0, 0, 150, 0, 0), (74, .putfield 23, 77, 3, 3, 2, 0, 374, 0, 0), (77, .aload_n 0, 78, 0, 0, 0, 0, 0, 0, 0), (78, .iconst 3, 79, 0, 0, 0, 0, 0, 3, 0), (79, .newarray .int, 81, 0, 0, 0, 0, 150, 0, 0), (81, .putfield 26, 84, 3, 4, 2, 0, 376, 0, 0), (84, .aload_n 0, 85, 0, 0, 0, 0, 0, 0, 0)]),
  (100000, [(85, .iconst 3, 86, 0, 0, 0, 0, 0, 3, 0), (86, .newarray .int, 88, 0, 0, 0, 0, 150, 0, 0), (88, .putfield 29, 91, 3, 5, 2, 0, 378, 0, 0), (91, .aload_n 0, 92, 0, 0, 0, 0, 0, 0, 0), (92, .iconst 3, 93, 0, 0, 0, 0, 0, 3, 0), (93, .newarray .int, 95, 0, 0, 0, 0, 150, 0, 0), (95, .putfield 32, 98, 3, 6, 2, 0, 380, 0, 0), (98, .aload_n 0, 99, 0, 0, 0, 0, 0, 0, 0), (99, .iconst 4, 100, 0, 0, 0, 0, 0, 4, 0), (100, .newarray .int, 102, 0, 0, 0, 0, 150, 0, 0), (102, .putfield 35, 105, 3, 7, 2, 0, 382, 0, 0), (105, .return_, 106, 0, 0, 0, 0, 0, 0, 0)])]
def mmX3_init : am_M := (yX3_init, cX3_init, 1, none, 10, 189, 1, 3, [365, 364, 0, 86, 2], tbX3_init)
def tbX3_tabulate : List (Nat × List am_I) := [(19, [(0, .iconst 0, 1, 0, 0, 0, 0, 0, 0, 0), (1, .istore_n 1, 2, 1, 0, 0, 0, 0, 0, 0), (2, .iload_n 1, 3, 1, 0, 0, 0, 0, 0, 0), (3, .aload_n 0, 4, 0, 0, 0, 0, 0, 0, 0), (4, .getfield 20, 7, 3, 2, 0, 0, 373, 0, 0), (7, .arraylength, 8, 0, 0, 0, 0, 0, 0, 0), (8, .if_icmp .ge 68, 11, 76, 0, 0, 0, 0, 0, 0), (11, .aload_n 0, 12, 0, 0, 0, 0, 0, 0, 0), (12, .getfield 35, 15, 3, 7, 0, 0, 382, 0, 0), (15, .iconst 0, 16, 0, 0, 0, 0, 0, 0, 0), (16, .iload_n 1, 17, 1, 0, 0, 0, 0, 0, 0), (17, .bipush 27, 19, 0, 0, 0, 0, 0, 27, 0)]),
  (34, [(19, .idiv, 20, 0, 0, 0, 0, 0, 0, 0), (20, .iastore, 21, 0, 0, 0, 0, 0, 0, 0), (21, .aload_n 0, 22, 0, 0, 0, 0, 0, 0, 0), (22, .getfield 35, 25, 3, 7, 0, 0, 382, 0, 0), (25, .iconst 1, 26, 0, 0, 0, 0, 0, 1, 0), (26, .iload_n 1, 27, 1, 0, 0, 0, 0, 0, 0), (27, .bipush 9, 29, 0, 0, 0, 0, 0, 9, 0), (29, .idiv, 30, 0, 0, 0, 0, 0, 0, 0), (30, .iconst 3, 31, 0, 0, 0, 0, 0, 3, 0), (31, .irem, 32, 0, 0, 0, 0, 0, 0, 0), (32, .iastore, 33, 0, 0, 0, 0, 0, 0, 0), (33, .aload_n 0, 34, 0, 0, 0, 0, 0, 0, 0)]),
  (50, [(34, .getfield 35, 37, 3, 7, 0, 0, 382, 0, 0), (37, .iconst 2, 38, 0, 0, 0, 0, 0, 2, 0), (38, .iload_n 1, 39, 1, 0, 0, 0, 0, 0, 0), (39, .iconst 3, 40, 0, 0, 0, 0, 0, 3, 0), (40, .idiv, 41, 0, 0, 0, 0, 0, 0, 0), (41, .iconst 3, 42, 0, 0, 0, 0, 0, 3, 0), (42, .irem, 43, 0, 0, 0, 0, 0, 0, 0), (43, .iastore, 44, 0, 0, 0, 0, 0, 0, 0), (44, .aload_n 0, 45, 0, 0, 0, 0, 0, 0, 0), (45, .getfield 35, 48, 3, 7, 0, 0, 382, 0, 0), (48, .iconst 3, 49, 0, 0, 0, 0, 0, 3, 0), (49, .iload_n 1, 50, 1, 0, 0, 0, 0, 0, 0)]),
  (70, [(50, .iconst 3, 51, 0, 0, 0, 0, 0, 3, 0), (51, .irem, 52, 0, 0, 0, 0, 0, 0, 0), (52, .iastore, 53, 0, 0, 0, 0, 0, 0, 0), (53, .aload_n 0, 54, 0, 0, 0, 0, 0, 0, 0), (54, .getfield 20, 57, 3, 2, 0, 0, 373, 0, 0), (57, .iload_n 1, 58, 1, 0, 0, 0, 0, 0, 0), (58, .aload_n 0, 59, 0, 0, 0, 0, 0, 0, 0), (59, .getfield 16, 62, 3, 1, 0, 0, 371, 0, 0), (62, .aload_n 0, 63, 0, 0, 0, 0, 0, 0, 0), (63, .getfield 35, 66, 3, 7, 0, 0, 382, 0, 0), (66, .invokevirtual 38, 69, 17, 2, 0, 1, 928, 0, 0), (69, .iastore, 70, 0, 0, 0, 0, 0, 0, 0)]),
  (100000, [(70, .iinc 1 1, 73, 1, 0, 0, 0, 0, 1, 0), (73, .goto (-71), 76, 2, 0, 0, 0, 0, 0, 0), (76, .return_, 77, 0, 0, 0, 0, 0, 0, 0)])]
def mmX3_tabulate : am_M := (yX3_tabulate, cX3_tabulate, 2, none, 0, 0, 1, 3, [927, 925, 926, 86, 1], tbX3_tabulate)
def tbX3_worth : List (Nat × List am_I) := [(15, [(0, .iload_n 1, 1, 1, 0, 0, 0, 0, 0, 0), (1, .iconst 3, 2, 0, 0, 0, 0, 0, 3, 0), (2, .imul, 3, 0, 0, 0, 0, 0, 0, 0), (3, .iload_n 2, 4, 2, 0, 0, 0, 0, 0, 0), (4, .iadd, 5, 0, 0, 0, 0, 0, 0, 0), (5, .istore 5, 7, 5, 0, 0, 0, 0, 0, 0), (7, .iload 5, 9, 5, 0, 0, 0, 0, 0, 0), (9, .bipush 9, 11, 0, 0, 0, 0, 0, 9, 0), (11, .imul, 12, 0, 0, 0, 0, 0, 0, 0), (12, .iload_n 3, 13, 3, 0, 0, 0, 0, 0, 0), (13, .iconst 3, 14, 0, 0, 0, 0, 0, 3, 0), (14, .imul, 15, 0, 0, 0, 0, 0, 0, 0)]),
  (38, [(15, .iadd, 16, 0, 0, 0, 0, 0, 0, 0), (16, .iload 4, 18, 4, 0, 0, 0, 0, 0, 0), (18, .iadd, 19, 0, 0, 0, 0, 0, 0, 0), (19, .istore 6, 21, 6, 0, 0, 0, 0, 0, 0), (21, .iload 6, 23, 6, 0, 0, 0, 0, 0, 0), (23, .ifCond .lt 23, 26, 46, 0, 0, 0, 0, 0, 0), (26, .iload 6, 28, 6, 0, 0, 0, 0, 0, 0), (28, .aload_n 0, 29, 0, 0, 0, 0, 0, 0, 0), (29, .getfield 20, 32, 3, 2, 0, 0, 373, 0, 0), (32, .arraylength, 33, 0, 0, 0, 0, 0, 0, 0), (33, .if_icmp .ge 13, 36, 46, 0, 0, 0, 0, 0, 0), (36, .iload 5, 38, 5, 0, 0, 0, 0, 0, 0)]),
  (59, [(38, .aload_n 0, 39, 0, 0, 0, 0, 0, 0, 0), (39, .getfield 7, 42, 3, 0, 0, 0, 369, 0, 0), (42, .arraylength, 43, 0, 0, 0, 0, 0, 0, 0), (43, .if_icmp .lt 7, 46, 50, 0, 0, 0, 0, 0, 0), (46, .lconst 0, 47, 0, 0, 0, 0, 0, 0, 0), (47, .goto 20, 50, 67, 0, 0, 0, 0, 0, 0), (50, .aload_n 0, 51, 0, 0, 0, 0, 0, 0, 0), (51, .getfield 7, 54, 3, 0, 0, 0, 369, 0, 0), (54, .iload 5, 56, 5, 0, 0, 0, 0, 0, 0), (56, .iaload, 57, 0, 0, 0, 0, 0, 0, 0), (57, .i2l, 58, 0, 0, 0, 0, 0, 0, 0), (58, .aload_n 0, 59, 0, 0, 0, 0, 0, 0, 0)]),
  (100000, [(59, .getfield 20, 62, 3, 2, 0, 0, 373, 0, 0), (62, .iload 6, 64, 6, 0, 0, 0, 0, 0, 0), (64, .iaload, 65, 0, 0, 0, 0, 0, 0, 0), (65, .i2l, 66, 0, 0, 0, 0, 0, 0, 0), (66, .lmul, 67, 0, 0, 0, 0, 0, 0, 0), (67, .lreturn, 68, 0, 0, 0, 0, 0, 0, 0)])]
def mmX3_worth : am_M := (yX3_worth, cX3_worth, 7, some .long, 0, 0, 5, 3, [948, 947, 22, 86, 1], tbX3_worth)
def tbX3_sum : List (Nat × List am_I) := [(18, [(0, .lconst 0, 1, 0, 0, 0, 0, 0, 0, 0), (1, .lstore_n 1, 2, 1, 0, 0, 0, 0, 0, 0), (2, .iconst 0, 3, 0, 0, 0, 0, 0, 0, 0), (3, .istore_n 3, 4, 3, 0, 0, 0, 0, 0, 0), (4, .iload_n 3, 5, 3, 0, 0, 0, 0, 0, 0), (5, .iconst 3, 6, 0, 0, 0, 0, 0, 3, 0), (6, .if_icmp .ge 47, 9, 53, 0, 0, 0, 0, 0, 0), (9, .iconst 0, 10, 0, 0, 0, 0, 0, 0, 0), (10, .istore 4, 12, 4, 0, 0, 0, 0, 0, 0), (12, .iload 4, 14, 4, 0, 0, 0, 0, 0, 0), (14, .iconst 3, 15, 0, 0, 0, 0, 0, 3, 0), (15, .if_icmp .ge 32, 18, 47, 0, 0, 0, 0, 0, 0)]),
  (36, [(18, .lload_n 1, 19, 1, 0, 0, 0, 0, 0, 0), (19, .aload_n 0, 20, 0, 0, 0, 0, 0, 0, 0), (20, .iload_n 3, 21, 3, 0, 0, 0, 0, 0, 0), (21, .iload 4, 23, 4, 0, 0, 0, 0, 0, 0), (23, .aload_n 0, 24, 0, 0, 0, 0, 0, 0, 0), (24, .getfield 23, 27, 3, 3, 0, 0, 374, 0, 0), (27, .iload_n 3, 28, 3, 0, 0, 0, 0, 0, 0), (28, .iaload, 29, 0, 0, 0, 0, 0, 0, 0), (29, .aload_n 0, 30, 0, 0, 0, 0, 0, 0, 0), (30, .getfield 26, 33, 3, 4, 0, 0, 376, 0, 0), (33, .iload 4, 35, 4, 0, 0, 0, 0, 0, 0), (35, .iaload, 36, 0, 0, 0, 0, 0, 0, 0)]),
  (100000, [(36, .invokevirtual 42, 39, 30, 5, 0, 3, 945, 0, 0), (39, .ladd, 40, 0, 0, 0, 0, 0, 0, 0), (40, .lstore_n 1, 41, 1, 0, 0, 0, 0, 0, 0), (41, .iinc 4 1, 44, 4, 0, 0, 0, 0, 1, 0), (44, .goto (-32), 47, 12, 0, 0, 0, 0, 0, 0), (47, .iinc 3 1, 50, 3, 0, 0, 0, 0, 1, 0), (50, .goto (-46), 53, 4, 0, 0, 0, 0, 0, 0), (53, .lload_n 1, 54, 1, 0, 0, 0, 0, 0, 0), (54, .lreturn, 55, 0, 0, 0, 0, 0, 0, 0)])]
def mmX3_sum : am_M := (yX3_sum, cX3_sum, 5, some .long, 0, 0, 1, 3, [952, 950, 951, 86, 1], tbX3_sum)
def tbX3_brings : List (Nat × List am_I) := [(20, [(0, .lconst 0, 1, 0, 0, 0, 0, 0, 0, 0), (1, .lstore 4, 3, 4, 0, 0, 0, 0, 0, 0), (3, .iconst 0, 4, 0, 0, 0, 0, 0, 0, 0), (4, .istore 6, 6, 6, 0, 0, 0, 0, 0, 0), (6, .iload 6, 8, 6, 0, 0, 0, 0, 0, 0), (8, .iconst 3, 9, 0, 0, 0, 0, 0, 3, 0), (9, .if_icmp .ge 51, 12, 60, 0, 0, 0, 0, 0, 0), (12, .lload 4, 14, 4, 0, 0, 0, 0, 0, 0), (14, .iload_n 1, 15, 1, 0, 0, 0, 0, 0, 0), (15, .ifCond .eq 21, 18, 36, 0, 0, 0, 0, 0, 0), (18, .aload_n 0, 19, 0, 0, 0, 0, 0, 0, 0), (19, .iload_n 2, 20, 2, 0, 0, 0, 0, 0, 0)]),
  (41, [(20, .iload 6, 22, 6, 0, 0, 0, 0, 0, 0), (22, .iload_n 3, 23, 3, 0, 0, 0, 0, 0, 0), (23, .aload_n 0, 24, 0, 0, 0, 0, 0, 0, 0), (24, .getfield 26, 27, 3, 4, 0, 0, 376, 0, 0), (27, .iload 6, 29, 6, 0, 0, 0, 0, 0, 0), (29, .iaload, 30, 0, 0, 0, 0, 0, 0, 0), (30, .invokevirtual 42, 33, 30, 5, 0, 3, 945, 0, 0), (33, .goto 18, 36, 51, 0, 0, 0, 0, 0, 0), (36, .aload_n 0, 37, 0, 0, 0, 0, 0, 0, 0), (37, .iload 6, 39, 6, 0, 0, 0, 0, 0, 0), (39, .iload_n 2, 40, 2, 0, 0, 0, 0, 0, 0), (40, .aload_n 0, 41, 0, 0, 0, 0, 0, 0, 0)]),
  (100000, [(41, .getfield 23, 44, 3, 3, 0, 0, 374, 0, 0), (44, .iload 6, 46, 6, 0, 0, 0, 0, 0, 0), (46, .iaload, 47, 0, 0, 0, 0, 0, 0, 0), (47, .iload_n 3, 48, 3, 0, 0, 0, 0, 0, 0), (48, .invokevirtual 42, 51, 30, 5, 0, 3, 945, 0, 0), (51, .ladd, 52, 0, 0, 0, 0, 0, 0, 0), (52, .lstore 4, 54, 4, 0, 0, 0, 0, 0, 0), (54, .iinc 6 1, 57, 6, 0, 0, 0, 0, 1, 0), (57, .goto (-51), 60, 6, 0, 0, 0, 0, 0, 0), (60, .lload 4, 62, 4, 0, 0, 0, 0, 0, 0), (62, .lreturn, 63, 0, 0, 0, 0, 0, 0, 0)])]
def mmX3_brings : am_M := (yX3_brings, cX3_brings, 7, some .long, 0, 0, 4, 3, [944, 943, 21, 86, 1], tbX3_brings)
def tbX3_bestThing : List (Nat × List am_I) := [(20, [(0, .iconst 0, 1, 0, 0, 0, 0, 0, 0, 0), (1, .istore 4, 3, 4, 0, 0, 0, 0, 0, 0), (3, .iconst 1, 4, 0, 0, 0, 0, 0, 1, 0), (4, .istore 5, 6, 5, 0, 0, 0, 0, 0, 0), (6, .iload 5, 8, 5, 0, 0, 0, 0, 0, 0), (8, .iconst 3, 9, 0, 0, 0, 0, 0, 3, 0), (9, .if_icmp .ge 33, 12, 42, 0, 0, 0, 0, 0, 0), (12, .aload_n 0, 13, 0, 0, 0, 0, 0, 0, 0), (13, .iload_n 1, 14, 1, 0, 0, 0, 0, 0, 0), (14, .iload_n 2, 15, 2, 0, 0, 0, 0, 0, 0), (15, .iload 5, 17, 5, 0, 0, 0, 0, 0, 0), (17, .invokevirtual 46, 20, 32, 4, 0, 3, 941, 0, 0)]),
  (43, [(20, .aload_n 0, 21, 0, 0, 0, 0, 0, 0, 0), (21, .iload_n 1, 22, 1, 0, 0, 0, 0, 0, 0), (22, .iload_n 2, 23, 2, 0, 0, 0, 0, 0, 0), (23, .iload 4, 25, 4, 0, 0, 0, 0, 0, 0), (25, .invokevirtual 46, 28, 32, 4, 0, 3, 941, 0, 0), (28, .lcmp, 29, 0, 0, 0, 0, 0, 0, 0), (29, .ifCond .le 7, 32, 36, 0, 0, 0, 0, 0, 0), (32, .iload 5, 34, 5, 0, 0, 0, 0, 0, 0), (34, .istore 4, 36, 4, 0, 0, 0, 0, 0, 0), (36, .iinc 5 1, 39, 5, 0, 0, 0, 0, 1, 0), (39, .goto (-33), 42, 6, 0, 0, 0, 0, 0, 0), (42, .aload_n 0, 43, 0, 0, 0, 0, 0, 0, 0)]),
  (62, [(43, .iload_n 1, 44, 1, 0, 0, 0, 0, 0, 0), (44, .iload_n 2, 45, 2, 0, 0, 0, 0, 0, 0), (45, .iload_n 3, 46, 3, 0, 0, 0, 0, 0, 0), (46, .invokevirtual 46, 49, 32, 4, 0, 3, 941, 0, 0), (49, .aload_n 0, 50, 0, 0, 0, 0, 0, 0, 0), (50, .iload_n 1, 51, 1, 0, 0, 0, 0, 0, 0), (51, .iload_n 2, 52, 2, 0, 0, 0, 0, 0, 0), (52, .iload 4, 54, 4, 0, 0, 0, 0, 0, 0), (54, .invokevirtual 46, 57, 32, 4, 0, 3, 941, 0, 0), (57, .lcmp, 58, 0, 0, 0, 0, 0, 0, 0), (58, .ifCond .ne 7, 61, 65, 0, 0, 0, 0, 0, 0), (61, .iload_n 3, 62, 3, 0, 0, 0, 0, 0, 0)]),
  (100000, [(62, .goto 5, 65, 67, 0, 0, 0, 0, 0, 0), (65, .iload 4, 67, 4, 0, 0, 0, 0, 0, 0), (67, .ireturn, 68, 0, 0, 0, 0, 0, 0, 0)])]
def mmX3_bestThing : am_M := (yX3_bestThing, cX3_bestThing, 6, some .int, 0, 0, 4, 3, [940, 939, 20, 86, 1], tbX3_bestThing)
def tbX3_playBest : List (Nat × List am_I) := [(18, [(0, .lconst 0, 1, 0, 0, 0, 0, 0, 0, 0), (1, .lstore_n 1, 2, 1, 0, 0, 0, 0, 0, 0), (2, .iconst 0, 3, 0, 0, 0, 0, 0, 0, 0), (3, .istore_n 3, 4, 3, 0, 0, 0, 0, 0, 0), (4, .iload_n 3, 5, 3, 0, 0, 0, 0, 0, 0), (5, .bipush 27, 7, 0, 0, 0, 0, 0, 27, 0), (7, .if_icmp .ge 117, 10, 124, 0, 0, 0, 0, 0, 0), (10, .aload_n 0, 11, 0, 0, 0, 0, 0, 0, 0), (11, .getfield 23, 14, 3, 3, 0, 0, 374, 0, 0), (14, .iconst 0, 15, 0, 0, 0, 0, 0, 0, 0), (15, .iload_n 3, 16, 3, 0, 0, 0, 0, 0, 0), (16, .bipush 9, 18, 0, 0, 0, 0, 0, 9, 0)]),
  (32, [(18, .idiv, 19, 0, 0, 0, 0, 0, 0, 0), (19, .iastore, 20, 0, 0, 0, 0, 0, 0, 0), (20, .aload_n 0, 21, 0, 0, 0, 0, 0, 0, 0), (21, .getfield 23, 24, 3, 3, 0, 0, 374, 0, 0), (24, .iconst 1, 25, 0, 0, 0, 0, 0, 1, 0), (25, .iload_n 3, 26, 3, 0, 0, 0, 0, 0, 0), (26, .iconst 3, 27, 0, 0, 0, 0, 0, 3, 0), (27, .idiv, 28, 0, 0, 0, 0, 0, 0, 0), (28, .iconst 3, 29, 0, 0, 0, 0, 0, 3, 0), (29, .irem, 30, 0, 0, 0, 0, 0, 0, 0), (30, .iastore, 31, 0, 0, 0, 0, 0, 0, 0), (31, .aload_n 0, 32, 0, 0, 0, 0, 0, 0, 0)]),
  (50, [(32, .getfield 23, 35, 3, 3, 0, 0, 374, 0, 0), (35, .iconst 2, 36, 0, 0, 0, 0, 0, 2, 0), (36, .iload_n 3, 37, 3, 0, 0, 0, 0, 0, 0), (37, .iconst 3, 38, 0, 0, 0, 0, 0, 3, 0), (38, .irem, 39, 0, 0, 0, 0, 0, 0, 0), (39, .iastore, 40, 0, 0, 0, 0, 0, 0, 0), (40, .iconst 0, 41, 0, 0, 0, 0, 0, 0, 0), (41, .istore 4, 43, 4, 0, 0, 0, 0, 0, 0), (43, .iload 4, 45, 4, 0, 0, 0, 0, 0, 0), (45, .iconst 3, 46, 0, 0, 0, 0, 0, 3, 0), (46, .if_icmp .ge 24, 49, 70, 0, 0, 0, 0, 0, 0), (49, .aload_n 0, 50, 0, 0, 0, 0, 0, 0, 0)]),
  (74, [(50, .getfield 26, 53, 3, 4, 0, 0, 376, 0, 0), (53, .iload 4, 55, 4, 0, 0, 0, 0, 0, 0), (55, .aload_n 0, 56, 0, 0, 0, 0, 0, 0, 0), (56, .iconst 0, 57, 0, 0, 0, 0, 0, 0, 0), (57, .iload 4, 59, 4, 0, 0, 0, 0, 0, 0), (59, .iconst 0, 60, 0, 0, 0, 0, 0, 0, 0), (60, .invokevirtual 50, 63, 33, 4, 0, 3, 937, 0, 0), (63, .iastore, 64, 0, 0, 0, 0, 0, 0, 0), (64, .iinc 4 1, 67, 4, 0, 0, 0, 0, 1, 0), (67, .goto (-24), 70, 43, 0, 0, 0, 0, 0, 0), (70, .aload_n 0, 71, 0, 0, 0, 0, 0, 0, 0), (71, .invokevirtual 54, 74, 31, 1, 0, 3, 949, 0, 0)]),
  (95, [(74, .lstore 4, 76, 4, 0, 0, 0, 0, 0, 0), (76, .iload_n 3, 77, 3, 0, 0, 0, 0, 0, 0), (77, .ifCond .eq 10, 80, 87, 0, 0, 0, 0, 0, 0), (80, .lload 4, 82, 4, 0, 0, 0, 0, 0, 0), (82, .lload_n 1, 83, 1, 0, 0, 0, 0, 0, 0), (83, .lcmp, 84, 0, 0, 0, 0, 0, 0, 0), (84, .ifCond .le 34, 87, 118, 0, 0, 0, 0, 0, 0), (87, .lload 4, 89, 4, 0, 0, 0, 0, 0, 0), (89, .lstore_n 1, 90, 1, 0, 0, 0, 0, 0, 0), (90, .aload_n 0, 91, 0, 0, 0, 0, 0, 0, 0), (91, .getfield 23, 94, 3, 3, 0, 0, 374, 0, 0), (94, .iconst 0, 95, 0, 0, 0, 0, 0, 0, 0)]),
  (115, [(95, .aload_n 0, 96, 0, 0, 0, 0, 0, 0, 0), (96, .getfield 29, 99, 3, 5, 0, 0, 378, 0, 0), (99, .iconst 0, 100, 0, 0, 0, 0, 0, 0, 0), (100, .iconst 3, 101, 0, 0, 0, 0, 0, 3, 0), (101, .invokestatic 58, 104, 0, 0, 11, 0, 953, 0, 0), (104, .aload_n 0, 105, 0, 0, 0, 0, 0, 0, 0), (105, .getfield 26, 108, 3, 4, 0, 0, 376, 0, 0), (108, .iconst 0, 109, 0, 0, 0, 0, 0, 0, 0), (109, .aload_n 0, 110, 0, 0, 0, 0, 0, 0, 0), (110, .getfield 32, 113, 3, 6, 0, 0, 380, 0, 0), (113, .iconst 0, 114, 0, 0, 0, 0, 0, 0, 0), (114, .iconst 3, 115, 0, 0, 0, 0, 0, 3, 0)]),
  (100000, [(115, .invokestatic 58, 118, 0, 0, 11, 0, 953, 0, 0), (118, .iinc 3 1, 121, 3, 0, 0, 0, 0, 1, 0), (121, .goto (-117), 124, 4, 0, 0, 0, 0, 0, 0), (124, .lload_n 1, 125, 1, 0, 0, 0, 0, 0, 0), (125, .lreturn, 126, 0, 0, 0, 0, 0, 0, 0)])]
def mmX3_playBest : am_M := (yX3_playBest, cX3_playBest, 6, some .long, 0, 0, 1, 3, [936, 934, 935, 86, 1], tbX3_playBest)
def tbX3_playByTurns : List (Nat × List am_I) := [(21, [(0, .iload_n 1, 1, 1, 0, 0, 0, 0, 0, 0), (1, .aload_n 0, 2, 0, 0, 0, 0, 0, 0, 0), (2, .getfield 23, 5, 3, 3, 0, 0, 374, 0, 0), (5, .invokestatic 64, 8, 38, 2, 1, 0, 967, 0, 0), (8, .iload_n 2, 9, 2, 0, 0, 0, 0, 0, 0), (9, .aload_n 0, 10, 0, 0, 0, 0, 0, 0, 0), (10, .getfield 26, 13, 3, 4, 0, 0, 376, 0, 0), (13, .invokestatic 64, 16, 38, 2, 1, 0, 967, 0, 0), (16, .iconst 0, 17, 0, 0, 0, 0, 0, 0, 0), (17, .istore_n 3, 18, 3, 0, 0, 0, 0, 0, 0), (18, .iconst 0, 19, 0, 0, 0, 0, 0, 0, 0), (19, .istore 4, 21, 4, 0, 0, 0, 0, 0, 0)]),
  (42, [(21, .iconst 0, 22, 0, 0, 0, 0, 0, 0, 0), (22, .istore 5, 24, 5, 0, 0, 0, 0, 0, 0), (24, .iload 5, 26, 5, 0, 0, 0, 0, 0, 0), (26, .ldc 68, 28, 0, 0, 0, 0, 970, 1000000, 0), (28, .if_icmp .ge 46, 31, 74, 0, 0, 0, 0, 0, 0), (31, .iload 4, 33, 4, 0, 0, 0, 0, 0, 0), (33, .iconst 2, 34, 0, 0, 0, 0, 0, 2, 0), (34, .if_icmp .ge 40, 37, 74, 0, 0, 0, 0, 0, 0), (37, .aload_n 0, 38, 0, 0, 0, 0, 0, 0, 0), (38, .iload 5, 40, 5, 0, 0, 0, 0, 0, 0), (40, .iconst 2, 41, 0, 0, 0, 0, 0, 2, 0), (41, .irem, 42, 0, 0, 0, 0, 0, 0, 0)]),
  (71, [(42, .ifCond .ne 7, 45, 49, 0, 0, 0, 0, 0, 0), (45, .iconst 1, 46, 0, 0, 0, 0, 0, 1, 0), (46, .goto 4, 49, 50, 0, 0, 0, 0, 0, 0), (49, .iconst 0, 50, 0, 0, 0, 0, 0, 0, 0), (50, .invokevirtual 69, 53, 36, 2, 0, 3, 971, 0, 0), (53, .ifCond .eq 12, 56, 65, 0, 0, 0, 0, 0, 0), (56, .iinc 3 1, 59, 3, 0, 0, 0, 0, 1, 0), (59, .iconst 0, 60, 0, 0, 0, 0, 0, 0, 0), (60, .istore 4, 62, 4, 0, 0, 0, 0, 0, 0), (62, .goto 6, 65, 68, 0, 0, 0, 0, 0, 0), (65, .iinc 4 1, 68, 4, 0, 0, 0, 0, 1, 0), (68, .iinc 5 1, 71, 5, 0, 0, 0, 0, 1, 0)]),
  (100000, [(71, .goto (-47), 74, 24, 0, 0, 0, 0, 0, 0), (74, .iload_n 3, 75, 3, 0, 0, 0, 0, 0, 0), (75, .ireturn, 76, 0, 0, 0, 0, 0, 0, 0)])]
def mmX3_playByTurns : am_M := (yX3_playByTurns, cX3_playByTurns, 6, some .int, 0, 0, 3, 3, [966, 964, 965, 86, 1], tbX3_playByTurns)
def tbX3_changes : List (Nat × List am_I) := [(21, [(0, .iload_n 1, 1, 1, 0, 0, 0, 0, 0, 0), (1, .ifCond .eq 10, 4, 11, 0, 0, 0, 0, 0, 0), (4, .aload_n 0, 5, 0, 0, 0, 0, 0, 0, 0), (5, .getfield 23, 8, 3, 3, 0, 0, 374, 0, 0), (8, .goto 7, 11, 15, 0, 0, 0, 0, 0, 0), (11, .aload_n 0, 12, 0, 0, 0, 0, 0, 0, 0), (12, .getfield 26, 15, 3, 4, 0, 0, 376, 0, 0), (15, .astore_n 2, 16, 2, 0, 0, 0, 0, 0, 0), (16, .iconst 0, 17, 0, 0, 0, 0, 0, 0, 0), (17, .istore_n 3, 18, 3, 0, 0, 0, 0, 0, 0), (18, .iconst 0, 19, 0, 0, 0, 0, 0, 0, 0), (19, .istore 4, 21, 4, 0, 0, 0, 0, 0, 0)]),
  (41, [(21, .iload 4, 23, 4, 0, 0, 0, 0, 0, 0), (23, .iconst 3, 24, 0, 0, 0, 0, 0, 3, 0), (24, .if_icmp .ge 47, 27, 71, 0, 0, 0, 0, 0, 0), (27, .aload_n 0, 28, 0, 0, 0, 0, 0, 0, 0), (28, .iload_n 1, 29, 1, 0, 0, 0, 0, 0, 0), (29, .iload 4, 31, 4, 0, 0, 0, 0, 0, 0), (31, .aload_n 2, 32, 2, 0, 0, 0, 0, 0, 0), (32, .iload 4, 34, 4, 0, 0, 0, 0, 0, 0), (34, .iaload, 35, 0, 0, 0, 0, 0, 0, 0), (35, .invokevirtual 50, 38, 33, 4, 0, 3, 937, 0, 0), (38, .istore 5, 40, 5, 0, 0, 0, 0, 0, 0), (40, .iload_n 3, 41, 3, 0, 0, 0, 0, 0, 0)]),
  (62, [(41, .ifCond .ne 12, 44, 53, 0, 0, 0, 0, 0, 0), (44, .iload 5, 46, 5, 0, 0, 0, 0, 0, 0), (46, .aload_n 2, 47, 2, 0, 0, 0, 0, 0, 0), (47, .iload 4, 49, 4, 0, 0, 0, 0, 0, 0), (49, .iaload, 50, 0, 0, 0, 0, 0, 0, 0), (50, .if_icmp .eq 7, 53, 57, 0, 0, 0, 0, 0, 0), (53, .iconst 1, 54, 0, 0, 0, 0, 0, 1, 0), (54, .goto 4, 57, 58, 0, 0, 0, 0, 0, 0), (57, .iconst 0, 58, 0, 0, 0, 0, 0, 0, 0), (58, .istore_n 3, 59, 3, 0, 0, 0, 0, 0, 0), (59, .aload_n 2, 60, 2, 0, 0, 0, 0, 0, 0), (60, .iload 4, 62, 4, 0, 0, 0, 0, 0, 0)]),
  (100000, [(62, .iload 5, 64, 5, 0, 0, 0, 0, 0, 0), (64, .iastore, 65, 0, 0, 0, 0, 0, 0, 0), (65, .iinc 4 1, 68, 4, 0, 0, 0, 0, 1, 0), (68, .goto (-47), 71, 21, 0, 0, 0, 0, 0, 0), (71, .iload_n 3, 72, 3, 0, 0, 0, 0, 0, 0), (72, .ireturn, 73, 0, 0, 0, 0, 0, 0, 0)])]
def mmX3_changes : am_M := (yX3_changes, cX3_changes, 6, some .boolean, 0, 0, 2, 3, [974, 973, 23, 86, 1], tbX3_changes)
def tbX3_mostSeeingBoth : List (Nat × List am_I) := [(15, [(0, .lconst 0, 1, 0, 0, 0, 0, 0, 0, 0), (1, .lstore_n 1, 2, 1, 0, 0, 0, 0, 0, 0), (2, .iconst 0, 3, 0, 0, 0, 0, 0, 0, 0), (3, .istore_n 3, 4, 3, 0, 0, 0, 0, 0, 0), (4, .iload_n 3, 5, 3, 0, 0, 0, 0, 0, 0), (5, .bipush 9, 7, 0, 0, 0, 0, 0, 9, 0), (7, .if_icmp .ge 69, 10, 76, 0, 0, 0, 0, 0, 0), (10, .aload_n 0, 11, 0, 0, 0, 0, 0, 0, 0), (11, .iload_n 3, 12, 3, 0, 0, 0, 0, 0, 0), (12, .iconst 3, 13, 0, 0, 0, 0, 0, 3, 0), (13, .idiv, 14, 0, 0, 0, 0, 0, 0, 0), (14, .iload_n 3, 15, 3, 0, 0, 0, 0, 0, 0)]),
  (36, [(15, .iconst 3, 16, 0, 0, 0, 0, 0, 3, 0), (16, .irem, 17, 0, 0, 0, 0, 0, 0, 0), (17, .iconst 0, 18, 0, 0, 0, 0, 0, 0, 0), (18, .iconst 0, 19, 0, 0, 0, 0, 0, 0, 0), (19, .invokevirtual 42, 22, 30, 5, 0, 3, 945, 0, 0), (22, .lstore 4, 24, 4, 0, 0, 0, 0, 0, 0), (24, .iconst 1, 25, 0, 0, 0, 0, 0, 1, 0), (25, .istore 6, 27, 6, 0, 0, 0, 0, 0, 0), (27, .iload 6, 29, 6, 0, 0, 0, 0, 0, 0), (29, .bipush 9, 31, 0, 0, 0, 0, 0, 9, 0), (31, .if_icmp .ge 34, 34, 65, 0, 0, 0, 0, 0, 0), (34, .lload 4, 36, 4, 0, 0, 0, 0, 0, 0)]),
  (50, [(36, .aload_n 0, 37, 0, 0, 0, 0, 0, 0, 0), (37, .iload_n 3, 38, 3, 0, 0, 0, 0, 0, 0), (38, .iconst 3, 39, 0, 0, 0, 0, 0, 3, 0), (39, .idiv, 40, 0, 0, 0, 0, 0, 0, 0), (40, .iload_n 3, 41, 3, 0, 0, 0, 0, 0, 0), (41, .iconst 3, 42, 0, 0, 0, 0, 0, 3, 0), (42, .irem, 43, 0, 0, 0, 0, 0, 0, 0), (43, .iload 6, 45, 6, 0, 0, 0, 0, 0, 0), (45, .iconst 3, 46, 0, 0, 0, 0, 0, 3, 0), (46, .idiv, 47, 0, 0, 0, 0, 0, 0, 0), (47, .iload 6, 49, 6, 0, 0, 0, 0, 0, 0), (49, .iconst 3, 50, 0, 0, 0, 0, 0, 3, 0)]),
  (76, [(50, .irem, 51, 0, 0, 0, 0, 0, 0, 0), (51, .invokevirtual 42, 54, 30, 5, 0, 3, 945, 0, 0), (54, .invokestatic 73, 57, 0, 0, 9, 0, 987, 0, 0), (57, .lstore 4, 59, 4, 0, 0, 0, 0, 0, 0), (59, .iinc 6 1, 62, 6, 0, 0, 0, 0, 1, 0), (62, .goto (-35), 65, 27, 0, 0, 0, 0, 0, 0), (65, .lload_n 1, 66, 1, 0, 0, 0, 0, 0, 0), (66, .lload 4, 68, 4, 0, 0, 0, 0, 0, 0), (68, .ladd, 69, 0, 0, 0, 0, 0, 0, 0), (69, .lstore_n 1, 70, 1, 0, 0, 0, 0, 0, 0), (70, .iinc 3 1, 73, 3, 0, 0, 0, 0, 1, 0), (73, .goto (-69), 76, 4, 0, 0, 0, 0, 0, 0)]),
  (100000, [(76, .lload_n 1, 77, 1, 0, 0, 0, 0, 0, 0), (77, .lreturn, 78, 0, 0, 0, 0, 0, 0, 0)])]
def mmX3_mostSeeingBoth : am_M := (yX3_mostSeeingBoth, cX3_mostSeeingBoth, 7, some .long, 0, 0, 1, 3, [986, 984, 985, 86, 1], tbX3_mostSeeingBoth)
def tbX3_spell : List (Nat × List am_I) := [(15, [(0, .aload_n 1, 1, 1, 0, 0, 0, 0, 0, 0), (1, .iconst 0, 2, 0, 0, 0, 0, 0, 0, 0), (2, .iload_n 0, 3, 0, 0, 0, 0, 0, 0, 0), (3, .bipush 100, 5, 0, 0, 0, 0, 0, 100, 0), (5, .idiv, 6, 0, 0, 0, 0, 0, 0, 0), (6, .iastore, 7, 0, 0, 0, 0, 0, 0, 0), (7, .aload_n 1, 8, 1, 0, 0, 0, 0, 0, 0), (8, .iconst 1, 9, 0, 0, 0, 0, 0, 1, 0), (9, .iload_n 0, 10, 0, 0, 0, 0, 0, 0, 0), (10, .bipush 10, 12, 0, 0, 0, 0, 0, 10, 0), (12, .idiv, 13, 0, 0, 0, 0, 0, 0, 0), (13, .bipush 10, 15, 0, 0, 0, 0, 0, 10, 0)]),
  (100000, [(15, .irem, 16, 0, 0, 0, 0, 0, 0, 0), (16, .iastore, 17, 0, 0, 0, 0, 0, 0, 0), (17, .aload_n 1, 18, 1, 0, 0, 0, 0, 0, 0), (18, .iconst 2, 19, 0, 0, 0, 0, 0, 2, 0), (19, .iload_n 0, 20, 0, 0, 0, 0, 0, 0, 0), (20, .bipush 10, 22, 0, 0, 0, 0, 0, 10, 0), (22, .irem, 23, 0, 0, 0, 0, 0, 0, 0), (23, .iastore, 24, 0, 0, 0, 0, 0, 0, 0), (24, .return_, 25, 0, 0, 0, 0, 0, 0, 0)])]
def mmX3_spell : am_M := (yX3_spell, cX3_spell, 2, none, 0, 0, 2, 3, [969, 968, 0, 86, 0], tbX3_spell)
def tbX3_ruleNumber : List (Nat × List am_I) := [(14, [(0, .aload_n 0, 1, 0, 0, 0, 0, 0, 0, 0), (1, .iconst 0, 2, 0, 0, 0, 0, 0, 0, 0), (2, .iaload, 3, 0, 0, 0, 0, 0, 0, 0), (3, .bipush 100, 5, 0, 0, 0, 0, 0, 100, 0), (5, .imul, 6, 0, 0, 0, 0, 0, 0, 0), (6, .aload_n 0, 7, 0, 0, 0, 0, 0, 0, 0), (7, .iconst 1, 8, 0, 0, 0, 0, 0, 1, 0), (8, .iaload, 9, 0, 0, 0, 0, 0, 0, 0), (9, .bipush 10, 11, 0, 0, 0, 0, 0, 10, 0), (11, .imul, 12, 0, 0, 0, 0, 0, 0, 0), (12, .iadd, 13, 0, 0, 0, 0, 0, 0, 0), (13, .aload_n 0, 14, 0, 0, 0, 0, 0, 0, 0)]),
  (100000, [(14, .iconst 2, 15, 0, 0, 0, 0, 0, 2, 0), (15, .iaload, 16, 0, 0, 0, 0, 0, 0, 0), (16, .iadd, 17, 0, 0, 0, 0, 0, 0, 0), (17, .ireturn, 18, 0, 0, 0, 0, 0, 0, 0)])]
def mmX3_ruleNumber : am_M := (yX3_ruleNumber, cX3_ruleNumber, 1, some .int, 0, 0, 1, 3, [977, 976, 0, 86, 0], tbX3_ruleNumber)
def tbX4_init : List (Nat × List am_I) := [(16, [(0, .aload_n 0, 1, 0, 0, 0, 0, 0, 0, 0), (1, .invokespecial 1, 4, 0, 0, 5, 0, 122, 0, 0), (4, .aload_n 0, 5, 0, 0, 0, 0, 0, 0, 0), (5, .iconst 4, 6, 0, 0, 0, 0, 0, 4, 0), (6, .newarray .int, 8, 0, 0, 0, 0, 150, 0, 0), (8, .dup, 9, 0, 0, 0, 0, 0, 0, 0), (9, .iconst 0, 10, 0, 0, 0, 0, 0, 0, 0), (10, .bipush 10, 12, 0, 0, 0, 0, 0, 10, 0), (12, .iastore, 13, 0, 0, 0, 0, 0, 0, 0), (13, .dup, 14, 0, 0, 0, 0, 0, 0, 0), (14, .iconst 1, 15, 0, 0, 0, 0, 0, 1, 0), (15, .iconst 0, 16, 0, 0, 0, 0, 0, 0, 0)]),
  (100000, [(16, .iastore, 17, 0, 0, 0, 0, 0, 0, 0), (17, .dup, 18, 0, 0, 0, 0, 0, 0, 0), (18, .iconst 2, 19, 0, 0, 0, 0, 0, 2, 0), (19, .iconst 0, 20, 0, 0, 0, 0, 0, 0, 0), (20, .iastore, 21, 0, 0, 0, 0, 0, 0, 0), (21, .dup, 22, 0, 0, 0, 0, 0, 0, 0), (22, .iconst 3, 23, 0, 0, 0, 0, 0, 3, 0), (23, .iconst 0, 24, 0, 0, 0, 0, 0, 0, 0), (24, .iastore, 25, 0, 0, 0, 0, 0, 0, 0), (25, .putfield 7, 28, 4, 5, 2, 0, 135, 0, 0), (28, .return_, 29, 0, 0, 0, 0, 0, 0, 0)])]
def mmX4_init : am_M := (yX4_init, cX4_init, 1, none, 1, 4, 1, 4, [121, 120, 0, 78, 2], tbX4_init)
def tbX4_hearsAfter : List (Nat × List am_I) := [(100000, [(0, .aload_n 0, 1, 0, 0, 0, 0, 0, 0, 0), (1, .getfield 13, 4, 4, 0, 0, 0, 123, 0, 0), (4, .iconst 1, 5, 0, 0, 0, 0, 0, 1, 0), (5, .if_icmp .ge 7, 8, 12, 0, 0, 0, 0, 0, 0), (8, .iconst 1, 9, 0, 0, 0, 0, 0, 1, 0), (9, .goto 7, 12, 16, 0, 0, 0, 0, 0, 0), (12, .aload_n 0, 13, 0, 0, 0, 0, 0, 0, 0), (13, .getfield 13, 16, 4, 0, 0, 0, 123, 0, 0), (16, .ireturn, 17, 0, 0, 0, 0, 0, 0, 0)])]
def mmX4_hearsAfter : am_M := (yX4_hearsAfter, cX4_hearsAfter, 1, some .int, 0, 0, 1, 4, [716, 714, 715, 78, 1], tbX4_hearsAfter)
def tbX5_init : List (Nat × List am_I) := [(24, [(0, .aload_n 0, 1, 0, 0, 0, 0, 0, 0, 0), (1, .invokespecial 3, 4, 0, 0, 5, 0, 255, 0, 0), (4, .aload_n 0, 5, 0, 0, 0, 0, 0, 0, 0), (5, .bipush 60, 7, 0, 0, 0, 0, 0, 60, 0), (7, .newarray .int, 9, 0, 0, 0, 0, 150, 0, 0), (9, .putfield 11, 12, 5, 0, 2, 0, 258, 0, 0), (12, .aload_n 0, 13, 0, 0, 0, 0, 0, 0, 0), (13, .new 1, 16, 1, 3, 0, 151, 256, 0, 0), (16, .dup, 17, 0, 0, 0, 0, 0, 0, 0), (17, .invokespecial 15, 20, 14, 1, 4, 2000080, 257, 0, 0), (20, .putfield 16, 23, 5, 2, 2, 0, 261, 0, 0), (23, .aload_n 0, 24, 0, 0, 0, 0, 0, 0, 0)]),
  (100000, [(24, .bipush 40, 26, 0, 0, 0, 0, 0, 40, 0), (26, .newarray .int, 28, 0, 0, 0, 0, 150, 0, 0), (28, .putfield 20, 31, 5, 3, 2, 0, 262, 0, 0), (31, .aload_n 0, 32, 0, 0, 0, 0, 0, 0, 0), (32, .bipush 6, 34, 0, 0, 0, 0, 0, 6, 0), (34, .newarray .boolean, 36, 2, 0, 0, 0, 290, 0, 0), (36, .putfield 23, 39, 5, 5, 2, 0, 264, 0, 0), (39, .return_, 40, 0, 0, 0, 0, 0, 0, 0)])]
def mmX5_init : am_M := (yX5_init, cX5_init, 1, none, 6, 189, 1, 5, [254, 253, 0, 81, 2], tbX5_init)
def tbX5_addFour : List (Nat × List am_I) := [(22, [(0, .aload_n 0, 1, 0, 0, 0, 0, 0, 0, 0), (1, .getfield 27, 4, 5, 1, 0, 0, 259, 0, 0), (4, .bipush 56, 6, 0, 0, 0, 0, 0, 56, 0), (6, .if_icmp .le 5, 9, 11, 0, 0, 0, 0, 0, 0), (9, .iconst 0, 10, 0, 0, 0, 0, 0, 0, 0), (10, .ireturn, 11, 0, 0, 0, 0, 0, 0, 0), (11, .bipush 24, 13, 0, 0, 0, 0, 0, 24, 0), (13, .istore_n 2, 14, 2, 0, 0, 0, 0, 0, 0), (14, .iload_n 2, 15, 2, 0, 0, 0, 0, 0, 0), (15, .ifCond .lt 35, 18, 50, 0, 0, 0, 0, 0, 0), (18, .aload_n 0, 19, 0, 0, 0, 0, 0, 0, 0), (19, .getfield 11, 22, 5, 0, 0, 0, 258, 0, 0)]),
  (40, [(22, .aload_n 0, 23, 0, 0, 0, 0, 0, 0, 0), (23, .getfield 27, 26, 5, 1, 0, 0, 259, 0, 0), (26, .iload_n 1, 27, 1, 0, 0, 0, 0, 0, 0), (27, .iload_n 2, 28, 2, 0, 0, 0, 0, 0, 0), (28, .iushr, 29, 0, 0, 0, 0, 0, 0, 0), (29, .sipush 255, 32, 0, 0, 0, 0, 0, 255, 0), (32, .iand, 33, 0, 0, 0, 0, 0, 0, 0), (33, .iastore, 34, 0, 0, 0, 0, 0, 0, 0), (34, .aload_n 0, 35, 0, 0, 0, 0, 0, 0, 0), (35, .dup, 36, 0, 0, 0, 0, 0, 0, 0), (36, .getfield 27, 39, 5, 1, 0, 0, 259, 0, 0), (39, .iconst 1, 40, 0, 0, 0, 0, 0, 1, 0)]),
  (100000, [(40, .iadd, 41, 0, 0, 0, 0, 0, 0, 0), (41, .putfield 27, 44, 5, 1, 0, 0, 259, 0, 0), (44, .iinc 2 (-8), 47, 2, 0, 0, 0, 0, -8, 0), (47, .goto (-33), 50, 14, 0, 0, 0, 0, 0, 0), (50, .iconst 1, 51, 0, 0, 0, 0, 0, 1, 0), (51, .ireturn, 52, 0, 0, 0, 0, 0, 0, 0)])]
def mmX5_addFour : am_M := (yX5_addFour, cX5_addFour, 3, some .boolean, 0, 0, 2, 5, [480, 478, 479, 81, 1], tbX5_addFour)
def tbX5_read : List (Nat × List am_I) := [(24, [(0, .aload_n 0, 1, 0, 0, 0, 0, 0, 0, 0), (1, .invokevirtual 31, 4, 45, 1, 0, 5, 494, 0, 0), (4, .aload_n 0, 5, 0, 0, 0, 0, 0, 0, 0), (5, .getfield 27, 8, 5, 1, 0, 0, 259, 0, 0), (8, .ifCond .le 83, 11, 91, 0, 0, 0, 0, 0, 0), (11, .aload_n 0, 12, 0, 0, 0, 0, 0, 0, 0), (12, .getfield 27, 15, 5, 1, 0, 0, 259, 0, 0), (15, .bipush 40, 17, 0, 0, 0, 0, 0, 40, 0), (17, .invokestatic 34, 20, 0, 0, 7, 0, 498, 0, 0), (20, .istore_n 3, 21, 3, 0, 0, 0, 0, 0, 0), (21, .iconst 0, 22, 0, 0, 0, 0, 0, 0, 0), (22, .istore 4, 24, 4, 0, 0, 0, 0, 0, 0)]),
  (46, [(24, .iload 4, 26, 4, 0, 0, 0, 0, 0, 0), (26, .iload_n 3, 27, 3, 0, 0, 0, 0, 0, 0), (27, .if_icmp .ge 29, 30, 56, 0, 0, 0, 0, 0, 0), (30, .aload_n 0, 31, 0, 0, 0, 0, 0, 0, 0), (31, .aload_n 0, 32, 0, 0, 0, 0, 0, 0, 0), (32, .getfield 11, 35, 5, 0, 0, 0, 258, 0, 0), (35, .iload 4, 37, 4, 0, 0, 0, 0, 0, 0), (37, .iaload, 38, 0, 0, 0, 0, 0, 0, 0), (38, .aload_n 1, 39, 1, 0, 0, 0, 0, 0, 0), (39, .invokevirtual 40, 42, 46, 3, 0, 5, 501, 0, 0), (42, .ifCond .ne 8, 45, 50, 0, 0, 0, 0, 0, 0), (45, .iconst (-1), 46, 0, 0, 0, 0, 0, -1, 0)]),
  (71, [(46, .iload 4, 48, 4, 0, 0, 0, 0, 0, 0), (48, .isub, 49, 0, 0, 0, 0, 0, 0, 0), (49, .ireturn, 50, 0, 0, 0, 0, 0, 0, 0), (50, .iinc 4 1, 53, 4, 0, 0, 0, 0, 1, 0), (53, .goto (-29), 56, 24, 0, 0, 0, 0, 0, 0), (56, .aload_n 0, 57, 0, 0, 0, 0, 0, 0, 0), (57, .getfield 27, 60, 5, 1, 0, 0, 259, 0, 0), (60, .iload_n 3, 61, 3, 0, 0, 0, 0, 0, 0), (61, .if_icmp .gt 17, 64, 78, 0, 0, 0, 0, 0, 0), (64, .aload_n 0, 65, 0, 0, 0, 0, 0, 0, 0), (65, .getfield 44, 68, 5, 9, 0, 0, 268, 0, 0), (68, .ifCond .ne 10, 71, 78, 0, 0, 0, 0, 0, 0)]),
  (91, [(71, .aload_n 0, 72, 0, 0, 0, 0, 0, 0, 0), (72, .getfield 48, 75, 5, 6, 0, 0, 265, 0, 0), (75, .ifCond .le 7, 78, 82, 0, 0, 0, 0, 0, 0), (78, .iconst (-1), 79, 0, 0, 0, 0, 0, -1, 0), (79, .iload_n 3, 80, 3, 0, 0, 0, 0, 0, 0), (80, .isub, 81, 0, 0, 0, 0, 0, 0, 0), (81, .ireturn, 82, 0, 0, 0, 0, 0, 0, 0), (82, .aload_n 0, 83, 0, 0, 0, 0, 0, 0, 0), (83, .invokevirtual 51, 86, 52, 1, 0, 5, 613, 0, 0), (86, .aload_n 0, 87, 0, 0, 0, 0, 0, 0, 0), (87, .iconst 0, 88, 0, 0, 0, 0, 0, 0, 0), (88, .invokevirtual 54, 91, 54, 2, 0, 5, 621, 0, 0)]),
  (100000, [(91, .aload_n 2, 92, 2, 0, 0, 0, 0, 0, 0), (92, .aload_n 0, 93, 0, 0, 0, 0, 0, 0, 0), (93, .getfield 16, 96, 5, 2, 0, 0, 261, 0, 0), (96, .invokevirtual 58, 99, 16, 2, 0, 1, 629, 0, 0), (99, .iconst 0, 100, 0, 0, 0, 0, 0, 0, 0), (100, .ireturn, 101, 0, 0, 0, 0, 0, 0, 0)])]
def mmX5_read : am_M := (yX5_read, cX5_read, 5, some .int, 0, 0, 3, 5, [493, 491, 492, 81, 1], tbX5_read)
def tbX5_startAnew : List (Nat × List am_I) := [(20, [(0, .aload_n 0, 1, 0, 0, 0, 0, 0, 0, 0), (1, .getfield 16, 4, 5, 2, 0, 0, 261, 0, 0), (4, .iconst 0, 5, 0, 0, 0, 0, 0, 0, 0), (5, .putfield 62, 8, 1, 1, 0, 0, 158, 0, 0), (8, .aload_n 0, 9, 0, 0, 0, 0, 0, 0, 0), (9, .iconst 0, 10, 0, 0, 0, 0, 0, 0, 0), (10, .putfield 65, 13, 5, 4, 0, 0, 263, 0, 0), (13, .aload_n 0, 14, 0, 0, 0, 0, 0, 0, 0), (14, .iconst 0, 15, 0, 0, 0, 0, 0, 0, 0), (15, .putfield 48, 18, 5, 6, 0, 0, 265, 0, 0), (18, .aload_n 0, 19, 0, 0, 0, 0, 0, 0, 0), (19, .iconst 0, 20, 0, 0, 0, 0, 0, 0, 0)]),
  (100000, [(20, .putfield 68, 23, 5, 8, 0, 0, 267, 0, 0), (23, .aload_n 0, 24, 0, 0, 0, 0, 0, 0, 0), (24, .getfield 23, 27, 5, 5, 0, 0, 264, 0, 0), (27, .iconst 0, 28, 0, 0, 0, 0, 0, 0, 0), (28, .iconst 0, 29, 0, 0, 0, 0, 0, 0, 0), (29, .bastore, 30, 0, 0, 0, 0, 0, 0, 0), (30, .aload_n 0, 31, 0, 0, 0, 0, 0, 0, 0), (31, .iconst 1, 32, 0, 0, 0, 0, 0, 1, 0), (32, .putfield 44, 35, 5, 9, 1, 0, 268, 0, 0), (35, .return_, 36, 0, 0, 0, 0, 0, 0, 0)])]
def mmX5_startAnew : am_M := (yX5_startAnew, cX5_startAnew, 1, none, 0, 0, 1, 5, [497, 496, 0, 81, 1], tbX5_startAnew)
def tbX5_take : List (Nat × List am_I) := [(21, [(0, .iload_n 1, 1, 1, 0, 0, 0, 0, 0, 0), (1, .bipush 48, 3, 0, 0, 0, 0, 0, 48, 0), (3, .if_icmp .lt 18, 6, 21, 0, 0, 0, 0, 0, 0), (6, .iload_n 1, 7, 1, 0, 0, 0, 0, 0, 0), (7, .bipush 57, 9, 0, 0, 0, 0, 0, 57, 0), (9, .if_icmp .gt 12, 12, 21, 0, 0, 0, 0, 0, 0), (12, .aload_n 0, 13, 0, 0, 0, 0, 0, 0, 0), (13, .iload_n 1, 14, 1, 0, 0, 0, 0, 0, 0), (14, .bipush 48, 16, 0, 0, 0, 0, 0, 48, 0), (16, .isub, 17, 0, 0, 0, 0, 0, 0, 0), (17, .invokevirtual 71, 20, 47, 2, 0, 5, 505, 0, 0), (20, .ireturn, 21, 0, 0, 0, 0, 0, 0, 0)]),
  (100000, [(21, .aload_n 0, 22, 0, 0, 0, 0, 0, 0, 0), (22, .getfield 44, 25, 5, 9, 0, 0, 268, 0, 0), (25, .ifCond .eq 12, 28, 37, 0, 0, 0, 0, 0, 0), (28, .aload_n 0, 29, 0, 0, 0, 0, 0, 0, 0), (29, .iload_n 1, 30, 1, 0, 0, 0, 0, 0, 0), (30, .aload_n 2, 31, 2, 0, 0, 0, 0, 0, 0), (31, .invokevirtual 75, 34, 48, 3, 0, 5, 509, 0, 0), (34, .goto 8, 37, 42, 0, 0, 0, 0, 0, 0), (37, .aload_n 0, 38, 0, 0, 0, 0, 0, 0, 0), (38, .iload_n 1, 39, 1, 0, 0, 0, 0, 0, 0), (39, .invokevirtual 78, 42, 49, 2, 0, 5, 609, 0, 0), (42, .ireturn, 43, 0, 0, 0, 0, 0, 0, 0)])]
def mmX5_take : am_M := (yX5_take, cX5_take, 3, some .boolean, 0, 0, 3, 5, [504, 503, 1, 81, 1], tbX5_take)
def tbX5_takeDigit : List (Nat × List am_I) := [(22, [(0, .aload_n 0, 1, 0, 0, 0, 0, 0, 0, 0), (1, .getfield 44, 4, 5, 9, 0, 0, 268, 0, 0), (4, .ifCond .eq 20, 7, 24, 0, 0, 0, 0, 0, 0), (7, .aload_n 0, 8, 0, 0, 0, 0, 0, 0, 0), (8, .iconst 0, 9, 0, 0, 0, 0, 0, 0, 0), (9, .putfield 44, 12, 5, 9, 1, 0, 268, 0, 0), (12, .aload_n 0, 13, 0, 0, 0, 0, 0, 0, 0), (13, .iload_n 1, 14, 1, 0, 0, 0, 0, 0, 0), (14, .putfield 81, 17, 5, 7, 0, 0, 266, 0, 0), (17, .aload_n 0, 18, 0, 0, 0, 0, 0, 0, 0), (18, .iconst 1, 19, 0, 0, 0, 0, 0, 1, 0), (19, .putfield 68, 22, 5, 8, 0, 0, 267, 0, 0)]),
  (42, [(22, .iconst 1, 23, 0, 0, 0, 0, 0, 1, 0), (23, .ireturn, 24, 0, 0, 0, 0, 0, 0, 0), (24, .aload_n 0, 25, 0, 0, 0, 0, 0, 0, 0), (25, .getfield 68, 28, 5, 8, 0, 0, 267, 0, 0), (28, .ifCond .eq 11, 31, 39, 0, 0, 0, 0, 0, 0), (31, .aload_n 0, 32, 0, 0, 0, 0, 0, 0, 0), (32, .getfield 68, 35, 5, 8, 0, 0, 267, 0, 0), (35, .iconst 3, 36, 0, 0, 0, 0, 0, 3, 0), (36, .if_icmp .lt 5, 39, 41, 0, 0, 0, 0, 0, 0), (39, .iconst 0, 40, 0, 0, 0, 0, 0, 0, 0), (40, .ireturn, 41, 0, 0, 0, 0, 0, 0, 0), (41, .aload_n 0, 42, 0, 0, 0, 0, 0, 0, 0)]),
  (61, [(42, .aload_n 0, 43, 0, 0, 0, 0, 0, 0, 0), (43, .getfield 81, 46, 5, 7, 0, 0, 266, 0, 0), (46, .bipush 10, 48, 0, 0, 0, 0, 0, 10, 0), (48, .imul, 49, 0, 0, 0, 0, 0, 0, 0), (49, .iload_n 1, 50, 1, 0, 0, 0, 0, 0, 0), (50, .iadd, 51, 0, 0, 0, 0, 0, 0, 0), (51, .putfield 81, 54, 5, 7, 0, 0, 266, 0, 0), (54, .aload_n 0, 55, 0, 0, 0, 0, 0, 0, 0), (55, .dup, 56, 0, 0, 0, 0, 0, 0, 0), (56, .getfield 68, 59, 5, 8, 0, 0, 267, 0, 0), (59, .iconst 1, 60, 0, 0, 0, 0, 0, 1, 0), (60, .iadd, 61, 0, 0, 0, 0, 0, 0, 0)]),
  (100000, [(61, .putfield 68, 64, 5, 8, 0, 0, 267, 0, 0), (64, .iconst 1, 65, 0, 0, 0, 0, 0, 1, 0), (65, .ireturn, 66, 0, 0, 0, 0, 0, 0, 0)])]
def mmX5_takeDigit : am_M := (yX5_takeDigit, cX5_takeDigit, 2, some .boolean, 0, 0, 2, 5, [508, 507, 2, 81, 1], tbX5_takeDigit)
def tbX5_takeAhead : List (Nat × List am_I) := [(25, [(0, .iload_n 1, 1, 1, 0, 0, 0, 0, 0, 0), (1, .bipush 33, 3, 0, 0, 0, 0, 0, 33, 0), (3, .if_icmp .eq 9, 6, 12, 0, 0, 0, 0, 0, 0), (6, .iload_n 1, 7, 1, 0, 0, 0, 0, 0, 0), (7, .bipush 45, 9, 0, 0, 0, 0, 0, 45, 0), (9, .if_icmp .ne 24, 12, 33, 0, 0, 0, 0, 0, 0), (12, .aload_n 0, 13, 0, 0, 0, 0, 0, 0, 0), (13, .iload_n 1, 14, 1, 0, 0, 0, 0, 0, 0), (14, .bipush 33, 16, 0, 0, 0, 0, 0, 33, 0), (16, .if_icmp .ne 9, 19, 25, 0, 0, 0, 0, 0, 0), (19, .sipush 2033, 22, 0, 0, 0, 0, 0, 2033, 0), (22, .goto 6, 25, 28, 0, 0, 0, 0, 0, 0)]),
  (46, [(25, .sipush 2110, 28, 0, 0, 0, 0, 0, 2110, 0), (28, .invokevirtual 84, 31, 53, 2, 0, 5, 513, 0, 0), (31, .iconst 1, 32, 0, 0, 0, 0, 0, 1, 0), (32, .ireturn, 33, 0, 0, 0, 0, 0, 0, 0), (33, .iload_n 1, 34, 1, 0, 0, 0, 0, 0, 0), (34, .bipush 40, 36, 0, 0, 0, 0, 0, 40, 0), (36, .if_icmp .ne 8, 39, 44, 0, 0, 0, 0, 0, 0), (39, .aload_n 0, 40, 0, 0, 0, 0, 0, 0, 0), (40, .invokevirtual 87, 43, 50, 1, 0, 5, 517, 0, 0), (43, .ireturn, 44, 0, 0, 0, 0, 0, 0, 0), (44, .aload_n 2, 45, 2, 0, 0, 0, 0, 0, 0), (45, .iload_n 1, 46, 1, 0, 0, 0, 0, 0, 0)]),
  (66, [(46, .i2c, 47, 0, 0, 0, 0, 0, 0, 0), (47, .invokevirtual 91, 50, 0, 0, 16, 0, 521, 0, 0), (50, .istore_n 3, 51, 3, 0, 0, 0, 0, 0, 0), (51, .iload_n 3, 52, 3, 0, 0, 0, 0, 0, 0), (52, .ifCond .ge 5, 55, 57, 0, 0, 0, 0, 0, 0), (55, .iconst 0, 56, 0, 0, 0, 0, 0, 0, 0), (56, .ireturn, 57, 0, 0, 0, 0, 0, 0, 0), (57, .aload_n 0, 58, 0, 0, 0, 0, 0, 0, 0), (58, .getfield 16, 61, 5, 2, 0, 0, 261, 0, 0), (61, .sipush 1000, 64, 0, 0, 0, 0, 0, 1000, 0), (64, .iload_n 3, 65, 3, 0, 0, 0, 0, 0, 0), (65, .iadd, 66, 0, 0, 0, 0, 0, 0, 0)]),
  (100000, [(66, .invokevirtual 97, 69, 15, 2, 0, 1, 605, 0, 0), (69, .aload_n 0, 70, 0, 0, 0, 0, 0, 0, 0), (70, .iconst 0, 71, 0, 0, 0, 0, 0, 0, 0), (71, .putfield 44, 74, 5, 9, 1, 0, 268, 0, 0), (74, .iconst 1, 75, 0, 0, 0, 0, 0, 1, 0), (75, .ireturn, 76, 0, 0, 0, 0, 0, 0, 0)])]
def mmX5_takeAhead : am_M := (yX5_takeAhead, cX5_takeAhead, 4, some .boolean, 0, 0, 3, 5, [512, 511, 3, 81, 1], tbX5_takeAhead)
def tbX5_takeBehind : List (Nat × List am_I) := [(22, [(0, .aload_n 0, 1, 0, 0, 0, 0, 0, 0, 0), (1, .getfield 48, 4, 5, 6, 0, 0, 265, 0, 0), (4, .ifCond .lt 11, 7, 15, 0, 0, 0, 0, 0, 0), (7, .aload_n 0, 8, 0, 0, 0, 0, 0, 0, 0), (8, .getfield 48, 11, 5, 6, 0, 0, 265, 0, 0), (11, .iconst 5, 12, 0, 0, 0, 0, 0, 5, 0), (12, .if_icmp .le 5, 15, 17, 0, 0, 0, 0, 0, 0), (15, .iconst 0, 16, 0, 0, 0, 0, 0, 0, 0), (16, .ireturn, 17, 0, 0, 0, 0, 0, 0, 0), (17, .aload_n 0, 18, 0, 0, 0, 0, 0, 0, 0), (18, .invokevirtual 51, 21, 52, 1, 0, 5, 613, 0, 0), (21, .iload_n 1, 22, 1, 0, 0, 0, 0, 0, 0)]),
  (45, [(22, .bipush 41, 24, 0, 0, 0, 0, 0, 41, 0), (24, .if_icmp .ne 8, 27, 32, 0, 0, 0, 0, 0, 0), (27, .aload_n 0, 28, 0, 0, 0, 0, 0, 0, 0), (28, .invokevirtual 100, 31, 51, 1, 0, 5, 617, 0, 0), (31, .ireturn, 32, 0, 0, 0, 0, 0, 0, 0), (32, .iload_n 1, 33, 1, 0, 0, 0, 0, 0, 0), (33, .sipush 2000, 36, 0, 0, 0, 0, 0, 2000, 0), (36, .iadd, 37, 0, 0, 0, 0, 0, 0, 0), (37, .invokestatic 103, 40, 55, 1, 1, 0, 625, 0, 0), (40, .istore_n 2, 41, 2, 0, 0, 0, 0, 0, 0), (41, .iload_n 2, 42, 2, 0, 0, 0, 0, 0, 0), (42, .ifCond .eq 25, 45, 67, 0, 0, 0, 0, 0, 0)]),
  (67, [(45, .iload_n 2, 46, 2, 0, 0, 0, 0, 0, 0), (46, .iconst 5, 47, 0, 0, 0, 0, 0, 5, 0), (47, .if_icmp .gt 20, 50, 67, 0, 0, 0, 0, 0, 0), (50, .iload_n 2, 51, 2, 0, 0, 0, 0, 0, 0), (51, .iconst 3, 52, 0, 0, 0, 0, 0, 3, 0), (52, .if_icmp .ne 17, 55, 69, 0, 0, 0, 0, 0, 0), (55, .aload_n 0, 56, 0, 0, 0, 0, 0, 0, 0), (56, .getfield 23, 59, 5, 5, 0, 0, 264, 0, 0), (59, .aload_n 0, 60, 0, 0, 0, 0, 0, 0, 0), (60, .getfield 48, 63, 5, 6, 0, 0, 265, 0, 0), (63, .baload, 64, 0, 0, 0, 0, 0, 0, 0), (64, .ifCond .eq 5, 67, 69, 0, 0, 0, 0, 0, 0)]),
  (87, [(67, .iconst 0, 68, 0, 0, 0, 0, 0, 0, 0), (68, .ireturn, 69, 0, 0, 0, 0, 0, 0, 0), (69, .iload_n 2, 70, 2, 0, 0, 0, 0, 0, 0), (70, .iconst 3, 71, 0, 0, 0, 0, 0, 3, 0), (71, .if_icmp .gt 22, 74, 93, 0, 0, 0, 0, 0, 0), (74, .aload_n 0, 75, 0, 0, 0, 0, 0, 0, 0), (75, .getfield 23, 78, 5, 5, 0, 0, 264, 0, 0), (78, .aload_n 0, 79, 0, 0, 0, 0, 0, 0, 0), (79, .getfield 48, 82, 5, 6, 0, 0, 265, 0, 0), (82, .iload_n 2, 83, 2, 0, 0, 0, 0, 0, 0), (83, .iconst 3, 84, 0, 0, 0, 0, 0, 3, 0), (84, .if_icmp .ne 7, 87, 91, 0, 0, 0, 0, 0, 0)]),
  (107, [(87, .iconst 1, 88, 0, 0, 0, 0, 0, 1, 0), (88, .goto 4, 91, 92, 0, 0, 0, 0, 0, 0), (91, .iconst 0, 92, 0, 0, 0, 0, 0, 0, 0), (92, .bastore, 93, 0, 0, 0, 0, 0, 0, 0), (93, .aload_n 0, 94, 0, 0, 0, 0, 0, 0, 0), (94, .iload_n 2, 95, 2, 0, 0, 0, 0, 0, 0), (95, .invokevirtual 54, 98, 54, 2, 0, 5, 621, 0, 0), (98, .aload_n 0, 99, 0, 0, 0, 0, 0, 0, 0), (99, .iload_n 1, 100, 1, 0, 0, 0, 0, 0, 0), (100, .sipush 2000, 103, 0, 0, 0, 0, 0, 2000, 0), (103, .iadd, 104, 0, 0, 0, 0, 0, 0, 0), (104, .invokevirtual 84, 107, 53, 2, 0, 5, 513, 0, 0)]),
  (100000, [(107, .aload_n 0, 108, 0, 0, 0, 0, 0, 0, 0), (108, .iconst 1, 109, 0, 0, 0, 0, 0, 1, 0), (109, .putfield 44, 112, 5, 9, 1, 0, 268, 0, 0), (112, .iconst 1, 113, 0, 0, 0, 0, 0, 1, 0), (113, .ireturn, 114, 0, 0, 0, 0, 0, 0, 0)])]
def mmX5_takeBehind : am_M := (yX5_takeBehind, cX5_takeBehind, 3, some .boolean, 0, 0, 2, 5, [612, 611, 6, 81, 1], tbX5_takeBehind)
def tbX5_open : List (Nat × List am_I) := [(22, [(0, .aload_n 0, 1, 0, 0, 0, 0, 0, 0, 0), (1, .getfield 48, 4, 5, 6, 0, 0, 265, 0, 0), (4, .iconst 5, 5, 0, 0, 0, 0, 0, 5, 0), (5, .if_icmp .ge 10, 8, 15, 0, 0, 0, 0, 0, 0), (8, .aload_n 0, 9, 0, 0, 0, 0, 0, 0, 0), (9, .getfield 48, 12, 5, 6, 0, 0, 265, 0, 0), (12, .ifCond .ge 5, 15, 17, 0, 0, 0, 0, 0, 0), (15, .iconst 0, 16, 0, 0, 0, 0, 0, 0, 0), (16, .ireturn, 17, 0, 0, 0, 0, 0, 0, 0), (17, .aload_n 0, 18, 0, 0, 0, 0, 0, 0, 0), (18, .dup, 19, 0, 0, 0, 0, 0, 0, 0), (19, .getfield 48, 22, 5, 6, 0, 0, 265, 0, 0)]),
  (44, [(22, .iconst 1, 23, 0, 0, 0, 0, 0, 1, 0), (23, .iadd, 24, 0, 0, 0, 0, 0, 0, 0), (24, .putfield 48, 27, 5, 6, 0, 0, 265, 0, 0), (27, .aload_n 0, 28, 0, 0, 0, 0, 0, 0, 0), (28, .getfield 23, 31, 5, 5, 0, 0, 264, 0, 0), (31, .aload_n 0, 32, 0, 0, 0, 0, 0, 0, 0), (32, .getfield 48, 35, 5, 6, 0, 0, 265, 0, 0), (35, .iconst 0, 36, 0, 0, 0, 0, 0, 0, 0), (36, .bastore, 37, 0, 0, 0, 0, 0, 0, 0), (37, .aload_n 0, 38, 0, 0, 0, 0, 0, 0, 0), (38, .sipush 2040, 41, 0, 0, 0, 0, 0, 2040, 0), (41, .invokevirtual 84, 44, 53, 2, 0, 5, 513, 0, 0)]),
  (100000, [(44, .iconst 1, 45, 0, 0, 0, 0, 0, 1, 0), (45, .ireturn, 46, 0, 0, 0, 0, 0, 0, 0)])]
def mmX5_open : am_M := (yX5_open, cX5_open, 1, some .boolean, 0, 0, 1, 5, [520, 519, 5, 81, 1], tbX5_open)
def tbX5_close : List (Nat × List am_I) := [(20, [(0, .aload_n 0, 1, 0, 0, 0, 0, 0, 0, 0), (1, .getfield 48, 4, 5, 6, 0, 0, 265, 0, 0), (4, .ifCond .ne 5, 7, 9, 0, 0, 0, 0, 0, 0), (7, .iconst 0, 8, 0, 0, 0, 0, 0, 0, 0), (8, .ireturn, 9, 0, 0, 0, 0, 0, 0, 0), (9, .aload_n 0, 10, 0, 0, 0, 0, 0, 0, 0), (10, .dup, 11, 0, 0, 0, 0, 0, 0, 0), (11, .getfield 48, 14, 5, 6, 0, 0, 265, 0, 0), (14, .iconst 1, 15, 0, 0, 0, 0, 0, 1, 0), (15, .isub, 16, 0, 0, 0, 0, 0, 0, 0), (16, .putfield 48, 19, 5, 6, 0, 0, 265, 0, 0), (19, .aload_n 0, 20, 0, 0, 0, 0, 0, 0, 0)]),
  (100000, [(20, .iconst 1, 21, 0, 0, 0, 0, 0, 1, 0), (21, .invokevirtual 54, 24, 54, 2, 0, 5, 621, 0, 0), (24, .aload_n 0, 25, 0, 0, 0, 0, 0, 0, 0), (25, .aload_n 0, 26, 0, 0, 0, 0, 0, 0, 0), (26, .getfield 65, 29, 5, 4, 0, 0, 263, 0, 0), (29, .iconst 1, 30, 0, 0, 0, 0, 0, 1, 0), (30, .isub, 31, 0, 0, 0, 0, 0, 0, 0), (31, .iconst 0, 32, 0, 0, 0, 0, 0, 0, 0), (32, .invokestatic 106, 35, 0, 0, 6, 0, 628, 0, 0), (35, .putfield 65, 38, 5, 4, 0, 0, 263, 0, 0), (38, .iconst 1, 39, 0, 0, 0, 0, 0, 1, 0), (39, .ireturn, 40, 0, 0, 0, 0, 0, 0, 0)])]
def mmX5_close : am_M := (yX5_close, cX5_close, 1, some .boolean, 0, 0, 1, 5, [620, 619, 8, 81, 1], tbX5_close)
def tbX5_finishNumber : List (Nat × List am_I) := [(100000, [(0, .aload_n 0, 1, 0, 0, 0, 0, 0, 0, 0), (1, .getfield 68, 4, 5, 8, 0, 0, 267, 0, 0), (4, .ifCond .le 19, 7, 23, 0, 0, 0, 0, 0, 0), (7, .aload_n 0, 8, 0, 0, 0, 0, 0, 0, 0), (8, .getfield 16, 11, 5, 2, 0, 0, 261, 0, 0), (11, .aload_n 0, 12, 0, 0, 0, 0, 0, 0, 0), (12, .getfield 81, 15, 5, 7, 0, 0, 266, 0, 0), (15, .invokevirtual 97, 18, 15, 2, 0, 1, 605, 0, 0), (18, .aload_n 0, 19, 0, 0, 0, 0, 0, 0, 0), (19, .iconst 0, 20, 0, 0, 0, 0, 0, 0, 0), (20, .putfield 68, 23, 5, 8, 0, 0, 267, 0, 0), (23, .return_, 24, 0, 0, 0, 0, 0, 0, 0)])]
def mmX5_finishNumber : am_M := (yX5_finishNumber, cX5_finishNumber, 1, none, 0, 0, 1, 5, [616, 615, 7, 81, 1], tbX5_finishNumber)
def tbX5_putOff : List (Nat × List am_I) := [(22, [(0, .aload_n 0, 1, 0, 0, 0, 0, 0, 0, 0), (1, .getfield 65, 4, 5, 4, 0, 0, 263, 0, 0), (4, .aload_n 0, 5, 0, 0, 0, 0, 0, 0, 0), (5, .getfield 20, 8, 5, 3, 0, 0, 262, 0, 0), (8, .arraylength, 9, 0, 0, 0, 0, 0, 0, 0), (9, .if_icmp .ge 23, 12, 32, 0, 0, 0, 0, 0, 0), (12, .aload_n 0, 13, 0, 0, 0, 0, 0, 0, 0), (13, .getfield 20, 16, 5, 3, 0, 0, 262, 0, 0), (16, .aload_n 0, 17, 0, 0, 0, 0, 0, 0, 0), (17, .getfield 65, 20, 5, 4, 0, 0, 263, 0, 0), (20, .iload_n 1, 21, 1, 0, 0, 0, 0, 0, 0), (21, .iastore, 22, 0, 0, 0, 0, 0, 0, 0)]),
  (100000, [(22, .aload_n 0, 23, 0, 0, 0, 0, 0, 0, 0), (23, .dup, 24, 0, 0, 0, 0, 0, 0, 0), (24, .getfield 65, 27, 5, 4, 0, 0, 263, 0, 0), (27, .iconst 1, 28, 0, 0, 0, 0, 0, 1, 0), (28, .iadd, 29, 0, 0, 0, 0, 0, 0, 0), (29, .putfield 65, 32, 5, 4, 0, 0, 263, 0, 0), (32, .return_, 33, 0, 0, 0, 0, 0, 0, 0)])]
def mmX5_putOff : am_M := (yX5_putOff, cX5_putOff, 2, none, 0, 0, 2, 5, [516, 515, 4, 81, 1], tbX5_putOff)
def tbX5_finishDownTo : List (Nat × List am_I) := [(20, [(0, .aload_n 0, 1, 0, 0, 0, 0, 0, 0, 0), (1, .getfield 65, 4, 5, 4, 0, 0, 263, 0, 0), (4, .iconst 1, 5, 0, 0, 0, 0, 0, 1, 0), (5, .isub, 6, 0, 0, 0, 0, 0, 0, 0), (6, .istore_n 2, 7, 2, 0, 0, 0, 0, 0, 0), (7, .iload_n 2, 8, 2, 0, 0, 0, 0, 0, 0), (8, .ifCond .lt 52, 11, 60, 0, 0, 0, 0, 0, 0), (11, .aload_n 0, 12, 0, 0, 0, 0, 0, 0, 0), (12, .getfield 20, 15, 5, 3, 0, 0, 262, 0, 0), (15, .iload_n 2, 16, 2, 0, 0, 0, 0, 0, 0), (16, .iaload, 17, 0, 0, 0, 0, 0, 0, 0), (17, .sipush 2040, 20, 0, 0, 0, 0, 0, 2040, 0)]),
  (44, [(20, .if_icmp .eq 40, 23, 60, 0, 0, 0, 0, 0, 0), (23, .aload_n 0, 24, 0, 0, 0, 0, 0, 0, 0), (24, .getfield 20, 27, 5, 3, 0, 0, 262, 0, 0), (27, .iload_n 2, 28, 2, 0, 0, 0, 0, 0, 0), (28, .iaload, 29, 0, 0, 0, 0, 0, 0, 0), (29, .invokestatic 103, 32, 55, 1, 1, 0, 625, 0, 0), (32, .iload_n 1, 33, 1, 0, 0, 0, 0, 0, 0), (33, .if_icmp .lt 27, 36, 60, 0, 0, 0, 0, 0, 0), (36, .aload_n 0, 37, 0, 0, 0, 0, 0, 0, 0), (37, .getfield 16, 40, 5, 2, 0, 0, 261, 0, 0), (40, .aload_n 0, 41, 0, 0, 0, 0, 0, 0, 0), (41, .getfield 20, 44, 5, 3, 0, 0, 262, 0, 0)]),
  (100000, [(44, .iload_n 2, 45, 2, 0, 0, 0, 0, 0, 0), (45, .iaload, 46, 0, 0, 0, 0, 0, 0, 0), (46, .invokevirtual 97, 49, 15, 2, 0, 1, 605, 0, 0), (49, .aload_n 0, 50, 0, 0, 0, 0, 0, 0, 0), (50, .iload_n 2, 51, 2, 0, 0, 0, 0, 0, 0), (51, .putfield 65, 54, 5, 4, 0, 0, 263, 0, 0), (54, .iinc 2 (-1), 57, 2, 0, 0, 0, 0, -1, 0), (57, .goto (-50), 60, 7, 0, 0, 0, 0, 0, 0), (60, .return_, 61, 0, 0, 0, 0, 0, 0, 0)])]
def mmX5_finishDownTo : am_M := (yX5_finishDownTo, cX5_finishDownTo, 3, none, 0, 0, 2, 5, [624, 623, 9, 81, 1], tbX5_finishDownTo)
def tbX5_rankOf : List (Nat × List am_I) := [(104, [(0, .iload_n 0, 1, 0, 0, 0, 0, 0, 0, 0), (1, .sipush 2033, 4, 0, 0, 0, 0, 0, 2033, 0), (4, .if_icmp .eq 10, 7, 14, 0, 0, 0, 0, 0, 0), (7, .iload_n 0, 8, 0, 0, 0, 0, 0, 0, 0), (8, .sipush 2110, 11, 0, 0, 0, 0, 0, 2110, 0), (11, .if_icmp .ne 6, 14, 17, 0, 0, 0, 0, 0, 0), (14, .bipush 6, 16, 0, 0, 0, 0, 0, 6, 0), (16, .ireturn, 17, 0, 0, 0, 0, 0, 0, 0), (17, .iload_n 0, 18, 0, 0, 0, 0, 0, 0, 0), (18, .sipush 2000, 21, 0, 0, 0, 0, 0, 2000, 0), (21, .isub, 22, 0, 0, 0, 0, 0, 0, 0), (22, .lookupswitch 92 #[(38, 84), (42, 90), (43, 88), (45, 88), (47, 90), (60, 86), (61, 86), (62, 86), (124, 82)], 104, 0, 0, 0, 0, 0, 0, 0)]),
  (100000, [(104, .iconst 1, 105, 0, 0, 0, 0, 0, 1, 0), (105, .ireturn, 106, 0, 0, 0, 0, 0, 0, 0), (106, .iconst 2, 107, 0, 0, 0, 0, 0, 2, 0), (107, .ireturn, 108, 0, 0, 0, 0, 0, 0, 0), (108, .iconst 3, 109, 0, 0, 0, 0, 0, 3, 0), (109, .ireturn, 110, 0, 0, 0, 0, 0, 0, 0), (110, .iconst 4, 111, 0, 0, 0, 0, 0, 4, 0), (111, .ireturn, 112, 0, 0, 0, 0, 0, 0, 0), (112, .iconst 5, 113, 0, 0, 0, 0, 0, 5, 0), (113, .ireturn, 114, 0, 0, 0, 0, 0, 0, 0), (114, .iconst 0, 115, 0, 0, 0, 0, 0, 0, 0), (115, .ireturn, 116, 0, 0, 0, 0, 0, 0, 0)])]
def mmX5_rankOf : am_M := (yX5_rankOf, cX5_rankOf, 1, some .int, 0, 0, 1, 5, [627, 626, 0, 81, 0], tbX5_rankOf)
def tbX6_init : List (Nat × List am_I) := [(100000, [(0, .aload_n 0, 1, 0, 0, 0, 0, 0, 0, 0), (1, .invokespecial 3, 4, 0, 0, 5, 0, 353, 0, 0), (4, .aload_n 0, 5, 0, 0, 0, 0, 0, 0, 0), (5, .sipush 200, 8, 0, 0, 0, 0, 0, 200, 0), (8, .newarray .int, 10, 0, 0, 0, 0, 150, 0, 0), (10, .putfield 9, 13, 6, 0, 2, 0, 354, 0, 0), (13, .return_, 14, 0, 0, 0, 0, 0, 0, 0)])]
def mmX6_init : am_M := (yX6_init, cX6_init, 1, none, 1, 200, 1, 6, [352, 351, 0, 85, 2], tbX6_init)
def tbX6_swing : List (Nat × List am_I) := [(29, [(0, .aload_n 0, 1, 0, 0, 0, 0, 0, 0, 0), (1, .iload 4, 3, 4, 0, 0, 0, 0, 0, 0), (3, .ifCond .ge 7, 6, 10, 0, 0, 0, 0, 0, 0), (6, .iconst 0, 7, 0, 0, 0, 0, 0, 0, 0), (7, .goto 19, 10, 26, 0, 0, 0, 0, 0, 0), (10, .iload 4, 12, 4, 0, 0, 0, 0, 0, 0), (12, .sipush 199, 15, 0, 0, 0, 0, 0, 199, 0), (15, .if_icmp .le 9, 18, 24, 0, 0, 0, 0, 0, 0), (18, .sipush 199, 21, 0, 0, 0, 0, 0, 199, 0), (21, .goto 5, 24, 26, 0, 0, 0, 0, 0, 0), (24, .iload 4, 26, 4, 0, 0, 0, 0, 0, 0), (26, .putfield 15, 29, 6, 1, 0, 0, 355, 0, 0)]),
  (50, [(29, .aload_n 0, 30, 0, 0, 0, 0, 0, 0, 0), (30, .getfield 9, 33, 6, 0, 0, 0, 354, 0, 0), (33, .iconst 0, 34, 0, 0, 0, 0, 0, 0, 0), (34, .iload_n 3, 35, 3, 0, 0, 0, 0, 0, 0), (35, .iastore, 36, 0, 0, 0, 0, 0, 0, 0), (36, .iconst 0, 37, 0, 0, 0, 0, 0, 0, 0), (37, .istore 5, 39, 5, 0, 0, 0, 0, 0, 0), (39, .iload 5, 41, 5, 0, 0, 0, 0, 0, 0), (41, .aload_n 0, 42, 0, 0, 0, 0, 0, 0, 0), (42, .getfield 15, 45, 6, 1, 0, 0, 355, 0, 0), (45, .if_icmp .ge 69, 48, 114, 0, 0, 0, 0, 0, 0), (48, .iload 5, 50, 5, 0, 0, 0, 0, 0, 0)]),
  (74, [(50, .iload_n 1, 51, 1, 0, 0, 0, 0, 0, 0), (51, .isub, 52, 0, 0, 0, 0, 0, 0, 0), (52, .istore 6, 54, 6, 0, 0, 0, 0, 0, 0), (54, .iload 6, 56, 6, 0, 0, 0, 0, 0, 0), (56, .ifCond .lt 10, 59, 66, 0, 0, 0, 0, 0, 0), (59, .iload 6, 61, 6, 0, 0, 0, 0, 0, 0), (61, .iload 5, 63, 5, 0, 0, 0, 0, 0, 0), (63, .if_icmp .le 7, 66, 70, 0, 0, 0, 0, 0, 0), (66, .iload_n 3, 67, 3, 0, 0, 0, 0, 0, 0), (67, .goto 10, 70, 77, 0, 0, 0, 0, 0, 0), (70, .aload_n 0, 71, 0, 0, 0, 0, 0, 0, 0), (71, .getfield 9, 74, 6, 0, 0, 0, 354, 0, 0)]),
  (94, [(74, .iload 6, 76, 6, 0, 0, 0, 0, 0, 0), (76, .iaload, 77, 0, 0, 0, 0, 0, 0, 0), (77, .istore 7, 79, 7, 0, 0, 0, 0, 0, 0), (79, .aload_n 0, 80, 0, 0, 0, 0, 0, 0, 0), (80, .getfield 9, 83, 6, 0, 0, 0, 354, 0, 0), (83, .iload 5, 85, 5, 0, 0, 0, 0, 0, 0), (85, .iconst 1, 86, 0, 0, 0, 0, 0, 1, 0), (86, .iadd, 87, 0, 0, 0, 0, 0, 0, 0), (87, .aload_n 0, 88, 0, 0, 0, 0, 0, 0, 0), (88, .getfield 9, 91, 6, 0, 0, 0, 354, 0, 0), (91, .iload 5, 93, 5, 0, 0, 0, 0, 0, 0), (93, .iaload, 94, 0, 0, 0, 0, 0, 0, 0)]),
  (100000, [(94, .iload_n 2, 95, 2, 0, 0, 0, 0, 0, 0), (95, .iload 7, 97, 7, 0, 0, 0, 0, 0, 0), (97, .imul, 98, 0, 0, 0, 0, 0, 0, 0), (98, .bipush 10, 100, 0, 0, 0, 0, 0, 10, 0), (100, .idiv, 101, 0, 0, 0, 0, 0, 0, 0), (101, .isub, 102, 0, 0, 0, 0, 0, 0, 0), (102, .ldc 19, 104, 0, 0, 0, 0, 886, 99999, 0), (104, .invokestatic 20, 107, 134, 2, 2, 0, 887, 0, 0), (107, .iastore, 108, 0, 0, 0, 0, 0, 0, 0), (108, .iinc 5 1, 111, 5, 0, 0, 0, 0, 1, 0), (111, .goto (-72), 114, 39, 0, 0, 0, 0, 0, 0), (114, .return_, 115, 0, 0, 0, 0, 0, 0, 0)])]
def mmX6_swing : am_M := (yX6_swing, cX6_swing, 8, none, 0, 0, 5, 6, [885, 883, 884, 85, 1], tbX6_swing)
def tbX6_widest : List (Nat × List am_I) := [(21, [(0, .iconst 0, 1, 0, 0, 0, 0, 0, 0, 0), (1, .istore_n 3, 2, 3, 0, 0, 0, 0, 0, 0), (2, .iload_n 1, 3, 1, 0, 0, 0, 0, 0, 0), (3, .iconst 0, 4, 0, 0, 0, 0, 0, 0, 0), (4, .invokestatic 24, 7, 0, 0, 6, 0, 892, 0, 0), (7, .istore 4, 9, 4, 0, 0, 0, 0, 0, 0), (9, .iload 4, 11, 4, 0, 0, 0, 0, 0, 0), (11, .iload_n 2, 12, 2, 0, 0, 0, 0, 0, 0), (12, .if_icmp .gt 33, 15, 45, 0, 0, 0, 0, 0, 0), (15, .iload 4, 17, 4, 0, 0, 0, 0, 0, 0), (17, .aload_n 0, 18, 0, 0, 0, 0, 0, 0, 0), (18, .getfield 15, 21, 6, 1, 0, 0, 355, 0, 0)]),
  (46, [(21, .if_icmp .gt 24, 24, 45, 0, 0, 0, 0, 0, 0), (24, .iload_n 3, 25, 3, 0, 0, 0, 0, 0, 0), (25, .aload_n 0, 26, 0, 0, 0, 0, 0, 0, 0), (26, .getfield 9, 29, 6, 0, 0, 0, 354, 0, 0), (29, .iload 4, 31, 4, 0, 0, 0, 0, 0, 0), (31, .iaload, 32, 0, 0, 0, 0, 0, 0, 0), (32, .invokestatic 29, 35, 0, 0, 8, 0, 893, 0, 0), (35, .invokestatic 24, 38, 0, 0, 6, 0, 892, 0, 0), (38, .istore_n 3, 39, 3, 0, 0, 0, 0, 0, 0), (39, .iinc 4 1, 42, 4, 0, 0, 0, 0, 1, 0), (42, .goto (-33), 45, 9, 0, 0, 0, 0, 0, 0), (45, .iload_n 3, 46, 3, 0, 0, 0, 0, 0, 0)]),
  (100000, [(46, .ireturn, 47, 0, 0, 0, 0, 0, 0, 0)])]
def mmX6_widest : am_M := (yX6_widest, cX6_widest, 5, some .int, 0, 0, 3, 6, [891, 889, 890, 85, 1], tbX6_widest)
def tbX6_turns : List (Nat × List am_I) := [(18, [(0, .iconst 0, 1, 0, 0, 0, 0, 0, 0, 0), (1, .istore_n 1, 2, 1, 0, 0, 0, 0, 0, 0), (2, .iconst 0, 3, 0, 0, 0, 0, 0, 0, 0), (3, .istore_n 2, 4, 2, 0, 0, 0, 0, 0, 0), (4, .iconst 0, 5, 0, 0, 0, 0, 0, 0, 0), (5, .istore_n 3, 6, 3, 0, 0, 0, 0, 0, 0), (6, .iload_n 3, 7, 3, 0, 0, 0, 0, 0, 0), (7, .aload_n 0, 8, 0, 0, 0, 0, 0, 0, 0), (8, .getfield 15, 11, 6, 1, 0, 0, 355, 0, 0), (11, .if_icmp .gt 47, 14, 58, 0, 0, 0, 0, 0, 0), (14, .aload_n 0, 15, 0, 0, 0, 0, 0, 0, 0), (15, .getfield 9, 18, 6, 0, 0, 0, 354, 0, 0)]),
  (38, [(18, .iload_n 3, 19, 3, 0, 0, 0, 0, 0, 0), (19, .iaload, 20, 0, 0, 0, 0, 0, 0, 0), (20, .invokestatic 33, 23, 255, 1, 1, 0, 898, 0, 0), (23, .istore 4, 25, 4, 0, 0, 0, 0, 0, 0), (25, .iload_n 1, 26, 1, 0, 0, 0, 0, 0, 0), (26, .iload 4, 28, 4, 0, 0, 0, 0, 0, 0), (28, .iload_n 2, 29, 2, 0, 0, 0, 0, 0, 0), (29, .imul, 30, 0, 0, 0, 0, 0, 0, 0), (30, .ifCond .ge 7, 33, 37, 0, 0, 0, 0, 0, 0), (33, .iconst 1, 34, 0, 0, 0, 0, 0, 1, 0), (34, .goto 4, 37, 38, 0, 0, 0, 0, 0, 0), (37, .iconst 0, 38, 0, 0, 0, 0, 0, 0, 0)]),
  (100000, [(38, .iadd, 39, 0, 0, 0, 0, 0, 0, 0), (39, .istore_n 1, 40, 1, 0, 0, 0, 0, 0, 0), (40, .iload 4, 42, 4, 0, 0, 0, 0, 0, 0), (42, .ifCond .ne 7, 45, 49, 0, 0, 0, 0, 0, 0), (45, .iload_n 2, 46, 2, 0, 0, 0, 0, 0, 0), (46, .goto 5, 49, 51, 0, 0, 0, 0, 0, 0), (49, .iload 4, 51, 4, 0, 0, 0, 0, 0, 0), (51, .istore_n 2, 52, 2, 0, 0, 0, 0, 0, 0), (52, .iinc 3 1, 55, 3, 0, 0, 0, 0, 1, 0), (55, .goto (-49), 58, 6, 0, 0, 0, 0, 0, 0), (58, .iload_n 1, 59, 1, 0, 0, 0, 0, 0, 0), (59, .ireturn, 60, 0, 0, 0, 0, 0, 0, 0)])]
def mmX6_turns : am_M := (yX6_turns, cX6_turns, 5, some .int, 0, 0, 1, 6, [897, 895, 896, 85, 1], tbX6_turns)
def tbX6_calmFrom : List (Nat × List am_I) := [(20, [(0, .iconst (-1), 1, 0, 0, 0, 0, 0, -1, 0), (1, .istore_n 1, 2, 1, 0, 0, 0, 0, 0, 0), (2, .aload_n 0, 3, 0, 0, 0, 0, 0, 0, 0), (3, .getfield 15, 6, 6, 1, 0, 0, 355, 0, 0), (6, .istore_n 2, 7, 2, 0, 0, 0, 0, 0, 0), (7, .iload_n 2, 8, 2, 0, 0, 0, 0, 0, 0), (8, .ifCond .lt 24, 11, 32, 0, 0, 0, 0, 0, 0), (11, .aload_n 0, 12, 0, 0, 0, 0, 0, 0, 0), (12, .getfield 9, 15, 6, 0, 0, 0, 354, 0, 0), (15, .iload_n 2, 16, 2, 0, 0, 0, 0, 0, 0), (16, .iaload, 17, 0, 0, 0, 0, 0, 0, 0), (17, .invokestatic 29, 20, 0, 0, 8, 0, 893, 0, 0)]),
  (100000, [(20, .iconst 1, 21, 0, 0, 0, 0, 0, 1, 0), (21, .if_icmp .gt 11, 24, 32, 0, 0, 0, 0, 0, 0), (24, .iload_n 2, 25, 2, 0, 0, 0, 0, 0, 0), (25, .istore_n 1, 26, 1, 0, 0, 0, 0, 0, 0), (26, .iinc 2 (-1), 29, 2, 0, 0, 0, 0, -1, 0), (29, .goto (-22), 32, 7, 0, 0, 0, 0, 0, 0), (32, .iload_n 1, 33, 1, 0, 0, 0, 0, 0, 0), (33, .ireturn, 34, 0, 0, 0, 0, 0, 0, 0)])]
def mmX6_calmFrom : am_M := (yX6_calmFrom, cX6_calmFrom, 3, some .int, 0, 0, 1, 6, [902, 900, 901, 85, 1], tbX6_calmFrom)
def tbX7_init : List (Nat × List am_I) := [(100000, [(0, .aload_n 0, 1, 0, 0, 0, 0, 0, 0, 0), (1, .invokespecial 1, 4, 0, 0, 5, 0, 296, 0, 0), (4, .aload_n 0, 5, 0, 0, 0, 0, 0, 0, 0), (5, .bipush 6, 7, 0, 0, 0, 0, 0, 6, 0), (7, .newarray .long, 9, 1, 0, 0, 0, 306, 0, 0), (9, .putfield 7, 12, 7, 0, 2, 0, 297, 0, 0), (12, .return_, 13, 0, 0, 0, 0, 0, 0, 0)])]
def mmX7_init : am_M := (yX7_init, cX7_init, 1, none, 1, 6, 1, 7, [295, 294, 0, 82, 2], tbX7_init)
def tbX7_clear : List (Nat × List am_I) := [(100000, [(0, .aload_n 0, 1, 0, 0, 0, 0, 0, 0, 0), (1, .iconst 0, 2, 0, 0, 0, 0, 0, 0, 0), (2, .putfield 13, 5, 7, 1, 0, 0, 299, 0, 0), (5, .return_, 6, 0, 0, 0, 0, 0, 0, 0)])]
def mmX7_clear : am_M := (yX7_clear, cX7_clear, 1, none, 0, 0, 1, 7, [676, 674, 675, 82, 1], tbX7_clear)
def tbX7_add : List (Nat × List am_I) := [(22, [(0, .aload_n 0, 1, 0, 0, 0, 0, 0, 0, 0), (1, .getfield 13, 4, 7, 1, 0, 0, 299, 0, 0), (4, .aload_n 0, 5, 0, 0, 0, 0, 0, 0, 0), (5, .getfield 7, 8, 7, 0, 0, 0, 297, 0, 0), (8, .arraylength, 9, 0, 0, 0, 0, 0, 0, 0), (9, .if_icmp .ge 23, 12, 32, 0, 0, 0, 0, 0, 0), (12, .aload_n 0, 13, 0, 0, 0, 0, 0, 0, 0), (13, .getfield 7, 16, 7, 0, 0, 0, 297, 0, 0), (16, .aload_n 0, 17, 0, 0, 0, 0, 0, 0, 0), (17, .getfield 13, 20, 7, 1, 0, 0, 299, 0, 0), (20, .lload_n 1, 21, 1, 0, 0, 0, 0, 0, 0), (21, .lastore, 22, 0, 0, 0, 0, 0, 0, 0)]),
  (100000, [(22, .aload_n 0, 23, 0, 0, 0, 0, 0, 0, 0), (23, .dup, 24, 0, 0, 0, 0, 0, 0, 0), (24, .getfield 13, 27, 7, 1, 0, 0, 299, 0, 0), (27, .iconst 1, 28, 0, 0, 0, 0, 0, 1, 0), (28, .iadd, 29, 0, 0, 0, 0, 0, 0, 0), (29, .putfield 13, 32, 7, 1, 0, 0, 299, 0, 0), (32, .return_, 33, 0, 0, 0, 0, 0, 0, 0)])]
def mmX7_add : am_M := (yX7_add, cX7_add, 3, none, 0, 0, 2, 7, [680, 678, 679, 82, 1], tbX7_add)
def tbX7_tellOne : List (Nat × List am_I) := [(100000, [(0, .aload_n 0, 1, 0, 0, 0, 0, 0, 0, 0), (1, .invokevirtual 17, 4, 62, 1, 0, 7, 673, 0, 0), (4, .aload_n 0, 5, 0, 0, 0, 0, 0, 0, 0), (5, .lload_n 1, 6, 1, 0, 0, 0, 0, 0, 0), (6, .invokevirtual 20, 9, 63, 2, 0, 7, 677, 0, 0), (9, .return_, 10, 0, 0, 0, 0, 0, 0, 0)])]
def mmX7_tellOne : am_M := (yX7_tellOne, cX7_tellOne, 3, none, 0, 0, 2, 7, [672, 670, 671, 82, 1], tbX7_tellOne)
def tbX7_tellTwo : List (Nat × List am_I) := [(100000, [(0, .aload_n 0, 1, 0, 0, 0, 0, 0, 0, 0), (1, .lload_n 1, 2, 1, 0, 0, 0, 0, 0, 0), (2, .invokevirtual 24, 5, 64, 2, 0, 7, 669, 0, 0), (5, .aload_n 0, 6, 0, 0, 0, 0, 0, 0, 0), (6, .lload_n 3, 7, 3, 0, 0, 0, 0, 0, 0), (7, .invokevirtual 20, 10, 63, 2, 0, 7, 677, 0, 0), (10, .return_, 11, 0, 0, 0, 0, 0, 0, 0)])]
def mmX7_tellTwo : am_M := (yX7_tellTwo, cX7_tellTwo, 5, none, 0, 0, 3, 7, [668, 666, 667, 82, 1], tbX7_tellTwo)
def tbX7_tellThree : List (Nat × List am_I) := [(100000, [(0, .aload_n 0, 1, 0, 0, 0, 0, 0, 0, 0), (1, .lload_n 1, 2, 1, 0, 0, 0, 0, 0, 0), (2, .lload_n 3, 3, 3, 0, 0, 0, 0, 0, 0), (3, .invokevirtual 27, 6, 65, 3, 0, 7, 877, 0, 0), (6, .aload_n 0, 7, 0, 0, 0, 0, 0, 0, 0), (7, .lload 5, 9, 5, 0, 0, 0, 0, 0, 0), (9, .invokevirtual 20, 12, 63, 2, 0, 7, 677, 0, 0), (12, .return_, 13, 0, 0, 0, 0, 0, 0, 0)])]
def mmX7_tellThree : am_M := (yX7_tellThree, cX7_tellThree, 7, none, 0, 0, 4, 7, [906, 904, 905, 82, 1], tbX7_tellThree)
def tbX7_tellFraction : List (Nat × List am_I) := [(25, [(0, .lload_n 1, 1, 1, 0, 0, 0, 0, 0, 0), (1, .invokestatic 31, 4, 0, 0, 10, 0, 874, 0, 0), (4, .lstore 5, 6, 5, 0, 0, 0, 0, 0, 0), (6, .lload_n 3, 7, 3, 0, 0, 0, 0, 0, 0), (7, .invokestatic 31, 10, 0, 0, 10, 0, 874, 0, 0), (10, .lstore 7, 12, 7, 0, 0, 0, 0, 0, 0), (12, .iconst 0, 13, 0, 0, 0, 0, 0, 0, 0), (13, .istore 9, 15, 9, 0, 0, 0, 0, 0, 0), (15, .iload 9, 17, 9, 0, 0, 0, 0, 0, 0), (17, .sipush 1000, 20, 0, 0, 0, 0, 0, 1000, 0), (20, .if_icmp .ge 31, 23, 51, 0, 0, 0, 0, 0, 0), (23, .lload 7, 25, 7, 0, 0, 0, 0, 0, 0)]),
  (48, [(25, .lconst 0, 26, 0, 0, 0, 0, 0, 0, 0), (26, .lcmp, 27, 0, 0, 0, 0, 0, 0, 0), (27, .ifCond .eq 24, 30, 51, 0, 0, 0, 0, 0, 0), (30, .lload 5, 32, 5, 0, 0, 0, 0, 0, 0), (32, .lload 7, 34, 7, 0, 0, 0, 0, 0, 0), (34, .lrem, 35, 0, 0, 0, 0, 0, 0, 0), (35, .lstore 10, 37, 10, 0, 0, 0, 0, 0, 0), (37, .lload 7, 39, 7, 0, 0, 0, 0, 0, 0), (39, .lstore 5, 41, 5, 0, 0, 0, 0, 0, 0), (41, .lload 10, 43, 10, 0, 0, 0, 0, 0, 0), (43, .lstore 7, 45, 7, 0, 0, 0, 0, 0, 0), (45, .iinc 9 1, 48, 9, 0, 0, 0, 0, 1, 0)]),
  (69, [(48, .goto (-33), 51, 15, 0, 0, 0, 0, 0, 0), (51, .lload 5, 53, 5, 0, 0, 0, 0, 0, 0), (53, .lconst 0, 54, 0, 0, 0, 0, 0, 0, 0), (54, .lcmp, 55, 0, 0, 0, 0, 0, 0, 0), (55, .ifCond .ne 12, 58, 67, 0, 0, 0, 0, 0, 0), (58, .aload_n 0, 59, 0, 0, 0, 0, 0, 0, 0), (59, .lload_n 1, 60, 1, 0, 0, 0, 0, 0, 0), (60, .lload_n 3, 61, 3, 0, 0, 0, 0, 0, 0), (61, .invokevirtual 27, 64, 65, 3, 0, 7, 877, 0, 0), (64, .goto 15, 67, 79, 0, 0, 0, 0, 0, 0), (67, .aload_n 0, 68, 0, 0, 0, 0, 0, 0, 0), (68, .lload_n 1, 69, 1, 0, 0, 0, 0, 0, 0)]),
  (100000, [(69, .lload 5, 71, 5, 0, 0, 0, 0, 0, 0), (71, .ldiv, 72, 0, 0, 0, 0, 0, 0, 0), (72, .lload_n 3, 73, 3, 0, 0, 0, 0, 0, 0), (73, .lload 5, 75, 5, 0, 0, 0, 0, 0, 0), (75, .ldiv, 76, 0, 0, 0, 0, 0, 0, 0), (76, .invokevirtual 27, 79, 65, 3, 0, 7, 877, 0, 0), (79, .return_, 80, 0, 0, 0, 0, 0, 0, 0)])]
def mmX7_tellFraction : am_M := (yX7_tellFraction, cX7_tellFraction, 12, none, 0, 0, 3, 7, [873, 871, 872, 82, 1], tbX7_tellFraction)
def tbX8_init : List (Nat × List am_I) := [(100000, [(0, .aload_n 0, 1, 0, 0, 0, 0, 0, 0, 0), (1, .invokespecial 3, 4, 0, 0, 5, 0, 312, 0, 0), (4, .aload_n 0, 5, 0, 0, 0, 0, 0, 0, 0), (5, .bipush 30, 7, 0, 0, 0, 0, 0, 30, 0), (7, .newarray .int, 9, 0, 0, 0, 0, 150, 0, 0), (9, .putfield 11, 12, 8, 0, 2, 0, 313, 0, 0), (12, .aload_n 0, 13, 0, 0, 0, 0, 0, 0, 0), (13, .iconst 4, 14, 0, 0, 0, 0, 0, 4, 0), (14, .newarray .int, 16, 0, 0, 0, 0, 150, 0, 0), (16, .putfield 15, 19, 8, 1, 2, 0, 314, 0, 0), (19, .return_, 20, 0, 0, 0, 0, 0, 0, 0)])]
def mmX8_init : am_M := (yX8_init, cX8_init, 1, none, 2, 34, 1, 8, [311, 310, 0, 83, 2], tbX8_init)
def tbX8_minutes : List (Nat × List am_I) := [(19, [(0, .aload_n 1, 1, 1, 0, 0, 0, 0, 0, 0), (1, .iload_n 2, 2, 2, 0, 0, 0, 0, 0, 0), (2, .iload_n 3, 3, 3, 0, 0, 0, 0, 0, 0), (3, .invokevirtual 18, 6, 75, 3, 0, 9, 998, 0, 0), (6, .ifCond .ne 6, 9, 12, 0, 0, 0, 0, 0, 0), (9, .bipush (-2), 11, 0, 0, 0, 0, 0, -2, 0), (11, .ireturn, 12, 0, 0, 0, 0, 0, 0, 0), (12, .aload_n 0, 13, 0, 0, 0, 0, 0, 0, 0), (13, .aload_n 1, 14, 1, 0, 0, 0, 0, 0, 0), (14, .iload_n 3, 15, 3, 0, 0, 0, 0, 0, 0), (15, .invokevirtual 24, 18, 70, 3, 0, 8, 999, 0, 0), (18, .aload_n 0, 19, 0, 0, 0, 0, 0, 0, 0)]),
  (40, [(19, .iconst 0, 20, 0, 0, 0, 0, 0, 0, 0), (20, .putfield 28, 23, 8, 2, 0, 0, 316, 0, 0), (23, .aload_n 0, 24, 0, 0, 0, 0, 0, 0, 0), (24, .getfield 11, 27, 8, 0, 0, 0, 313, 0, 0), (27, .iload_n 2, 28, 2, 0, 0, 0, 0, 0, 0), (28, .iaload, 29, 0, 0, 0, 0, 0, 0, 0), (29, .istore 4, 31, 4, 0, 0, 0, 0, 0, 0), (31, .iconst 1, 32, 0, 0, 0, 0, 0, 1, 0), (32, .istore 5, 34, 5, 0, 0, 0, 0, 0, 0), (34, .iload 5, 36, 5, 0, 0, 0, 0, 0, 0), (36, .iconst 4, 37, 0, 0, 0, 0, 0, 4, 0), (37, .if_icmp .gt 46, 40, 83, 0, 0, 0, 0, 0, 0)]),
  (61, [(40, .aload_n 0, 41, 0, 0, 0, 0, 0, 0, 0), (41, .getfield 11, 44, 8, 0, 0, 0, 313, 0, 0), (44, .iload 5, 46, 5, 0, 0, 0, 0, 0, 0), (46, .bipush 6, 48, 0, 0, 0, 0, 0, 6, 0), (48, .imul, 49, 0, 0, 0, 0, 0, 0, 0), (49, .iload_n 2, 50, 2, 0, 0, 0, 0, 0, 0), (50, .iadd, 51, 0, 0, 0, 0, 0, 0, 0), (51, .iaload, 52, 0, 0, 0, 0, 0, 0, 0), (52, .iload 4, 54, 4, 0, 0, 0, 0, 0, 0), (54, .if_icmp .ge 23, 57, 77, 0, 0, 0, 0, 0, 0), (57, .aload_n 0, 58, 0, 0, 0, 0, 0, 0, 0), (58, .getfield 11, 61, 8, 0, 0, 0, 313, 0, 0)]),
  (83, [(61, .iload 5, 63, 5, 0, 0, 0, 0, 0, 0), (63, .bipush 6, 65, 0, 0, 0, 0, 0, 6, 0), (65, .imul, 66, 0, 0, 0, 0, 0, 0, 0), (66, .iload_n 2, 67, 2, 0, 0, 0, 0, 0, 0), (67, .iadd, 68, 0, 0, 0, 0, 0, 0, 0), (68, .iaload, 69, 0, 0, 0, 0, 0, 0, 0), (69, .istore 4, 71, 4, 0, 0, 0, 0, 0, 0), (71, .aload_n 0, 72, 0, 0, 0, 0, 0, 0, 0), (72, .iload 5, 74, 5, 0, 0, 0, 0, 0, 0), (74, .putfield 28, 77, 8, 2, 0, 0, 316, 0, 0), (77, .iinc 5 1, 80, 5, 0, 0, 0, 0, 1, 0), (80, .goto (-46), 83, 34, 0, 0, 0, 0, 0, 0)]),
  (100000, [(83, .iload 4, 85, 4, 0, 0, 0, 0, 0, 0), (85, .ldc 32, 87, 0, 0, 0, 0, 1004, 1000000, 0), (87, .if_icmp .lt 8, 90, 95, 0, 0, 0, 0, 0, 0), (90, .bipush (-2), 92, 0, 0, 0, 0, 0, -2, 0), (92, .goto 5, 95, 97, 0, 0, 0, 0, 0, 0), (95, .iload 4, 97, 4, 0, 0, 0, 0, 0, 0), (97, .ireturn, 98, 0, 0, 0, 0, 0, 0, 0)])]
def mmX8_minutes : am_M := (yX8_minutes, cX8_minutes, 6, some .int, 0, 0, 4, 8, [997, 995, 996, 83, 1], tbX8_minutes)
def tbX8_measure : List (Nat × List am_I) := [(19, [(0, .iconst 0, 1, 0, 0, 0, 0, 0, 0, 0), (1, .istore_n 3, 2, 3, 0, 0, 0, 0, 0, 0), (2, .iload_n 3, 3, 3, 0, 0, 0, 0, 0, 0), (3, .bipush 6, 5, 0, 0, 0, 0, 0, 6, 0), (5, .if_icmp .ge 45, 8, 50, 0, 0, 0, 0, 0, 0), (8, .aload_n 0, 9, 0, 0, 0, 0, 0, 0, 0), (9, .getfield 11, 12, 8, 0, 0, 0, 313, 0, 0), (12, .iload_n 3, 13, 3, 0, 0, 0, 0, 0, 0), (13, .aload_n 1, 14, 1, 0, 0, 0, 0, 0, 0), (14, .getfield 33, 17, 9, 0, 0, 0, 170, 0, 0), (17, .iload_n 2, 18, 2, 0, 0, 0, 0, 0, 0), (18, .aaload, 19, 0, 0, 0, 0, 0, 0, 0)]),
  (44, [(19, .getfield 37, 22, 4, 3, 0, 0, 130, 0, 0), (22, .iload_n 3, 23, 3, 0, 0, 0, 0, 0, 0), (23, .invokestatic 42, 26, 136, 2, 2, 0, 1003, 0, 0), (26, .ifCond .eq 15, 29, 41, 0, 0, 0, 0, 0, 0), (29, .aload_n 1, 30, 1, 0, 0, 0, 0, 0, 0), (30, .getfield 33, 33, 9, 0, 0, 0, 170, 0, 0), (33, .iload_n 2, 34, 2, 0, 0, 0, 0, 0, 0), (34, .aaload, 35, 0, 0, 0, 0, 0, 0, 0), (35, .getfield 45, 38, 4, 0, 0, 0, 125, 0, 0), (38, .goto 5, 41, 43, 0, 0, 0, 0, 0, 0), (41, .ldc 32, 43, 0, 0, 0, 0, 1004, 1000000, 0), (43, .iastore, 44, 0, 0, 0, 0, 0, 0, 0)]),
  (67, [(44, .iinc 3 1, 47, 3, 0, 0, 0, 0, 1, 0), (47, .goto (-45), 50, 2, 0, 0, 0, 0, 0, 0), (50, .iconst 1, 51, 0, 0, 0, 0, 0, 1, 0), (51, .istore_n 3, 52, 3, 0, 0, 0, 0, 0, 0), (52, .iload_n 3, 53, 3, 0, 0, 0, 0, 0, 0), (53, .iconst 4, 54, 0, 0, 0, 0, 0, 4, 0), (54, .if_icmp .gt 76, 57, 130, 0, 0, 0, 0, 0, 0), (57, .iconst 0, 58, 0, 0, 0, 0, 0, 0, 0), (58, .istore 4, 60, 4, 0, 0, 0, 0, 0, 0), (60, .iload 4, 62, 4, 0, 0, 0, 0, 0, 0), (62, .bipush 6, 64, 0, 0, 0, 0, 0, 6, 0), (64, .if_icmp .ge 60, 67, 124, 0, 0, 0, 0, 0, 0)]),
  (89, [(67, .ldc 32, 69, 0, 0, 0, 0, 1004, 1000000, 0), (69, .istore 5, 71, 5, 0, 0, 0, 0, 0, 0), (71, .iconst 0, 72, 0, 0, 0, 0, 0, 0, 0), (72, .istore 6, 74, 6, 0, 0, 0, 0, 0, 0), (74, .iload 6, 76, 6, 0, 0, 0, 0, 0, 0), (76, .bipush 6, 78, 0, 0, 0, 0, 0, 6, 0), (78, .if_icmp .ge 26, 81, 104, 0, 0, 0, 0, 0, 0), (81, .iload 5, 83, 5, 0, 0, 0, 0, 0, 0), (83, .aload_n 0, 84, 0, 0, 0, 0, 0, 0, 0), (84, .aload_n 1, 85, 1, 0, 0, 0, 0, 0, 0), (85, .iload 4, 87, 4, 0, 0, 0, 0, 0, 0), (87, .iload 6, 89, 6, 0, 0, 0, 0, 0, 0)]),
  (114, [(89, .iload_n 3, 90, 3, 0, 0, 0, 0, 0, 0), (90, .invokevirtual 48, 93, 71, 5, 0, 8, 1005, 0, 0), (93, .invokestatic 52, 96, 0, 0, 7, 0, 1009, 0, 0), (96, .istore 5, 98, 5, 0, 0, 0, 0, 0, 0), (98, .iinc 6 1, 101, 6, 0, 0, 0, 0, 1, 0), (101, .goto (-27), 104, 74, 0, 0, 0, 0, 0, 0), (104, .aload_n 0, 105, 0, 0, 0, 0, 0, 0, 0), (105, .getfield 11, 108, 8, 0, 0, 0, 313, 0, 0), (108, .iload_n 3, 109, 3, 0, 0, 0, 0, 0, 0), (109, .bipush 6, 111, 0, 0, 0, 0, 0, 6, 0), (111, .imul, 112, 0, 0, 0, 0, 0, 0, 0), (112, .iload 4, 114, 4, 0, 0, 0, 0, 0, 0)]),
  (100000, [(114, .iadd, 115, 0, 0, 0, 0, 0, 0, 0), (115, .iload 5, 117, 5, 0, 0, 0, 0, 0, 0), (117, .iastore, 118, 0, 0, 0, 0, 0, 0, 0), (118, .iinc 4 1, 121, 4, 0, 0, 0, 0, 1, 0), (121, .goto (-61), 124, 60, 0, 0, 0, 0, 0, 0), (124, .iinc 3 1, 127, 3, 0, 0, 0, 0, 1, 0), (127, .goto (-75), 130, 52, 0, 0, 0, 0, 0, 0), (130, .return_, 131, 0, 0, 0, 0, 0, 0, 0)])]
def mmX8_measure : am_M := (yX8_measure, cX8_measure, 7, none, 0, 0, 3, 8, [1002, 1001, 24, 83, 1], tbX8_measure)
def tbX8_minutesBy : List (Nat × List am_I) := [(24, [(0, .aload_n 1, 1, 1, 0, 0, 0, 0, 0, 0), (1, .getfield 33, 4, 9, 0, 0, 0, 170, 0, 0), (4, .iload_n 2, 5, 2, 0, 0, 0, 0, 0, 0), (5, .aaload, 6, 0, 0, 0, 0, 0, 0, 0), (6, .getfield 37, 9, 4, 3, 0, 0, 130, 0, 0), (9, .iload_n 3, 10, 3, 0, 0, 0, 0, 0, 0), (10, .invokestatic 42, 13, 136, 2, 2, 0, 1003, 0, 0), (13, .ifCond .eq 15, 16, 28, 0, 0, 0, 0, 0, 0), (16, .iload 4, 18, 4, 0, 0, 0, 0, 0, 0), (18, .iconst 1, 19, 0, 0, 0, 0, 0, 1, 0), (19, .if_icmp .lt 9, 22, 28, 0, 0, 0, 0, 0, 0), (22, .iload 4, 24, 4, 0, 0, 0, 0, 0, 0)]),
  (45, [(24, .iconst 4, 25, 0, 0, 0, 0, 0, 4, 0), (25, .if_icmp .le 6, 28, 31, 0, 0, 0, 0, 0, 0), (28, .ldc 32, 30, 0, 0, 0, 0, 1004, 1000000, 0), (30, .ireturn, 31, 0, 0, 0, 0, 0, 0, 0), (31, .aload_n 1, 32, 1, 0, 0, 0, 0, 0, 0), (32, .getfield 33, 35, 9, 0, 0, 0, 170, 0, 0), (35, .iload_n 3, 36, 3, 0, 0, 0, 0, 0, 0), (36, .aaload, 37, 0, 0, 0, 0, 0, 0, 0), (37, .getfield 45, 40, 4, 0, 0, 0, 125, 0, 0), (40, .aload_n 1, 41, 1, 0, 0, 0, 0, 0, 0), (41, .getfield 33, 44, 9, 0, 0, 0, 170, 0, 0), (44, .iload_n 3, 45, 3, 0, 0, 0, 0, 0, 0)]),
  (63, [(45, .aaload, 46, 0, 0, 0, 0, 0, 0, 0), (46, .getfield 58, 49, 4, 2, 0, 0, 129, 0, 0), (49, .iadd, 50, 0, 0, 0, 0, 0, 0, 0), (50, .aload_n 0, 51, 0, 0, 0, 0, 0, 0, 0), (51, .getfield 11, 54, 8, 0, 0, 0, 313, 0, 0), (54, .iload 4, 56, 4, 0, 0, 0, 0, 0, 0), (56, .iconst 1, 57, 0, 0, 0, 0, 0, 1, 0), (57, .isub, 58, 0, 0, 0, 0, 0, 0, 0), (58, .bipush 6, 60, 0, 0, 0, 0, 0, 6, 0), (60, .imul, 61, 0, 0, 0, 0, 0, 0, 0), (61, .iload_n 3, 62, 3, 0, 0, 0, 0, 0, 0), (62, .iadd, 63, 0, 0, 0, 0, 0, 0, 0)]),
  (100000, [(63, .iaload, 64, 0, 0, 0, 0, 0, 0, 0), (64, .iadd, 65, 0, 0, 0, 0, 0, 0, 0), (65, .ireturn, 66, 0, 0, 0, 0, 0, 0, 0)])]
def mmX8_minutesBy : am_M := (yX8_minutesBy, cX8_minutesBy, 5, some .int, 0, 0, 5, 8, [1008, 1007, 25, 83, 1], tbX8_minutesBy)
def tbX8_findWay : List (Nat × List am_I) := [(22, [(0, .iload_n 2, 1, 2, 0, 0, 0, 0, 0, 0), (1, .istore_n 3, 2, 3, 0, 0, 0, 0, 0, 0), (2, .aload_n 0, 3, 0, 0, 0, 0, 0, 0, 0), (3, .getfield 28, 6, 8, 2, 0, 0, 316, 0, 0), (6, .istore 4, 8, 4, 0, 0, 0, 0, 0, 0), (8, .iload 4, 10, 4, 0, 0, 0, 0, 0, 0), (10, .ifCond .le 72, 13, 82, 0, 0, 0, 0, 0, 0), (13, .iload 4, 15, 4, 0, 0, 0, 0, 0, 0), (15, .iconst 4, 16, 0, 0, 0, 0, 0, 4, 0), (16, .if_icmp .gt 66, 19, 82, 0, 0, 0, 0, 0, 0), (19, .iconst 0, 20, 0, 0, 0, 0, 0, 0, 0), (20, .istore 5, 22, 5, 0, 0, 0, 0, 0, 0)]),
  (44, [(22, .iload 5, 24, 5, 0, 0, 0, 0, 0, 0), (24, .iconst 5, 25, 0, 0, 0, 0, 0, 5, 0), (25, .if_icmp .ge 34, 28, 59, 0, 0, 0, 0, 0, 0), (28, .aload_n 0, 29, 0, 0, 0, 0, 0, 0, 0), (29, .aload_n 1, 30, 1, 0, 0, 0, 0, 0, 0), (30, .iload_n 3, 31, 3, 0, 0, 0, 0, 0, 0), (31, .iload 5, 33, 5, 0, 0, 0, 0, 0, 0), (33, .iload 4, 35, 4, 0, 0, 0, 0, 0, 0), (35, .invokevirtual 48, 38, 71, 5, 0, 8, 1005, 0, 0), (38, .aload_n 0, 39, 0, 0, 0, 0, 0, 0, 0), (39, .getfield 11, 42, 8, 0, 0, 0, 313, 0, 0), (42, .iload 4, 44, 4, 0, 0, 0, 0, 0, 0)]),
  (67, [(44, .bipush 6, 46, 0, 0, 0, 0, 0, 6, 0), (46, .imul, 47, 0, 0, 0, 0, 0, 0, 0), (47, .iload_n 3, 48, 3, 0, 0, 0, 0, 0, 0), (48, .iadd, 49, 0, 0, 0, 0, 0, 0, 0), (49, .iaload, 50, 0, 0, 0, 0, 0, 0, 0), (50, .if_icmp .eq 9, 53, 59, 0, 0, 0, 0, 0, 0), (53, .iinc 5 1, 56, 5, 0, 0, 0, 0, 1, 0), (56, .goto (-34), 59, 22, 0, 0, 0, 0, 0, 0), (59, .aload_n 0, 60, 0, 0, 0, 0, 0, 0, 0), (60, .getfield 15, 63, 8, 1, 0, 0, 314, 0, 0), (63, .aload_n 0, 64, 0, 0, 0, 0, 0, 0, 0), (64, .getfield 28, 67, 8, 2, 0, 0, 316, 0, 0)]),
  (100000, [(67, .iload 4, 69, 4, 0, 0, 0, 0, 0, 0), (69, .isub, 70, 0, 0, 0, 0, 0, 0, 0), (70, .iload 5, 72, 5, 0, 0, 0, 0, 0, 0), (72, .iastore, 73, 0, 0, 0, 0, 0, 0, 0), (73, .iload 5, 75, 5, 0, 0, 0, 0, 0, 0), (75, .istore_n 3, 76, 3, 0, 0, 0, 0, 0, 0), (76, .iinc 4 (-1), 79, 4, 0, 0, 0, 0, -1, 0), (79, .goto (-71), 82, 8, 0, 0, 0, 0, 0, 0), (82, .return_, 83, 0, 0, 0, 0, 0, 0, 0)])]
def mmX8_findWay : am_M := (yX8_findWay, cX8_findWay, 6, none, 0, 0, 3, 8, [1013, 1011, 1012, 83, 1], tbX8_findWay)
def tbX9_init : List (Nat × List am_I) := [(25, [(0, .aload_n 0, 1, 0, 0, 0, 0, 0, 0, 0), (1, .invokespecial 3, 4, 0, 0, 5, 0, 113, 0, 0), (4, .aload_n 0, 5, 0, 0, 0, 0, 0, 0, 0), (5, .bipush 6, 7, 0, 0, 0, 0, 0, 6, 0), (7, .anewarray 9, 10, 3, 0, 0, 0, 114, 0, 0), (10, .putfield 11, 13, 9, 0, 2, 0, 168, 0, 0), (13, .aload_n 0, 14, 0, 0, 0, 0, 0, 0, 0), (14, .bipush 12, 16, 0, 0, 0, 0, 0, 12, 0), (16, .anewarray 17, 19, 4, 0, 0, 0, 116, 0, 0), (19, .putfield 19, 22, 9, 2, 2, 0, 173, 0, 0), (22, .aload_n 0, 23, 0, 0, 0, 0, 0, 0, 0), (23, .bipush 6, 25, 0, 0, 0, 0, 0, 6, 0)]),
  (47, [(25, .newarray .int, 27, 0, 0, 0, 0, 150, 0, 0), (27, .putfield 23, 30, 9, 3, 2, 0, 175, 0, 0), (30, .aload_n 0, 31, 0, 0, 0, 0, 0, 0, 0), (31, .bipush 6, 33, 0, 0, 0, 0, 0, 6, 0), (33, .newarray .int, 35, 0, 0, 0, 0, 150, 0, 0), (35, .putfield 27, 38, 9, 7, 2, 0, 186, 0, 0), (38, .iconst 0, 39, 0, 0, 0, 0, 0, 0, 0), (39, .istore_n 1, 40, 1, 0, 0, 0, 0, 0, 0), (40, .iload_n 1, 41, 1, 0, 0, 0, 0, 0, 0), (41, .bipush 6, 43, 0, 0, 0, 0, 0, 6, 0), (43, .if_icmp .ge 31, 46, 74, 0, 0, 0, 0, 0, 0), (46, .aload_n 0, 47, 0, 0, 0, 0, 0, 0, 0)]),
  (67, [(47, .getfield 11, 50, 9, 0, 0, 0, 168, 0, 0), (50, .iload_n 1, 51, 1, 0, 0, 0, 0, 0, 0), (51, .new 9, 54, 4, 6, 0, 118, 114, 0, 0), (54, .dup, 55, 0, 0, 0, 0, 0, 0, 0), (55, .invokespecial 30, 58, 40, 1, 4, 1000004, 119, 0, 0), (58, .aastore, 59, 0, 0, 0, 0, 0, 0, 0), (59, .aload_n 0, 60, 0, 0, 0, 0, 0, 0, 0), (60, .getfield 23, 63, 9, 3, 0, 0, 175, 0, 0), (63, .iload_n 1, 64, 1, 0, 0, 0, 0, 0, 0), (64, .iconst 2, 65, 0, 0, 0, 0, 0, 2, 0), (65, .iload_n 1, 66, 1, 0, 0, 0, 0, 0, 0), (66, .imul, 67, 0, 0, 0, 0, 0, 0, 0)]),
  (90, [(67, .iastore, 68, 0, 0, 0, 0, 0, 0, 0), (68, .iinc 1 1, 71, 1, 0, 0, 0, 0, 1, 0), (71, .goto (-31), 74, 40, 0, 0, 0, 0, 0, 0), (74, .iconst 0, 75, 0, 0, 0, 0, 0, 0, 0), (75, .istore_n 1, 76, 1, 0, 0, 0, 0, 0, 0), (76, .iload_n 1, 77, 1, 0, 0, 0, 0, 0, 0), (77, .bipush 12, 79, 0, 0, 0, 0, 0, 12, 0), (79, .if_icmp .ge 22, 82, 101, 0, 0, 0, 0, 0, 0), (82, .aload_n 0, 83, 0, 0, 0, 0, 0, 0, 0), (83, .getfield 19, 86, 9, 2, 0, 0, 173, 0, 0), (86, .iload_n 1, 87, 1, 0, 0, 0, 0, 0, 0), (87, .new 17, 90, 1, 3, 0, 151, 116, 0, 0)]),
  (100000, [(90, .dup, 91, 0, 0, 0, 0, 0, 0, 0), (91, .invokespecial 31, 94, 14, 1, 4, 2000080, 152, 0, 0), (94, .aastore, 95, 0, 0, 0, 0, 0, 0, 0), (95, .iinc 1 1, 98, 1, 0, 0, 0, 0, 1, 0), (98, .goto (-22), 101, 76, 0, 0, 0, 0, 0, 0), (101, .return_, 102, 0, 0, 0, 0, 0, 0, 0)])]
def mmX9_init : am_M := (yX9_init, cX9_init, 2, none, 52, 1086, 1, 9, [112, 111, 0, 77, 2], tbX9_init)
def tbX9_has : List (Nat × List am_I) := [(100000, [(0, .iload_n 1, 1, 1, 0, 0, 0, 0, 0, 0), (1, .ifCond .lt 15, 4, 16, 0, 0, 0, 0, 0, 0), (4, .iload_n 1, 5, 1, 0, 0, 0, 0, 0, 0), (5, .aload_n 0, 6, 0, 0, 0, 0, 0, 0, 0), (6, .getfield 32, 9, 9, 1, 0, 0, 172, 0, 0), (9, .if_icmp .ge 7, 12, 16, 0, 0, 0, 0, 0, 0), (12, .iconst 1, 13, 0, 0, 0, 0, 0, 1, 0), (13, .goto 4, 16, 17, 0, 0, 0, 0, 0, 0), (16, .iconst 0, 17, 0, 0, 0, 0, 0, 0, 0), (17, .ireturn, 18, 0, 0, 0, 0, 0, 0, 0)])]
def mmX9_has : am_M := (yX9_has, cX9_has, 2, some .boolean, 0, 0, 2, 9, [445, 443, 444, 77, 1], tbX9_has)
def tbX9_hasTwo : List (Nat × List am_I) := [(22, [(0, .aload_n 0, 1, 0, 0, 0, 0, 0, 0, 0), (1, .iload_n 1, 2, 1, 0, 0, 0, 0, 0, 0), (2, .invokevirtual 36, 5, 74, 2, 0, 9, 454, 0, 0), (5, .ifCond .eq 20, 8, 25, 0, 0, 0, 0, 0, 0), (8, .aload_n 0, 9, 0, 0, 0, 0, 0, 0, 0), (9, .iload_n 2, 10, 2, 0, 0, 0, 0, 0, 0), (10, .invokevirtual 36, 13, 74, 2, 0, 9, 454, 0, 0), (13, .ifCond .eq 12, 16, 25, 0, 0, 0, 0, 0, 0), (16, .iload_n 1, 17, 1, 0, 0, 0, 0, 0, 0), (17, .iload_n 2, 18, 2, 0, 0, 0, 0, 0, 0), (18, .if_icmp .eq 7, 21, 25, 0, 0, 0, 0, 0, 0), (21, .iconst 1, 22, 0, 0, 0, 0, 0, 1, 0)]),
  (100000, [(22, .goto 4, 25, 26, 0, 0, 0, 0, 0, 0), (25, .iconst 0, 26, 0, 0, 0, 0, 0, 0, 0), (26, .ireturn, 27, 0, 0, 0, 0, 0, 0, 0)])]
def mmX9_hasTwo : am_M := (yX9_hasTwo, cX9_hasTwo, 3, some .boolean, 0, 0, 3, 9, [453, 451, 452, 77, 1], tbX9_hasTwo)
def tbX9_isNear : List (Nat × List am_I) := [(22, [(0, .aload_n 0, 1, 0, 0, 0, 0, 0, 0, 0), (1, .iload_n 1, 2, 1, 0, 0, 0, 0, 0, 0), (2, .iload_n 2, 3, 2, 0, 0, 0, 0, 0, 0), (3, .invokevirtual 40, 6, 75, 3, 0, 9, 693, 0, 0), (6, .ifCond .eq 23, 9, 29, 0, 0, 0, 0, 0, 0), (9, .aload_n 0, 10, 0, 0, 0, 0, 0, 0, 0), (10, .getfield 11, 13, 9, 0, 0, 0, 168, 0, 0), (13, .iload_n 1, 14, 1, 0, 0, 0, 0, 0, 0), (14, .aaload, 15, 0, 0, 0, 0, 0, 0, 0), (15, .getfield 44, 18, 4, 3, 0, 0, 131, 0, 0), (18, .iload_n 2, 19, 2, 0, 0, 0, 0, 0, 0), (19, .invokestatic 47, 22, 136, 2, 2, 0, 694, 0, 0)]),
  (100000, [(22, .ifCond .eq 7, 25, 29, 0, 0, 0, 0, 0, 0), (25, .iconst 1, 26, 0, 0, 0, 0, 0, 1, 0), (26, .goto 4, 29, 30, 0, 0, 0, 0, 0, 0), (29, .iconst 0, 30, 0, 0, 0, 0, 0, 0, 0), (30, .ireturn, 31, 0, 0, 0, 0, 0, 0, 0)])]
def mmX9_isNear : am_M := (yX9_isNear, cX9_isNear, 3, some .boolean, 0, 0, 3, 9, [692, 690, 691, 77, 1], tbX9_isNear)
def tbX9_isSeen : List (Nat × List am_I) := [(22, [(0, .aload_n 0, 1, 0, 0, 0, 0, 0, 0, 0), (1, .iload_n 1, 2, 1, 0, 0, 0, 0, 0, 0), (2, .iload_n 2, 3, 2, 0, 0, 0, 0, 0, 0), (3, .invokevirtual 40, 6, 75, 3, 0, 9, 693, 0, 0), (6, .ifCond .eq 23, 9, 29, 0, 0, 0, 0, 0, 0), (9, .aload_n 0, 10, 0, 0, 0, 0, 0, 0, 0), (10, .getfield 11, 13, 9, 0, 0, 0, 168, 0, 0), (13, .iload_n 1, 14, 1, 0, 0, 0, 0, 0, 0), (14, .aaload, 15, 0, 0, 0, 0, 0, 0, 0), (15, .getfield 50, 18, 4, 4, 0, 0, 134, 0, 0), (18, .iload_n 2, 19, 2, 0, 0, 0, 0, 0, 0), (19, .invokestatic 47, 22, 136, 2, 2, 0, 694, 0, 0)]),
  (100000, [(22, .ifCond .eq 7, 25, 29, 0, 0, 0, 0, 0, 0), (25, .iconst 1, 26, 0, 0, 0, 0, 0, 1, 0), (26, .goto 4, 29, 30, 0, 0, 0, 0, 0, 0), (29, .iconst 0, 30, 0, 0, 0, 0, 0, 0, 0), (30, .ireturn, 31, 0, 0, 0, 0, 0, 0, 0)])]
def mmX9_isSeen : am_M := (yX9_isSeen, cX9_isSeen, 3, some .boolean, 0, 0, 3, 9, [1021, 1019, 1020, 77, 1], tbX9_isSeen)
def tbX9_isDeed : List (Nat × List am_I) := [(21, [(0, .iload_n 1, 1, 1, 0, 0, 0, 0, 0, 0), (1, .ifCond .lt 31, 4, 32, 0, 0, 0, 0, 0, 0), (4, .iload_n 1, 5, 1, 0, 0, 0, 0, 0, 0), (5, .bipush 12, 7, 0, 0, 0, 0, 0, 12, 0), (7, .if_icmp .ge 25, 10, 32, 0, 0, 0, 0, 0, 0), (10, .iload_n 1, 11, 1, 0, 0, 0, 0, 0, 0), (11, .iconst 2, 12, 0, 0, 0, 0, 0, 2, 0), (12, .irem, 13, 0, 0, 0, 0, 0, 0, 0), (13, .ifCond .ne 19, 16, 32, 0, 0, 0, 0, 0, 0), (16, .aload_n 0, 17, 0, 0, 0, 0, 0, 0, 0), (17, .getfield 19, 20, 9, 2, 0, 0, 173, 0, 0), (20, .iload_n 1, 21, 1, 0, 0, 0, 0, 0, 0)]),
  (100000, [(21, .aaload, 22, 0, 0, 0, 0, 0, 0, 0), (22, .getfield 53, 25, 1, 1, 0, 0, 159, 0, 0), (25, .ifCond .le 7, 28, 32, 0, 0, 0, 0, 0, 0), (28, .iconst 1, 29, 0, 0, 0, 0, 0, 1, 0), (29, .goto 4, 32, 33, 0, 0, 0, 0, 0, 0), (32, .iconst 0, 33, 0, 0, 0, 0, 0, 0, 0), (33, .ireturn, 34, 0, 0, 0, 0, 0, 0, 0)])]
def mmX9_isDeed : am_M := (yX9_isDeed, cX9_isDeed, 2, some .boolean, 0, 0, 2, 9, [797, 795, 796, 77, 1], tbX9_isDeed)
def tbX9_toldRules : List (Nat × List am_I) := [(17, [(0, .iconst 0, 1, 0, 0, 0, 0, 0, 0, 0), (1, .istore_n 1, 2, 1, 0, 0, 0, 0, 0, 0), (2, .iconst 0, 3, 0, 0, 0, 0, 0, 0, 0), (3, .istore_n 2, 4, 2, 0, 0, 0, 0, 0, 0), (4, .iload_n 2, 5, 2, 0, 0, 0, 0, 0, 0), (5, .bipush 12, 7, 0, 0, 0, 0, 0, 12, 0), (7, .if_icmp .ge 32, 10, 39, 0, 0, 0, 0, 0, 0), (10, .iload_n 1, 11, 1, 0, 0, 0, 0, 0, 0), (11, .iload_n 2, 12, 2, 0, 0, 0, 0, 0, 0), (12, .aload_n 0, 13, 0, 0, 0, 0, 0, 0, 0), (13, .getfield 19, 16, 9, 2, 0, 0, 173, 0, 0), (16, .iload_n 2, 17, 2, 0, 0, 0, 0, 0, 0)]),
  (100000, [(17, .aaload, 18, 0, 0, 0, 0, 0, 0, 0), (18, .getfield 53, 21, 1, 1, 0, 0, 159, 0, 0), (21, .ifCond .le 7, 24, 28, 0, 0, 0, 0, 0, 0), (24, .iconst 1, 25, 0, 0, 0, 0, 0, 1, 0), (25, .goto 4, 28, 29, 0, 0, 0, 0, 0, 0), (28, .iconst 0, 29, 0, 0, 0, 0, 0, 0, 0), (29, .invokestatic 54, 32, 135, 3, 2, 0, 1084, 0, 0), (32, .istore_n 1, 33, 1, 0, 0, 0, 0, 0, 0), (33, .iinc 2 1, 36, 2, 0, 0, 0, 0, 1, 0), (36, .goto (-32), 39, 4, 0, 0, 0, 0, 0, 0), (39, .iload_n 1, 40, 1, 0, 0, 0, 0, 0, 0), (40, .ireturn, 41, 0, 0, 0, 0, 0, 0, 0)])]
def mmX9_toldRules : am_M := (yX9_toldRules, cX9_toldRules, 3, some .int, 0, 0, 1, 9, [1083, 1081, 1082, 77, 1], tbX9_toldRules)
def tbX9_look : List (Nat × List am_I) := [(20, [(0, .aload_n 0, 1, 0, 0, 0, 0, 0, 0, 0), (1, .iload_n 2, 2, 2, 0, 0, 0, 0, 0, 0), (2, .invokevirtual 36, 5, 74, 2, 0, 9, 454, 0, 0), (5, .ifCond .ne 4, 8, 9, 0, 0, 0, 0, 0, 0), (8, .return_, 9, 0, 0, 0, 0, 0, 0, 0), (9, .aload_n 1, 10, 1, 0, 0, 0, 0, 0, 0), (10, .getfield 58, 13, 0, 0, 0, 0, 212, 0, 0), (13, .istore_n 3, 14, 3, 0, 0, 0, 0, 0, 0), (14, .iload_n 3, 15, 3, 0, 0, 0, 0, 0, 0), (15, .aload_n 0, 16, 0, 0, 0, 0, 0, 0, 0), (16, .getfield 11, 19, 9, 0, 0, 0, 168, 0, 0), (19, .iload_n 2, 20, 2, 0, 0, 0, 0, 0, 0)]),
  (39, [(20, .aaload, 21, 0, 0, 0, 0, 0, 0, 0), (21, .getfield 63, 24, 4, 1, 0, 0, 127, 0, 0), (24, .isub, 25, 0, 0, 0, 0, 0, 0, 0), (25, .istore 4, 27, 4, 0, 0, 0, 0, 0, 0), (27, .aload_n 0, 28, 0, 0, 0, 0, 0, 0, 0), (28, .getfield 27, 31, 9, 7, 0, 0, 186, 0, 0), (31, .iconst 0, 32, 0, 0, 0, 0, 0, 0, 0), (32, .iload_n 3, 33, 3, 0, 0, 0, 0, 0, 0), (33, .iastore, 34, 0, 0, 0, 0, 0, 0, 0), (34, .aload_n 0, 35, 0, 0, 0, 0, 0, 0, 0), (35, .getfield 27, 38, 9, 7, 0, 0, 186, 0, 0), (38, .iconst 1, 39, 0, 0, 0, 0, 0, 1, 0)]),
  (60, [(39, .aload_n 0, 40, 0, 0, 0, 0, 0, 0, 0), (40, .getfield 66, 43, 9, 4, 0, 0, 179, 0, 0), (43, .iastore, 44, 0, 0, 0, 0, 0, 0, 0), (44, .aload_n 0, 45, 0, 0, 0, 0, 0, 0, 0), (45, .getfield 27, 48, 9, 7, 0, 0, 186, 0, 0), (48, .iconst 2, 49, 0, 0, 0, 0, 0, 2, 0), (49, .aload_n 1, 50, 1, 0, 0, 0, 0, 0, 0), (50, .iload 4, 52, 4, 0, 0, 0, 0, 0, 0), (52, .invokevirtual 69, 55, 3, 2, 0, 0, 737, 0, 0), (55, .iastore, 56, 0, 0, 0, 0, 0, 0, 0), (56, .aload_n 0, 57, 0, 0, 0, 0, 0, 0, 0), (57, .getfield 27, 60, 9, 7, 0, 0, 186, 0, 0)]),
  (78, [(60, .iconst 3, 61, 0, 0, 0, 0, 0, 3, 0), (61, .aload_n 1, 62, 1, 0, 0, 0, 0, 0, 0), (62, .iload 4, 64, 4, 0, 0, 0, 0, 0, 0), (64, .invokevirtual 69, 67, 3, 2, 0, 0, 737, 0, 0), (67, .aload_n 1, 68, 1, 0, 0, 0, 0, 0, 0), (68, .iload 4, 70, 4, 0, 0, 0, 0, 0, 0), (70, .iconst 1, 71, 0, 0, 0, 0, 0, 1, 0), (71, .isub, 72, 0, 0, 0, 0, 0, 0, 0), (72, .invokevirtual 69, 75, 3, 2, 0, 0, 737, 0, 0), (75, .isub, 76, 0, 0, 0, 0, 0, 0, 0), (76, .iastore, 77, 0, 0, 0, 0, 0, 0, 0), (77, .aload_n 0, 78, 0, 0, 0, 0, 0, 0, 0)]),
  (96, [(78, .getfield 27, 81, 9, 7, 0, 0, 186, 0, 0), (81, .iconst 4, 82, 0, 0, 0, 0, 0, 4, 0), (82, .aload_n 0, 83, 0, 0, 0, 0, 0, 0, 0), (83, .aload_n 1, 84, 1, 0, 0, 0, 0, 0, 0), (84, .iload_n 2, 85, 2, 0, 0, 0, 0, 0, 0), (85, .invokevirtual 73, 88, 81, 3, 0, 9, 738, 0, 0), (88, .iastore, 89, 0, 0, 0, 0, 0, 0, 0), (89, .aload_n 0, 90, 0, 0, 0, 0, 0, 0, 0), (90, .getfield 27, 93, 9, 7, 0, 0, 186, 0, 0), (93, .iconst 5, 94, 0, 0, 0, 0, 0, 5, 0), (94, .aload_n 1, 95, 1, 0, 0, 0, 0, 0, 0), (95, .aload_n 1, 96, 1, 0, 0, 0, 0, 0, 0)]),
  (100000, [(96, .getfield 77, 99, 0, 5, 0, 0, 221, 0, 0), (99, .iload_n 2, 100, 2, 0, 0, 0, 0, 0, 0), (100, .iload_n 3, 101, 3, 0, 0, 0, 0, 0, 0), (101, .iconst 1, 102, 0, 0, 0, 0, 0, 1, 0), (102, .isub, 103, 0, 0, 0, 0, 0, 0, 0), (103, .invokevirtual 80, 106, 4, 4, 0, 0, 743, 0, 0), (106, .iastore, 107, 0, 0, 0, 0, 0, 0, 0), (107, .return_, 108, 0, 0, 0, 0, 0, 0, 0)])]
def mmX9_look : am_M := (yX9_look, cX9_look, 5, none, 0, 0, 3, 9, [736, 734, 735, 77, 1], tbX9_look)
def tbX9_hears : List (Nat × List am_I) := [(19, [(0, .aload_n 1, 1, 1, 0, 0, 0, 0, 0, 0), (1, .getfield 58, 4, 0, 0, 0, 0, 212, 0, 0), (4, .aload_n 0, 5, 0, 0, 0, 0, 0, 0, 0), (5, .getfield 11, 8, 9, 0, 0, 0, 168, 0, 0), (8, .iload_n 2, 9, 2, 0, 0, 0, 0, 0, 0), (9, .aaload, 10, 0, 0, 0, 0, 0, 0, 0), (10, .invokevirtual 84, 13, 41, 1, 0, 4, 742, 0, 0), (13, .isub, 14, 0, 0, 0, 0, 0, 0, 0), (14, .istore_n 3, 15, 3, 0, 0, 0, 0, 0, 0), (15, .iconst 0, 16, 0, 0, 0, 0, 0, 0, 0), (16, .istore 4, 18, 4, 0, 0, 0, 0, 0, 0), (18, .iconst 0, 19, 0, 0, 0, 0, 0, 0, 0)]),
  (44, [(19, .istore 5, 21, 5, 0, 0, 0, 0, 0, 0), (21, .iload 5, 23, 5, 0, 0, 0, 0, 0, 0), (23, .aload_n 0, 24, 0, 0, 0, 0, 0, 0, 0), (24, .getfield 32, 27, 9, 1, 0, 0, 172, 0, 0), (27, .if_icmp .ge 42, 30, 69, 0, 0, 0, 0, 0, 0), (30, .aload_n 0, 31, 0, 0, 0, 0, 0, 0, 0), (31, .getfield 11, 34, 9, 0, 0, 0, 168, 0, 0), (34, .iload_n 2, 35, 2, 0, 0, 0, 0, 0, 0), (35, .aaload, 36, 0, 0, 0, 0, 0, 0, 0), (36, .getfield 44, 39, 4, 3, 0, 0, 131, 0, 0), (39, .iload 5, 41, 5, 0, 0, 0, 0, 0, 0), (41, .invokestatic 47, 44, 136, 2, 2, 0, 694, 0, 0)]),
  (69, [(44, .ifCond .eq 19, 47, 63, 0, 0, 0, 0, 0, 0), (47, .iload 4, 49, 4, 0, 0, 0, 0, 0, 0), (49, .aload_n 1, 50, 1, 0, 0, 0, 0, 0, 0), (50, .aload_n 1, 51, 1, 0, 0, 0, 0, 0, 0), (51, .getfield 88, 54, 0, 6, 0, 0, 224, 0, 0), (54, .iload 5, 56, 5, 0, 0, 0, 0, 0, 0), (56, .iload_n 3, 57, 3, 0, 0, 0, 0, 0, 0), (57, .invokevirtual 80, 60, 4, 4, 0, 0, 743, 0, 0), (60, .iadd, 61, 0, 0, 0, 0, 0, 0, 0), (61, .istore 4, 63, 4, 0, 0, 0, 0, 0, 0), (63, .iinc 5 1, 66, 5, 0, 0, 0, 0, 1, 0), (66, .goto (-45), 69, 21, 0, 0, 0, 0, 0, 0)]),
  (100000, [(69, .iload 4, 71, 4, 0, 0, 0, 0, 0, 0), (71, .ireturn, 72, 0, 0, 0, 0, 0, 0, 0)])]
def mmX9_hears : am_M := (yX9_hears, cX9_hears, 6, some .int, 0, 0, 3, 9, [741, 739, 740, 77, 1], tbX9_hears)
def tbX9_deed : List (Nat × List am_I) := [(20, [(0, .aload_n 0, 1, 0, 0, 0, 0, 0, 0, 0), (1, .iload_n 1, 2, 1, 0, 0, 0, 0, 0, 0), (2, .invokevirtual 36, 5, 74, 2, 0, 9, 454, 0, 0), (5, .ifCond .eq 12, 8, 17, 0, 0, 0, 0, 0, 0), (8, .aload_n 0, 9, 0, 0, 0, 0, 0, 0, 0), (9, .getfield 23, 12, 9, 3, 0, 0, 175, 0, 0), (12, .iload_n 1, 13, 1, 0, 0, 0, 0, 0, 0), (13, .iaload, 14, 0, 0, 0, 0, 0, 0, 0), (14, .goto 4, 17, 18, 0, 0, 0, 0, 0, 0), (17, .iconst (-1), 18, 0, 0, 0, 0, 0, -1, 0), (18, .istore_n 2, 19, 2, 0, 0, 0, 0, 0, 0), (19, .iload_n 2, 20, 2, 0, 0, 0, 0, 0, 0)]),
  (43, [(20, .ifCond .lt 9, 23, 29, 0, 0, 0, 0, 0, 0), (23, .iload_n 2, 24, 2, 0, 0, 0, 0, 0, 0), (24, .bipush 12, 26, 0, 0, 0, 0, 0, 12, 0), (26, .if_icmp .lt 7, 29, 33, 0, 0, 0, 0, 0, 0), (29, .iconst 0, 30, 0, 0, 0, 0, 0, 0, 0), (30, .goto 21, 33, 51, 0, 0, 0, 0, 0, 0), (33, .aload_n 0, 34, 0, 0, 0, 0, 0, 0, 0), (34, .getfield 19, 37, 9, 2, 0, 0, 173, 0, 0), (37, .iload_n 2, 38, 2, 0, 0, 0, 0, 0, 0), (38, .aaload, 39, 0, 0, 0, 0, 0, 0, 0), (39, .aload_n 0, 40, 0, 0, 0, 0, 0, 0, 0), (40, .getfield 27, 43, 9, 7, 0, 0, 186, 0, 0)]),
  (100000, [(43, .invokevirtual 91, 46, 17, 2, 0, 1, 748, 0, 0), (46, .bipush 9, 48, 0, 0, 0, 0, 0, 9, 0), (48, .invokestatic 95, 51, 134, 2, 2, 0, 763, 0, 0), (51, .ireturn, 52, 0, 0, 0, 0, 0, 0, 0)])]
def mmX9_deed : am_M := (yX9_deed, cX9_deed, 3, some .int, 0, 0, 2, 9, [747, 745, 746, 77, 1], tbX9_deed)
def tbX9_speech : List (Nat × List am_I) := [(17, [(0, .iconst 2, 1, 0, 0, 0, 0, 0, 2, 0), (1, .iload_n 1, 2, 1, 0, 0, 0, 0, 0, 0), (2, .imul, 3, 0, 0, 0, 0, 0, 0, 0), (3, .iconst 1, 4, 0, 0, 0, 0, 0, 1, 0), (4, .iadd, 5, 0, 0, 0, 0, 0, 0, 0), (5, .istore_n 2, 6, 2, 0, 0, 0, 0, 0, 0), (6, .iload_n 2, 7, 2, 0, 0, 0, 0, 0, 0), (7, .ifCond .lt 9, 10, 16, 0, 0, 0, 0, 0, 0), (10, .iload_n 2, 11, 2, 0, 0, 0, 0, 0, 0), (11, .bipush 12, 13, 0, 0, 0, 0, 0, 12, 0), (13, .if_icmp .lt 7, 16, 20, 0, 0, 0, 0, 0, 0), (16, .iconst 0, 17, 0, 0, 0, 0, 0, 0, 0)]),
  (100000, [(17, .goto 21, 20, 38, 0, 0, 0, 0, 0, 0), (20, .aload_n 0, 21, 0, 0, 0, 0, 0, 0, 0), (21, .getfield 19, 24, 9, 2, 0, 0, 173, 0, 0), (24, .iload_n 2, 25, 2, 0, 0, 0, 0, 0, 0), (25, .aaload, 26, 0, 0, 0, 0, 0, 0, 0), (26, .aload_n 0, 27, 0, 0, 0, 0, 0, 0, 0), (27, .getfield 27, 30, 9, 7, 0, 0, 186, 0, 0), (30, .invokevirtual 91, 33, 17, 2, 0, 1, 748, 0, 0), (33, .bipush 99, 35, 0, 0, 0, 0, 0, 99, 0), (35, .invokestatic 95, 38, 134, 2, 2, 0, 763, 0, 0), (38, .ireturn, 39, 0, 0, 0, 0, 0, 0, 0)])]
def mmX9_speech : am_M := (yX9_speech, cX9_speech, 3, some .int, 0, 0, 2, 9, [769, 767, 768, 77, 1], tbX9_speech)
def tbX9_pass : List (Nat × List am_I) := [(21, [(0, .iconst 0, 1, 0, 0, 0, 0, 0, 0, 0), (1, .istore_n 3, 2, 3, 0, 0, 0, 0, 0, 0), (2, .iload_n 3, 3, 3, 0, 0, 0, 0, 0, 0), (3, .iload_n 2, 4, 2, 0, 0, 0, 0, 0, 0), (4, .if_icmp .ge 100, 7, 104, 0, 0, 0, 0, 0, 0), (7, .aload_n 1, 8, 1, 0, 0, 0, 0, 0, 0), (8, .getfield 58, 11, 0, 0, 0, 0, 212, 0, 0), (11, .sipush 199, 14, 0, 0, 0, 0, 0, 199, 0), (14, .if_icmp .ge 90, 17, 104, 0, 0, 0, 0, 0, 0), (17, .iconst 0, 18, 0, 0, 0, 0, 0, 0, 0), (18, .istore 4, 20, 4, 0, 0, 0, 0, 0, 0), (20, .iconst 0, 21, 0, 0, 0, 0, 0, 0, 0)]),
  (45, [(21, .istore 5, 23, 5, 0, 0, 0, 0, 0, 0), (23, .iload 5, 25, 5, 0, 0, 0, 0, 0, 0), (25, .aload_n 0, 26, 0, 0, 0, 0, 0, 0, 0), (26, .getfield 32, 29, 9, 1, 0, 0, 172, 0, 0), (29, .if_icmp .ge 57, 32, 86, 0, 0, 0, 0, 0, 0), (32, .aload_n 0, 33, 0, 0, 0, 0, 0, 0, 0), (33, .aload_n 1, 34, 1, 0, 0, 0, 0, 0, 0), (34, .iload 5, 36, 5, 0, 0, 0, 0, 0, 0), (36, .invokevirtual 99, 39, 80, 3, 0, 9, 733, 0, 0), (39, .aload_n 0, 40, 0, 0, 0, 0, 0, 0, 0), (40, .iload 5, 42, 5, 0, 0, 0, 0, 0, 0), (42, .invokevirtual 103, 45, 82, 2, 0, 9, 744, 0, 0)]),
  (66, [(45, .istore 6, 47, 6, 0, 0, 0, 0, 0, 0), (47, .iload 4, 49, 4, 0, 0, 0, 0, 0, 0), (49, .iload 6, 51, 6, 0, 0, 0, 0, 0, 0), (51, .iadd, 52, 0, 0, 0, 0, 0, 0, 0), (52, .istore 4, 54, 4, 0, 0, 0, 0, 0, 0), (54, .aload_n 1, 55, 1, 0, 0, 0, 0, 0, 0), (55, .iload 5, 57, 5, 0, 0, 0, 0, 0, 0), (57, .iload 6, 59, 6, 0, 0, 0, 0, 0, 0), (59, .aload_n 0, 60, 0, 0, 0, 0, 0, 0, 0), (60, .iload 5, 62, 5, 0, 0, 0, 0, 0, 0), (62, .invokevirtual 106, 65, 83, 2, 0, 9, 766, 0, 0), (65, .aload_n 0, 66, 0, 0, 0, 0, 0, 0, 0)]),
  (89, [(66, .getfield 27, 69, 9, 7, 0, 0, 186, 0, 0), (69, .iconst 4, 70, 0, 0, 0, 0, 0, 4, 0), (70, .iaload, 71, 0, 0, 0, 0, 0, 0, 0), (71, .aload_n 0, 72, 0, 0, 0, 0, 0, 0, 0), (72, .getfield 27, 75, 9, 7, 0, 0, 186, 0, 0), (75, .iconst 2, 76, 0, 0, 0, 0, 0, 2, 0), (76, .iaload, 77, 0, 0, 0, 0, 0, 0, 0), (77, .invokevirtual 109, 80, 6, 6, 0, 0, 770, 0, 0), (80, .iinc 5 1, 83, 5, 0, 0, 0, 0, 1, 0), (83, .goto (-60), 86, 23, 0, 0, 0, 0, 0, 0), (86, .aload_n 1, 87, 1, 0, 0, 0, 0, 0, 0), (87, .iload 4, 89, 4, 0, 0, 0, 0, 0, 0)]),
  (100000, [(89, .aload_n 0, 90, 0, 0, 0, 0, 0, 0, 0), (90, .aload_n 1, 91, 1, 0, 0, 0, 0, 0, 0), (91, .invokevirtual 113, 94, 85, 2, 0, 9, 774, 0, 0), (94, .iadd, 95, 0, 0, 0, 0, 0, 0, 0), (95, .invokevirtual 117, 98, 7, 2, 0, 0, 783, 0, 0), (98, .iinc 3 1, 101, 3, 0, 0, 0, 0, 1, 0), (101, .goto (-99), 104, 2, 0, 0, 0, 0, 0, 0), (104, .return_, 105, 0, 0, 0, 0, 0, 0, 0)])]
def mmX9_pass : am_M := (yX9_pass, cX9_pass, 7, none, 0, 0, 3, 9, [732, 730, 731, 77, 1], tbX9_pass)
def tbX9_wind : List (Nat × List am_I) := [(22, [(0, .aload_n 0, 1, 0, 0, 0, 0, 0, 0, 0), (1, .getfield 121, 4, 9, 5, 0, 0, 182, 0, 0), (4, .ifCond .ne 12, 7, 16, 0, 0, 0, 0, 0, 0), (7, .aload_n 0, 8, 0, 0, 0, 0, 0, 0, 0), (8, .getfield 124, 11, 9, 6, 0, 0, 185, 0, 0), (11, .ifCond .ne 5, 14, 16, 0, 0, 0, 0, 0, 0), (14, .iconst 0, 15, 0, 0, 0, 0, 0, 0, 0), (15, .ireturn, 16, 0, 0, 0, 0, 0, 0, 0), (16, .aload_n 1, 17, 1, 0, 0, 0, 0, 0, 0), (17, .invokevirtual 127, 20, 8, 1, 0, 0, 778, 0, 0), (20, .istore_n 2, 21, 2, 0, 0, 0, 0, 0, 0), (21, .iload_n 2, 22, 2, 0, 0, 0, 0, 0, 0)]),
  (45, [(22, .aload_n 0, 23, 0, 0, 0, 0, 0, 0, 0), (23, .getfield 121, 26, 9, 5, 0, 0, 182, 0, 0), (26, .if_icmp .ge 7, 29, 33, 0, 0, 0, 0, 0, 0), (29, .iconst (-1), 30, 0, 0, 0, 0, 0, -1, 0), (30, .goto 19, 33, 49, 0, 0, 0, 0, 0, 0), (33, .iload_n 2, 34, 2, 0, 0, 0, 0, 0, 0), (34, .bipush 10, 36, 0, 0, 0, 0, 0, 10, 0), (36, .aload_n 0, 37, 0, 0, 0, 0, 0, 0, 0), (37, .getfield 124, 40, 9, 6, 0, 0, 185, 0, 0), (40, .isub, 41, 0, 0, 0, 0, 0, 0, 0), (41, .if_icmp .lt 7, 44, 48, 0, 0, 0, 0, 0, 0), (44, .iconst 1, 45, 0, 0, 0, 0, 0, 1, 0)]),
  (100000, [(45, .goto 4, 48, 49, 0, 0, 0, 0, 0, 0), (48, .iconst 0, 49, 0, 0, 0, 0, 0, 0, 0), (49, .ireturn, 50, 0, 0, 0, 0, 0, 0, 0)])]
def mmX9_wind : am_M := (yX9_wind, cX9_wind, 3, some .int, 0, 0, 2, 9, [777, 775, 776, 77, 1], tbX9_wind)
def tbX10_init : List (Nat × List am_I) := [(26, [(0, .aload_n 0, 1, 0, 0, 0, 0, 0, 0, 0), (1, .invokespecial 1, 4, 0, 0, 5, 0, 105, 0, 0), (4, .aload_n 0, 5, 0, 0, 0, 0, 0, 0, 0), (5, .new 7, 8, 9, 8, 0, 109, 108, 0, 0), (8, .dup, 9, 0, 0, 0, 0, 0, 0, 0), (9, .invokespecial 9, 12, 73, 1, 3, 52001086, 110, 0, 0), (12, .putfield 10, 15, 10, 0, 2, 0, 400, 0, 0), (15, .aload_n 0, 16, 0, 0, 0, 0, 0, 0, 0), (16, .new 16, 19, 0, 9, 0, 205, 204, 0, 0), (19, .dup, 20, 0, 0, 0, 0, 0, 0, 0), (20, .invokespecial 18, 23, 0, 1, 4, 5005000, 206, 0, 0), (23, .putfield 19, 26, 10, 1, 2, 0, 401, 0, 0)]),
  (50, [(26, .aload_n 0, 27, 0, 0, 0, 0, 0, 0, 0), (27, .new 16, 30, 0, 9, 0, 205, 204, 0, 0), (30, .dup, 31, 0, 0, 0, 0, 0, 0, 0), (31, .invokespecial 18, 34, 0, 1, 4, 5005000, 206, 0, 0), (34, .putfield 23, 37, 10, 2, 2, 0, 402, 0, 0), (37, .aload_n 0, 38, 0, 0, 0, 0, 0, 0, 0), (38, .iconst 3, 39, 0, 0, 0, 0, 0, 3, 0), (39, .anewarray 16, 42, 5, 0, 0, 0, 204, 0, 0), (42, .putfield 26, 45, 10, 3, 2, 0, 403, 0, 0), (45, .aload_n 0, 46, 0, 0, 0, 0, 0, 0, 0), (46, .new 30, 49, 5, 10, 0, 251, 250, 0, 0), (49, .dup, 50, 0, 0, 0, 0, 0, 0, 0)]),
  (78, [(50, .invokespecial 32, 53, 42, 1, 4, 6000189, 252, 0, 0), (53, .putfield 33, 56, 10, 4, 2, 0, 404, 0, 0), (56, .aload_n 0, 57, 0, 0, 0, 0, 0, 0, 0), (57, .new 37, 60, 7, 2, 0, 292, 291, 0, 0), (60, .dup, 61, 0, 0, 0, 0, 0, 0, 0), (61, .invokespecial 39, 64, 61, 1, 4, 1000006, 293, 0, 0), (64, .putfield 40, 67, 10, 5, 2, 0, 405, 0, 0), (67, .aload_n 0, 68, 0, 0, 0, 0, 0, 0, 0), (68, .new 44, 71, 8, 3, 0, 308, 307, 0, 0), (71, .dup, 72, 0, 0, 0, 0, 0, 0, 0), (72, .invokespecial 46, 75, 68, 1, 4, 2000034, 309, 0, 0), (75, .putfield 47, 78, 10, 6, 2, 0, 406, 0, 0)]),
  (104, [(78, .aload_n 0, 79, 0, 0, 0, 0, 0, 0, 0), (79, .new 51, 82, 2, 5, 0, 326, 325, 0, 0), (82, .dup, 83, 0, 0, 0, 0, 0, 0, 0), (83, .invokespecial 53, 86, 21, 1, 4, 4000194, 327, 0, 0), (86, .putfield 54, 89, 10, 7, 2, 0, 407, 0, 0), (89, .aload_n 0, 90, 0, 0, 0, 0, 0, 0, 0), (90, .new 58, 93, 6, 2, 0, 349, 348, 0, 0), (93, .dup, 94, 0, 0, 0, 0, 0, 0, 0), (94, .invokespecial 60, 97, 56, 1, 4, 1000200, 350, 0, 0), (97, .putfield 61, 100, 10, 8, 2, 0, 408, 0, 0), (100, .aload_n 0, 101, 0, 0, 0, 0, 0, 0, 0), (101, .new 65, 104, 3, 8, 0, 362, 361, 0, 0)]),
  (100000, [(104, .dup, 105, 0, 0, 0, 0, 0, 0, 0), (105, .invokespecial 67, 108, 28, 1, 4, 10000189, 363, 0, 0), (108, .putfield 68, 111, 10, 9, 2, 0, 409, 0, 0), (111, .return_, 112, 0, 0, 0, 0, 0, 0, 0)])]
def mmX10_init : am_M := (yX10_init, cX10_init, 1, none, 96, 11957, 1, 10, [104, 103, 0, 76, 2], tbX10_init)
def tbX10_person : List (Nat × List am_I) := [(24, [(0, .aload_n 0, 1, 0, 0, 0, 0, 0, 0, 0), (1, .getfield 10, 4, 10, 0, 0, 0, 400, 0, 0), (4, .getfield 72, 7, 9, 1, 0, 0, 171, 0, 0), (7, .bipush 6, 9, 0, 0, 0, 0, 0, 6, 0), (9, .if_icmp .ge 33, 12, 42, 0, 0, 0, 0, 0, 0), (12, .iload_n 1, 13, 1, 0, 0, 0, 0, 0, 0), (13, .iconst 0, 14, 0, 0, 0, 0, 0, 0, 0), (14, .bipush 20, 16, 0, 0, 0, 0, 0, 20, 0), (16, .invokestatic 76, 19, 133, 3, 1, 0, 435, 0, 0), (19, .ifCond .eq 23, 22, 42, 0, 0, 0, 0, 0, 0), (22, .iload_n 2, 23, 2, 0, 0, 0, 0, 0, 0), (23, .iconst 0, 24, 0, 0, 0, 0, 0, 0, 0)]),
  (48, [(24, .bipush 20, 26, 0, 0, 0, 0, 0, 20, 0), (26, .invokestatic 76, 29, 133, 3, 1, 0, 435, 0, 0), (29, .ifCond .eq 13, 32, 42, 0, 0, 0, 0, 0, 0), (32, .iload_n 3, 33, 3, 0, 0, 0, 0, 0, 0), (33, .iconst 0, 34, 0, 0, 0, 0, 0, 0, 0), (34, .bipush 9, 36, 0, 0, 0, 0, 0, 9, 0), (36, .invokestatic 76, 39, 133, 3, 1, 0, 435, 0, 0), (39, .ifCond .ne 5, 42, 44, 0, 0, 0, 0, 0, 0), (42, .iconst (-1), 43, 0, 0, 0, 0, 0, -1, 0), (43, .ireturn, 44, 0, 0, 0, 0, 0, 0, 0), (44, .aload_n 0, 45, 0, 0, 0, 0, 0, 0, 0), (45, .getfield 10, 48, 10, 0, 0, 0, 400, 0, 0)]),
  (73, [(48, .getfield 80, 51, 9, 0, 0, 0, 169, 0, 0), (51, .aload_n 0, 52, 0, 0, 0, 0, 0, 0, 0), (52, .getfield 10, 55, 10, 0, 0, 0, 400, 0, 0), (55, .getfield 72, 58, 9, 1, 0, 0, 171, 0, 0), (58, .aaload, 59, 0, 0, 0, 0, 0, 0, 0), (59, .astore 4, 61, 4, 0, 0, 0, 0, 0, 0), (61, .aload 4, 63, 4, 0, 0, 0, 0, 0, 0), (63, .iload_n 1, 64, 1, 0, 0, 0, 0, 0, 0), (64, .putfield 84, 67, 4, 0, 0, 0, 124, 0, 0), (67, .aload 4, 69, 4, 0, 0, 0, 0, 0, 0), (69, .iload_n 2, 70, 2, 0, 0, 0, 0, 0, 0), (70, .putfield 89, 73, 4, 1, 0, 0, 126, 0, 0)]),
  (96, [(73, .aload 4, 75, 4, 0, 0, 0, 0, 0, 0), (75, .iload_n 3, 76, 3, 0, 0, 0, 0, 0, 0), (76, .putfield 92, 79, 4, 2, 0, 0, 128, 0, 0), (79, .aload_n 0, 80, 0, 0, 0, 0, 0, 0, 0), (80, .getfield 10, 83, 10, 0, 0, 0, 400, 0, 0), (83, .dup, 84, 0, 0, 0, 0, 0, 0, 0), (84, .getfield 72, 87, 9, 1, 0, 0, 171, 0, 0), (87, .iconst 1, 88, 0, 0, 0, 0, 0, 1, 0), (88, .iadd, 89, 0, 0, 0, 0, 0, 0, 0), (89, .putfield 72, 92, 9, 1, 0, 0, 171, 0, 0), (92, .aload_n 0, 93, 0, 0, 0, 0, 0, 0, 0), (93, .getfield 10, 96, 10, 0, 0, 0, 400, 0, 0)]),
  (100000, [(96, .getfield 72, 99, 9, 1, 0, 0, 171, 0, 0), (99, .iconst 1, 100, 0, 0, 0, 0, 0, 1, 0), (100, .isub, 101, 0, 0, 0, 0, 0, 0, 0), (101, .ireturn, 102, 0, 0, 0, 0, 0, 0, 0)])]
def mmX10_person : am_M := (yX10_person, cX10_person, 5, some .int, 0, 0, 4, 10, [434, 432, 433, 76, 1], tbX10_person)
def tbX10_set : List (Nat × List am_I) := [(22, [(0, .aload_n 0, 1, 0, 0, 0, 0, 0, 0, 0), (1, .getfield 10, 4, 10, 0, 0, 0, 400, 0, 0), (4, .iload_n 1, 5, 1, 0, 0, 0, 0, 0, 0), (5, .invokevirtual 95, 8, 74, 2, 0, 9, 442, 0, 0), (8, .ifCond .ne 5, 11, 13, 0, 0, 0, 0, 0, 0), (11, .iconst (-1), 12, 0, 0, 0, 0, 0, -1, 0), (12, .ireturn, 13, 0, 0, 0, 0, 0, 0, 0), (13, .aload_n 0, 14, 0, 0, 0, 0, 0, 0, 0), (14, .getfield 10, 17, 10, 0, 0, 0, 400, 0, 0), (17, .getfield 80, 20, 9, 0, 0, 0, 169, 0, 0), (20, .iload_n 1, 21, 1, 0, 0, 0, 0, 0, 0), (21, .aaload, 22, 0, 0, 0, 0, 0, 0, 0)]),
  (47, [(22, .astore 4, 24, 4, 0, 0, 0, 0, 0, 0), (24, .iload_n 2, 25, 2, 0, 0, 0, 0, 0, 0), (25, .ifCond .ne 29, 28, 54, 0, 0, 0, 0, 0, 0), (28, .iload_n 3, 29, 3, 0, 0, 0, 0, 0, 0), (29, .iconst 0, 30, 0, 0, 0, 0, 0, 0, 0), (30, .bipush 20, 32, 0, 0, 0, 0, 0, 20, 0), (32, .invokestatic 76, 35, 133, 3, 1, 0, 435, 0, 0), (35, .ifCond .eq 19, 38, 54, 0, 0, 0, 0, 0, 0), (38, .aload 4, 40, 4, 0, 0, 0, 0, 0, 0), (40, .getfield 84, 43, 4, 0, 0, 0, 124, 0, 0), (43, .istore 5, 45, 5, 0, 0, 0, 0, 0, 0), (45, .aload 4, 47, 4, 0, 0, 0, 0, 0, 0)]),
  (71, [(47, .iload_n 3, 48, 3, 0, 0, 0, 0, 0, 0), (48, .putfield 84, 51, 4, 0, 0, 0, 124, 0, 0), (51, .goto 68, 54, 119, 0, 0, 0, 0, 0, 0), (54, .iload_n 2, 55, 2, 0, 0, 0, 0, 0, 0), (55, .iconst 1, 56, 0, 0, 0, 0, 0, 1, 0), (56, .if_icmp .ne 29, 59, 85, 0, 0, 0, 0, 0, 0), (59, .iload_n 3, 60, 3, 0, 0, 0, 0, 0, 0), (60, .iconst 0, 61, 0, 0, 0, 0, 0, 0, 0), (61, .bipush 20, 63, 0, 0, 0, 0, 0, 20, 0), (63, .invokestatic 76, 66, 133, 3, 1, 0, 435, 0, 0), (66, .ifCond .eq 19, 69, 85, 0, 0, 0, 0, 0, 0), (69, .aload 4, 71, 4, 0, 0, 0, 0, 0, 0)]),
  (94, [(71, .getfield 89, 74, 4, 1, 0, 0, 126, 0, 0), (74, .istore 5, 76, 5, 0, 0, 0, 0, 0, 0), (76, .aload 4, 78, 4, 0, 0, 0, 0, 0, 0), (78, .iload_n 3, 79, 3, 0, 0, 0, 0, 0, 0), (79, .putfield 89, 82, 4, 1, 0, 0, 126, 0, 0), (82, .goto 37, 85, 119, 0, 0, 0, 0, 0, 0), (85, .iload_n 2, 86, 2, 0, 0, 0, 0, 0, 0), (86, .iconst 2, 87, 0, 0, 0, 0, 0, 2, 0), (87, .if_icmp .ne 29, 90, 116, 0, 0, 0, 0, 0, 0), (90, .iload_n 3, 91, 3, 0, 0, 0, 0, 0, 0), (91, .iconst 0, 92, 0, 0, 0, 0, 0, 0, 0), (92, .bipush 9, 94, 0, 0, 0, 0, 0, 9, 0)]),
  (121, [(94, .invokestatic 76, 97, 133, 3, 1, 0, 435, 0, 0), (97, .ifCond .eq 19, 100, 116, 0, 0, 0, 0, 0, 0), (100, .aload 4, 102, 4, 0, 0, 0, 0, 0, 0), (102, .getfield 92, 105, 4, 2, 0, 0, 128, 0, 0), (105, .istore 5, 107, 5, 0, 0, 0, 0, 0, 0), (107, .aload 4, 109, 4, 0, 0, 0, 0, 0, 0), (109, .iload_n 3, 110, 3, 0, 0, 0, 0, 0, 0), (110, .putfield 92, 113, 4, 2, 0, 0, 128, 0, 0), (113, .goto 6, 116, 119, 0, 0, 0, 0, 0, 0), (116, .iconst (-1), 117, 0, 0, 0, 0, 0, -1, 0), (117, .istore 5, 119, 5, 0, 0, 0, 0, 0, 0), (119, .iload 5, 121, 5, 0, 0, 0, 0, 0, 0)]),
  (100000, [(121, .ireturn, 122, 0, 0, 0, 0, 0, 0, 0)])]
def mmX10_set : am_M := (yX10_set, cX10_set, 6, some .int, 0, 0, 4, 10, [441, 439, 440, 76, 1], tbX10_set)
def tbX10_link : List (Nat × List am_I) := [(22, [(0, .aload_n 0, 1, 0, 0, 0, 0, 0, 0, 0), (1, .getfield 10, 4, 10, 0, 0, 0, 400, 0, 0), (4, .iload_n 2, 5, 2, 0, 0, 0, 0, 0, 0), (5, .iload_n 3, 6, 3, 0, 0, 0, 0, 0, 0), (6, .invokevirtual 99, 9, 75, 3, 0, 9, 450, 0, 0), (9, .ifCond .eq 12, 12, 21, 0, 0, 0, 0, 0, 0), (12, .iload_n 1, 13, 1, 0, 0, 0, 0, 0, 0), (13, .ifCond .lt 8, 16, 21, 0, 0, 0, 0, 0, 0), (16, .iload_n 1, 17, 1, 0, 0, 0, 0, 0, 0), (17, .iconst 1, 18, 0, 0, 0, 0, 0, 1, 0), (18, .if_icmp .le 5, 21, 23, 0, 0, 0, 0, 0, 0), (21, .iconst 0, 22, 0, 0, 0, 0, 0, 0, 0)]),
  (43, [(22, .ireturn, 23, 0, 0, 0, 0, 0, 0, 0), (23, .aload_n 0, 24, 0, 0, 0, 0, 0, 0, 0), (24, .getfield 10, 27, 10, 0, 0, 0, 400, 0, 0), (27, .getfield 80, 30, 9, 0, 0, 0, 169, 0, 0), (30, .iload_n 2, 31, 2, 0, 0, 0, 0, 0, 0), (31, .aaload, 32, 0, 0, 0, 0, 0, 0, 0), (32, .astore 5, 34, 5, 0, 0, 0, 0, 0, 0), (34, .aload_n 0, 35, 0, 0, 0, 0, 0, 0, 0), (35, .getfield 10, 38, 10, 0, 0, 0, 400, 0, 0), (38, .getfield 80, 41, 9, 0, 0, 0, 169, 0, 0), (41, .iload_n 3, 42, 3, 0, 0, 0, 0, 0, 0), (42, .aaload, 43, 0, 0, 0, 0, 0, 0, 0)]),
  (69, [(43, .astore 6, 45, 6, 0, 0, 0, 0, 0, 0), (45, .iload_n 1, 46, 1, 0, 0, 0, 0, 0, 0), (46, .ifCond .ne 38, 49, 84, 0, 0, 0, 0, 0, 0), (49, .aload 5, 51, 5, 0, 0, 0, 0, 0, 0), (51, .aload 5, 53, 5, 0, 0, 0, 0, 0, 0), (53, .getfield 103, 56, 4, 3, 0, 0, 132, 0, 0), (56, .iload_n 3, 57, 3, 0, 0, 0, 0, 0, 0), (57, .iload 4, 59, 4, 0, 0, 0, 0, 0, 0), (59, .invokestatic 106, 62, 135, 3, 1, 0, 455, 0, 0), (62, .putfield 103, 65, 4, 3, 0, 0, 132, 0, 0), (65, .aload 6, 67, 6, 0, 0, 0, 0, 0, 0), (67, .aload 6, 69, 6, 0, 0, 0, 0, 0, 0)]),
  (97, [(69, .getfield 103, 72, 4, 3, 0, 0, 132, 0, 0), (72, .iload_n 2, 73, 2, 0, 0, 0, 0, 0, 0), (73, .iload 4, 75, 4, 0, 0, 0, 0, 0, 0), (75, .invokestatic 106, 78, 135, 3, 1, 0, 455, 0, 0), (78, .putfield 103, 81, 4, 3, 0, 0, 132, 0, 0), (81, .goto 19, 84, 100, 0, 0, 0, 0, 0, 0), (84, .aload 5, 86, 5, 0, 0, 0, 0, 0, 0), (86, .aload 5, 88, 5, 0, 0, 0, 0, 0, 0), (88, .getfield 110, 91, 4, 4, 0, 0, 133, 0, 0), (91, .iload_n 3, 92, 3, 0, 0, 0, 0, 0, 0), (92, .iload 4, 94, 4, 0, 0, 0, 0, 0, 0), (94, .invokestatic 106, 97, 135, 3, 1, 0, 455, 0, 0)]),
  (100000, [(97, .putfield 110, 100, 4, 4, 0, 0, 133, 0, 0), (100, .iconst 1, 101, 0, 0, 0, 0, 0, 1, 0), (101, .ireturn, 102, 0, 0, 0, 0, 0, 0, 0)])]
def mmX10_link : am_M := (yX10_link, cX10_link, 7, some .boolean, 0, 0, 5, 10, [449, 447, 448, 76, 1], tbX10_link)
def tbX10_beam : List (Nat × List am_I) := [(26, [(0, .iconst (-1), 1, 0, 0, 0, 0, 0, -1, 0), (1, .istore_n 3, 2, 3, 0, 0, 0, 0, 0, 0), (2, .iload_n 1, 3, 1, 0, 0, 0, 0, 0, 0), (3, .ifCond .ne 52, 6, 55, 0, 0, 0, 0, 0, 0), (6, .aload_n 0, 7, 0, 0, 0, 0, 0, 0, 0), (7, .getfield 19, 10, 10, 1, 0, 0, 401, 0, 0), (10, .getfield 113, 13, 0, 0, 0, 0, 211, 0, 0), (13, .ifCond .ne 42, 16, 55, 0, 0, 0, 0, 0, 0), (16, .iload_n 2, 17, 2, 0, 0, 0, 0, 0, 0), (17, .sipush (-999), 20, 0, 0, 0, 0, 0, -999, 0), (20, .sipush 999, 23, 0, 0, 0, 0, 0, 999, 0), (23, .invokestatic 76, 26, 133, 3, 1, 0, 435, 0, 0)]),
  (52, [(26, .ifCond .eq 29, 29, 55, 0, 0, 0, 0, 0, 0), (29, .aload_n 0, 30, 0, 0, 0, 0, 0, 0, 0), (30, .getfield 19, 33, 10, 1, 0, 0, 401, 0, 0), (33, .getfield 116, 36, 0, 1, 0, 0, 214, 0, 0), (36, .istore_n 3, 37, 3, 0, 0, 0, 0, 0, 0), (37, .aload_n 0, 38, 0, 0, 0, 0, 0, 0, 0), (38, .getfield 19, 41, 10, 1, 0, 0, 401, 0, 0), (41, .iload_n 2, 42, 2, 0, 0, 0, 0, 0, 0), (42, .putfield 116, 45, 0, 1, 0, 0, 214, 0, 0), (45, .aload_n 0, 46, 0, 0, 0, 0, 0, 0, 0), (46, .getfield 19, 49, 10, 1, 0, 0, 401, 0, 0), (49, .invokevirtual 119, 52, 1, 1, 0, 0, 462, 0, 0)]),
  (78, [(52, .goto 119, 55, 171, 0, 0, 0, 0, 0, 0), (55, .iload_n 1, 56, 1, 0, 0, 0, 0, 0, 0), (56, .iconst 1, 57, 0, 0, 0, 0, 0, 1, 0), (57, .if_icmp .ne 33, 60, 90, 0, 0, 0, 0, 0, 0), (60, .iload_n 2, 61, 2, 0, 0, 0, 0, 0, 0), (61, .bipush (-99), 63, 0, 0, 0, 0, 0, -99, 0), (63, .bipush 99, 65, 0, 0, 0, 0, 0, 99, 0), (65, .invokestatic 76, 68, 133, 3, 1, 0, 435, 0, 0), (68, .ifCond .eq 22, 71, 90, 0, 0, 0, 0, 0, 0), (71, .aload_n 0, 72, 0, 0, 0, 0, 0, 0, 0), (72, .getfield 10, 75, 10, 0, 0, 0, 400, 0, 0), (75, .getfield 122, 78, 9, 4, 0, 0, 178, 0, 0)]),
  (99, [(78, .istore_n 3, 79, 3, 0, 0, 0, 0, 0, 0), (79, .aload_n 0, 80, 0, 0, 0, 0, 0, 0, 0), (80, .getfield 10, 83, 10, 0, 0, 0, 400, 0, 0), (83, .iload_n 2, 84, 2, 0, 0, 0, 0, 0, 0), (84, .putfield 122, 87, 9, 4, 0, 0, 178, 0, 0), (87, .goto 84, 90, 171, 0, 0, 0, 0, 0, 0), (90, .iload_n 1, 91, 1, 0, 0, 0, 0, 0, 0), (91, .iconst 2, 92, 0, 0, 0, 0, 0, 2, 0), (92, .if_icmp .ne 40, 95, 132, 0, 0, 0, 0, 0, 0), (95, .iload_n 2, 96, 2, 0, 0, 0, 0, 0, 0), (96, .iconst 0, 97, 0, 0, 0, 0, 0, 0, 0), (97, .bipush 10, 99, 0, 0, 0, 0, 0, 10, 0)]),
  (125, [(99, .aload_n 0, 100, 0, 0, 0, 0, 0, 0, 0), (100, .getfield 10, 103, 10, 0, 0, 0, 400, 0, 0), (103, .getfield 125, 106, 9, 6, 0, 0, 184, 0, 0), (106, .isub, 107, 0, 0, 0, 0, 0, 0, 0), (107, .invokestatic 76, 110, 133, 3, 1, 0, 435, 0, 0), (110, .ifCond .eq 22, 113, 132, 0, 0, 0, 0, 0, 0), (113, .aload_n 0, 114, 0, 0, 0, 0, 0, 0, 0), (114, .getfield 10, 117, 10, 0, 0, 0, 400, 0, 0), (117, .getfield 128, 120, 9, 5, 0, 0, 181, 0, 0), (120, .istore_n 3, 121, 3, 0, 0, 0, 0, 0, 0), (121, .aload_n 0, 122, 0, 0, 0, 0, 0, 0, 0), (122, .getfield 10, 125, 10, 0, 0, 0, 400, 0, 0)]),
  (148, [(125, .iload_n 2, 126, 2, 0, 0, 0, 0, 0, 0), (126, .putfield 128, 129, 9, 5, 0, 0, 181, 0, 0), (129, .goto 42, 132, 171, 0, 0, 0, 0, 0, 0), (132, .iload_n 1, 133, 1, 0, 0, 0, 0, 0, 0), (133, .iconst 3, 134, 0, 0, 0, 0, 0, 3, 0), (134, .if_icmp .ne 37, 137, 171, 0, 0, 0, 0, 0, 0), (137, .iload_n 2, 138, 2, 0, 0, 0, 0, 0, 0), (138, .iconst 0, 139, 0, 0, 0, 0, 0, 0, 0), (139, .bipush 10, 141, 0, 0, 0, 0, 0, 10, 0), (141, .aload_n 0, 142, 0, 0, 0, 0, 0, 0, 0), (142, .getfield 10, 145, 10, 0, 0, 0, 400, 0, 0), (145, .getfield 128, 148, 9, 5, 0, 0, 181, 0, 0)]),
  (172, [(148, .isub, 149, 0, 0, 0, 0, 0, 0, 0), (149, .invokestatic 76, 152, 133, 3, 1, 0, 435, 0, 0), (152, .ifCond .eq 19, 155, 171, 0, 0, 0, 0, 0, 0), (155, .aload_n 0, 156, 0, 0, 0, 0, 0, 0, 0), (156, .getfield 10, 159, 10, 0, 0, 0, 400, 0, 0), (159, .getfield 125, 162, 9, 6, 0, 0, 184, 0, 0), (162, .istore_n 3, 163, 3, 0, 0, 0, 0, 0, 0), (163, .aload_n 0, 164, 0, 0, 0, 0, 0, 0, 0), (164, .getfield 10, 167, 10, 0, 0, 0, 400, 0, 0), (167, .iload_n 2, 168, 2, 0, 0, 0, 0, 0, 0), (168, .putfield 125, 171, 9, 6, 0, 0, 184, 0, 0), (171, .iload_n 3, 172, 3, 0, 0, 0, 0, 0, 0)]),
  (100000, [(172, .ireturn, 173, 0, 0, 0, 0, 0, 0, 0)])]
def mmX10_beam : am_M := (yX10_beam, cX10_beam, 4, some .int, 0, 0, 3, 10, [461, 459, 460, 76, 1], tbX10_beam)
def tbX10_sheet : List (Nat × List am_I) := [(19, [(0, .iload_n 1, 1, 1, 0, 0, 0, 0, 0, 0), (1, .ifCond .lt 14, 4, 15, 0, 0, 0, 0, 0, 0), (4, .iload_n 1, 5, 1, 0, 0, 0, 0, 0, 0), (5, .iconst 3, 6, 0, 0, 0, 0, 0, 3, 0), (6, .if_icmp .gt 9, 9, 15, 0, 0, 0, 0, 0, 0), (9, .iload_n 2, 10, 2, 0, 0, 0, 0, 0, 0), (10, .bipush 6, 12, 0, 0, 0, 0, 0, 6, 0), (12, .if_icmp .le 5, 15, 17, 0, 0, 0, 0, 0, 0), (15, .iconst (-1), 16, 0, 0, 0, 0, 0, -1, 0), (16, .ireturn, 17, 0, 0, 0, 0, 0, 0, 0), (17, .iload_n 1, 18, 1, 0, 0, 0, 0, 0, 0), (18, .iconst 3, 19, 0, 0, 0, 0, 0, 3, 0)]),
  (42, [(19, .if_icmp .ne 7, 22, 26, 0, 0, 0, 0, 0, 0), (22, .iconst 1, 23, 0, 0, 0, 0, 0, 1, 0), (23, .goto 4, 26, 27, 0, 0, 0, 0, 0, 0), (26, .iconst 0, 27, 0, 0, 0, 0, 0, 0, 0), (27, .istore 5, 29, 5, 0, 0, 0, 0, 0, 0), (29, .iload 5, 31, 5, 0, 0, 0, 0, 0, 0), (31, .ifCond .ne 10, 34, 41, 0, 0, 0, 0, 0, 0), (34, .iload_n 2, 35, 2, 0, 0, 0, 0, 0, 0), (35, .ifCond .ge 6, 38, 41, 0, 0, 0, 0, 0, 0), (38, .bipush (-2), 40, 0, 0, 0, 0, 0, -2, 0), (40, .ireturn, 41, 0, 0, 0, 0, 0, 0, 0), (41, .iconst 0, 42, 0, 0, 0, 0, 0, 0, 0)]),
  (67, [(42, .istore 6, 44, 6, 0, 0, 0, 0, 0, 0), (44, .iconst 0, 45, 0, 0, 0, 0, 0, 0, 0), (45, .istore 7, 47, 7, 0, 0, 0, 0, 0, 0), (47, .iload 7, 49, 7, 0, 0, 0, 0, 0, 0), (49, .aload_n 0, 50, 0, 0, 0, 0, 0, 0, 0), (50, .getfield 10, 53, 10, 0, 0, 0, 400, 0, 0), (53, .getfield 72, 56, 9, 1, 0, 0, 171, 0, 0), (56, .if_icmp .ge 59, 59, 115, 0, 0, 0, 0, 0, 0), (59, .iload 5, 61, 5, 0, 0, 0, 0, 0, 0), (61, .ifCond .ne 9, 64, 70, 0, 0, 0, 0, 0, 0), (64, .iload 7, 66, 7, 0, 0, 0, 0, 0, 0), (66, .iload_n 2, 67, 2, 0, 0, 0, 0, 0, 0)]),
  (88, [(67, .if_icmp .lt 7, 70, 74, 0, 0, 0, 0, 0, 0), (70, .iconst 0, 71, 0, 0, 0, 0, 0, 0, 0), (71, .goto 14, 74, 85, 0, 0, 0, 0, 0, 0), (74, .iload_n 1, 75, 1, 0, 0, 0, 0, 0, 0), (75, .iload_n 3, 76, 3, 0, 0, 0, 0, 0, 0), (76, .iload 7, 78, 7, 0, 0, 0, 0, 0, 0), (78, .iload 4, 80, 4, 0, 0, 0, 0, 0, 0), (80, .imul, 81, 0, 0, 0, 0, 0, 0, 0), (81, .iadd, 82, 0, 0, 0, 0, 0, 0, 0), (82, .invokestatic 131, 85, 138, 2, 1, 0, 470, 0, 0), (85, .istore 8, 87, 8, 0, 0, 0, 0, 0, 0), (87, .aload_n 0, 88, 0, 0, 0, 0, 0, 0, 0)]),
  (115, [(88, .getfield 10, 91, 10, 0, 0, 0, 400, 0, 0), (91, .getfield 80, 94, 9, 0, 0, 0, 169, 0, 0), (94, .iload 7, 96, 7, 0, 0, 0, 0, 0, 0), (96, .aaload, 97, 0, 0, 0, 0, 0, 0, 0), (97, .iload 8, 99, 8, 0, 0, 0, 0, 0, 0), (99, .putfield 84, 102, 4, 0, 0, 0, 124, 0, 0), (102, .iload 6, 104, 6, 0, 0, 0, 0, 0, 0), (104, .iload 8, 106, 8, 0, 0, 0, 0, 0, 0), (106, .iadd, 107, 0, 0, 0, 0, 0, 0, 0), (107, .istore 6, 109, 6, 0, 0, 0, 0, 0, 0), (109, .iinc 7 1, 112, 7, 0, 0, 0, 0, 1, 0), (112, .goto (-65), 115, 47, 0, 0, 0, 0, 0, 0)]),
  (100000, [(115, .iload 5, 117, 5, 0, 0, 0, 0, 0, 0), (117, .ifCond .eq 8, 120, 125, 0, 0, 0, 0, 0, 0), (120, .bipush (-3), 122, 0, 0, 0, 0, 0, -3, 0), (122, .goto 5, 125, 127, 0, 0, 0, 0, 0, 0), (125, .iload 6, 127, 6, 0, 0, 0, 0, 0, 0), (127, .ireturn, 128, 0, 0, 0, 0, 0, 0, 0)])]
def mmX10_sheet : am_M := (yX10_sheet, cX10_sheet, 9, some .int, 0, 0, 5, 10, [469, 467, 468, 76, 1], tbX10_sheet)
def tbX10_sign : List (Nat × List am_I) := [(100000, [(0, .aload_n 0, 1, 0, 0, 0, 0, 0, 0, 0), (1, .getfield 33, 4, 10, 4, 0, 0, 404, 0, 0), (4, .iload_n 1, 5, 1, 0, 0, 0, 0, 0, 0), (5, .invokevirtual 135, 8, 43, 2, 0, 5, 477, 0, 0), (8, .ifCond .eq 13, 11, 21, 0, 0, 0, 0, 0, 0), (11, .aload_n 0, 12, 0, 0, 0, 0, 0, 0, 0), (12, .getfield 33, 15, 10, 4, 0, 0, 404, 0, 0), (15, .getfield 138, 18, 5, 1, 0, 0, 260, 0, 0), (18, .goto 4, 21, 22, 0, 0, 0, 0, 0, 0), (21, .iconst (-1), 22, 0, 0, 0, 0, 0, -1, 0), (22, .ireturn, 23, 0, 0, 0, 0, 0, 0, 0)])]
def mmX10_sign : am_M := (yX10_sign, cX10_sign, 2, some .int, 0, 0, 2, 10, [476, 474, 475, 76, 1], tbX10_sign)
def tbX10_end : List (Nat × List am_I) := [(22, [(0, .iload_n 1, 1, 1, 0, 0, 0, 0, 0, 0), (1, .ifCond .lt 14, 4, 15, 0, 0, 0, 0, 0, 0), (4, .iload_n 1, 5, 1, 0, 0, 0, 0, 0, 0), (5, .aload_n 0, 6, 0, 0, 0, 0, 0, 0, 0), (6, .getfield 33, 9, 10, 4, 0, 0, 404, 0, 0), (9, .getfield 138, 12, 5, 1, 0, 0, 260, 0, 0), (12, .if_icmp .le 5, 15, 17, 0, 0, 0, 0, 0, 0), (15, .iconst 0, 16, 0, 0, 0, 0, 0, 0, 0), (16, .ireturn, 17, 0, 0, 0, 0, 0, 0, 0), (17, .aload_n 0, 18, 0, 0, 0, 0, 0, 0, 0), (18, .getfield 33, 21, 10, 4, 0, 0, 404, 0, 0), (21, .iload_n 1, 22, 1, 0, 0, 0, 0, 0, 0)]),
  (100000, [(22, .putfield 138, 25, 5, 1, 0, 0, 260, 0, 0), (25, .iconst 1, 26, 0, 0, 0, 0, 0, 1, 0), (26, .ireturn, 27, 0, 0, 0, 0, 0, 0, 0)])]
def mmX10_end : am_M := (yX10_end, cX10_end, 2, some .boolean, 0, 0, 2, 10, [484, 482, 483, 76, 1], tbX10_end)
def tbX10_rule : List (Nat × List am_I) := [(23, [(0, .bipush (-100), 2, 0, 0, 0, 0, 0, -100, 0), (2, .istore_n 2, 3, 2, 0, 0, 0, 0, 0, 0), (3, .iload_n 1, 4, 1, 0, 0, 0, 0, 0, 0), (4, .ifCond .lt 28, 7, 32, 0, 0, 0, 0, 0, 0), (7, .iload_n 1, 8, 1, 0, 0, 0, 0, 0, 0), (8, .bipush 12, 10, 0, 0, 0, 0, 0, 12, 0), (10, .if_icmp .ge 22, 13, 32, 0, 0, 0, 0, 0, 0), (13, .aload_n 0, 14, 0, 0, 0, 0, 0, 0, 0), (14, .getfield 33, 17, 10, 4, 0, 0, 404, 0, 0), (17, .ldc 141, 19, 0, 1000000, 1, 0, 0, 0, 0), (19, .aload_n 0, 20, 0, 0, 0, 0, 0, 0, 0), (20, .getfield 10, 23, 10, 0, 0, 0, 400, 0, 0)]),
  (100000, [(23, .getfield 143, 26, 9, 2, 0, 0, 174, 0, 0), (26, .iload_n 1, 27, 1, 0, 0, 0, 0, 0, 0), (27, .aaload, 28, 0, 0, 0, 0, 0, 0, 0), (28, .invokevirtual 147, 31, 44, 3, 0, 5, 490, 0, 0), (31, .istore_n 2, 32, 2, 0, 0, 0, 0, 0, 0), (32, .aload_n 0, 33, 0, 0, 0, 0, 0, 0, 0), (33, .getfield 33, 36, 10, 4, 0, 0, 404, 0, 0), (36, .iconst 0, 37, 0, 0, 0, 0, 0, 0, 0), (37, .putfield 138, 40, 5, 1, 0, 0, 260, 0, 0), (40, .iload_n 2, 41, 2, 0, 0, 0, 0, 0, 0), (41, .ireturn, 42, 0, 0, 0, 0, 0, 0, 0)])]
def mmX10_rule : am_M := (yX10_rule, cX10_rule, 3, some .int, 0, 0, 2, 10, [488, 486, 487, 76, 1], tbX10_rule)
def tbX10_does : List (Nat × List am_I) := [(28, [(0, .aload_n 0, 1, 0, 0, 0, 0, 0, 0, 0), (1, .getfield 10, 4, 10, 0, 0, 0, 400, 0, 0), (4, .iload_n 1, 5, 1, 0, 0, 0, 0, 0, 0), (5, .invokevirtual 95, 8, 74, 2, 0, 9, 442, 0, 0), (8, .ifCond .eq 12, 11, 20, 0, 0, 0, 0, 0, 0), (11, .iload_n 2, 12, 2, 0, 0, 0, 0, 0, 0), (12, .ifCond .lt 8, 15, 20, 0, 0, 0, 0, 0, 0), (15, .iload_n 2, 16, 2, 0, 0, 0, 0, 0, 0), (16, .iconst 1, 17, 0, 0, 0, 0, 0, 1, 0), (17, .if_icmp .le 11, 20, 28, 0, 0, 0, 0, 0, 0), (20, .new 151, 23, 0, 0, 1, 0, 0, 0, 0), (23, .dup, 24, 0, 0, 0, 0, 0, 0, 0)]),
  (52, [(28, .aload_n 0, 29, 0, 0, 0, 0, 0, 0, 0), (29, .getfield 10, 32, 10, 0, 0, 0, 400, 0, 0), (32, .aload_n 0, 33, 0, 0, 0, 0, 0, 0, 0), (33, .getfield 19, 36, 10, 1, 0, 0, 401, 0, 0), (36, .iload_n 1, 37, 1, 0, 0, 0, 0, 0, 0), (37, .invokevirtual 154, 40, 80, 3, 0, 9, 1154, 0, 0), (40, .iload_n 2, 41, 2, 0, 0, 0, 0, 0, 0), (41, .ifCond .ne 14, 44, 55, 0, 0, 0, 0, 0, 0), (44, .aload_n 0, 45, 0, 0, 0, 0, 0, 0, 0), (45, .getfield 10, 48, 10, 0, 0, 0, 400, 0, 0), (48, .iload_n 1, 49, 1, 0, 0, 0, 0, 0, 0), (49, .invokevirtual 158, 52, 82, 2, 0, 9, 1155, 0, 0)]),
  (100000, [(52, .goto 11, 55, 63, 0, 0, 0, 0, 0, 0), (55, .aload_n 0, 56, 0, 0, 0, 0, 0, 0, 0), (56, .getfield 10, 59, 10, 0, 0, 0, 400, 0, 0), (59, .iload_n 1, 60, 1, 0, 0, 0, 0, 0, 0), (60, .invokevirtual 162, 63, 83, 2, 0, 9, 1156, 0, 0), (63, .ireturn, 64, 0, 0, 0, 0, 0, 0, 0)])]
def mmX10_does : am_M := (yX10_does, cX10_does, 3, some .int, 0, 0, 3, 10, [1092, 1090, 1091, 76, 1], tbX10_does)
def tbX10_go : List (Nat × List am_I) := [(28, [(0, .iload_n 1, 1, 1, 0, 0, 0, 0, 0, 0), (1, .iconst 0, 2, 0, 0, 0, 0, 0, 0, 0), (2, .sipush 199, 5, 0, 0, 0, 0, 0, 199, 0), (5, .invokestatic 76, 8, 133, 3, 1, 0, 435, 0, 0), (8, .ifCond .ne 11, 11, 19, 0, 0, 0, 0, 0, 0), (11, .new 151, 14, 0, 0, 1, 0, 0, 0, 0), (14, .dup, 15, 0, 0, 0, 0, 0, 0, 0), (19, .aload_n 0, 20, 0, 0, 0, 0, 0, 0, 0), (20, .getfield 10, 23, 10, 0, 0, 0, 400, 0, 0), (23, .aload_n 0, 24, 0, 0, 0, 0, 0, 0, 0), (24, .getfield 19, 27, 10, 1, 0, 0, 401, 0, 0), (27, .iload_n 1, 28, 1, 0, 0, 0, 0, 0, 0)]),
  (100000, [(28, .invokevirtual 165, 31, 84, 3, 0, 9, 729, 0, 0), (31, .aload_n 0, 32, 0, 0, 0, 0, 0, 0, 0), (32, .getfield 19, 35, 10, 1, 0, 0, 401, 0, 0), (35, .aload_n 0, 36, 0, 0, 0, 0, 0, 0, 0), (36, .getfield 19, 39, 10, 1, 0, 0, 401, 0, 0), (39, .getfield 113, 42, 0, 0, 0, 0, 211, 0, 0), (42, .invokevirtual 168, 45, 3, 2, 0, 0, 788, 0, 0), (45, .ireturn, 46, 0, 0, 0, 0, 0, 0, 0)])]
def mmX10_go : am_M := (yX10_go, cX10_go, 2, some .int, 0, 0, 2, 10, [1163, 1161, 1162, 76, 1], tbX10_go)
def tbX10_begin : List (Nat × List am_I) := [(100000, [(0, .aload_n 0, 1, 0, 0, 0, 0, 0, 0, 0), (1, .getfield 19, 4, 10, 1, 0, 0, 401, 0, 0), (4, .invokevirtual 119, 7, 1, 1, 0, 0, 462, 0, 0), (7, .iconst 1, 8, 0, 0, 0, 0, 0, 1, 0), (8, .ireturn, 9, 0, 0, 0, 0, 0, 0, 0)])]
def mmX10_begin : am_M := (yX10_begin, cX10_begin, 1, some .boolean, 0, 0, 1, 10, [640, 638, 639, 76, 1], tbX10_begin)
def tbX10_place : List (Nat × List am_I) := [(28, [(0, .iload_n 1, 1, 1, 0, 0, 0, 0, 0, 0), (1, .iconst 0, 2, 0, 0, 0, 0, 0, 0, 0), (2, .aload_n 0, 3, 0, 0, 0, 0, 0, 0, 0), (3, .getfield 19, 6, 10, 1, 0, 0, 401, 0, 0), (6, .getfield 113, 9, 0, 0, 0, 0, 211, 0, 0), (9, .invokestatic 76, 12, 133, 3, 1, 0, 435, 0, 0), (12, .ifCond .ne 11, 15, 23, 0, 0, 0, 0, 0, 0), (15, .new 151, 18, 0, 0, 1, 0, 0, 0, 0), (18, .dup, 19, 0, 0, 0, 0, 0, 0, 0), (23, .aload_n 0, 24, 0, 0, 0, 0, 0, 0, 0), (24, .getfield 19, 27, 10, 1, 0, 0, 401, 0, 0), (27, .iload_n 1, 28, 1, 0, 0, 0, 0, 0, 0)]),
  (100000, [(28, .invokevirtual 168, 31, 3, 2, 0, 0, 788, 0, 0), (31, .ireturn, 32, 0, 0, 0, 0, 0, 0, 0)])]
def mmX10_place : am_M := (yX10_place, cX10_place, 2, some .int, 0, 0, 2, 10, [1170, 1168, 1169, 76, 1], tbX10_place)
def tbX10_was : List (Nat × List am_I) := [(22, [(0, .aload_n 0, 1, 0, 0, 0, 0, 0, 0, 0), (1, .getfield 10, 4, 10, 0, 0, 0, 400, 0, 0), (4, .iload_n 1, 5, 1, 0, 0, 0, 0, 0, 0), (5, .invokevirtual 95, 8, 74, 2, 0, 9, 442, 0, 0), (8, .ifCond .eq 29, 11, 37, 0, 0, 0, 0, 0, 0), (11, .iload_n 2, 12, 2, 0, 0, 0, 0, 0, 0), (12, .iconst 0, 13, 0, 0, 0, 0, 0, 0, 0), (13, .aload_n 0, 14, 0, 0, 0, 0, 0, 0, 0), (14, .getfield 19, 17, 10, 1, 0, 0, 401, 0, 0), (17, .getfield 113, 20, 0, 0, 0, 0, 211, 0, 0), (20, .iconst 1, 21, 0, 0, 0, 0, 0, 1, 0), (21, .isub, 22, 0, 0, 0, 0, 0, 0, 0)]),
  (52, [(22, .invokestatic 76, 25, 133, 3, 1, 0, 435, 0, 0), (25, .ifCond .eq 12, 28, 37, 0, 0, 0, 0, 0, 0), (28, .iload_n 3, 29, 3, 0, 0, 0, 0, 0, 0), (29, .ifCond .lt 8, 32, 37, 0, 0, 0, 0, 0, 0), (32, .iload_n 3, 33, 3, 0, 0, 0, 0, 0, 0), (33, .iconst 3, 34, 0, 0, 0, 0, 0, 3, 0), (34, .if_icmp .le 11, 37, 45, 0, 0, 0, 0, 0, 0), (37, .new 151, 40, 0, 0, 1, 0, 0, 0, 0), (40, .dup, 41, 0, 0, 0, 0, 0, 0, 0), (45, .aload_n 0, 46, 0, 0, 0, 0, 0, 0, 0), (46, .getfield 19, 49, 10, 1, 0, 0, 401, 0, 0), (49, .getfield 171, 52, 0, 6, 0, 0, 225, 0, 0)]),
  (76, [(52, .astore 4, 54, 4, 0, 0, 0, 0, 0, 0), (54, .iload_n 3, 55, 3, 0, 0, 0, 0, 0, 0), (55, .ifCond .ne 15, 58, 70, 0, 0, 0, 0, 0, 0), (58, .aload_n 0, 59, 0, 0, 0, 0, 0, 0, 0), (59, .getfield 19, 62, 10, 1, 0, 0, 401, 0, 0), (62, .getfield 175, 65, 0, 5, 0, 0, 222, 0, 0), (65, .astore 4, 67, 4, 0, 0, 0, 0, 0, 0), (67, .goto 34, 70, 101, 0, 0, 0, 0, 0, 0), (70, .iload_n 3, 71, 3, 0, 0, 0, 0, 0, 0), (71, .iconst 2, 72, 0, 0, 0, 0, 0, 2, 0), (72, .if_icmp .ne 15, 75, 87, 0, 0, 0, 0, 0, 0), (75, .aload_n 0, 76, 0, 0, 0, 0, 0, 0, 0)]),
  (102, [(76, .getfield 19, 79, 10, 1, 0, 0, 401, 0, 0), (79, .getfield 178, 82, 0, 7, 0, 0, 227, 0, 0), (82, .astore 4, 84, 4, 0, 0, 0, 0, 0, 0), (84, .goto 17, 87, 101, 0, 0, 0, 0, 0, 0), (87, .iload_n 3, 88, 3, 0, 0, 0, 0, 0, 0), (88, .iconst 3, 89, 0, 0, 0, 0, 0, 3, 0), (89, .if_icmp .ne 12, 92, 101, 0, 0, 0, 0, 0, 0), (92, .aload_n 0, 93, 0, 0, 0, 0, 0, 0, 0), (93, .getfield 19, 96, 10, 1, 0, 0, 401, 0, 0), (96, .getfield 181, 99, 0, 8, 0, 0, 229, 0, 0), (99, .astore 4, 101, 4, 0, 0, 0, 0, 0, 0), (101, .aload_n 0, 102, 0, 0, 0, 0, 0, 0, 0)]),
  (100000, [(102, .getfield 19, 105, 10, 1, 0, 0, 401, 0, 0), (105, .aload 4, 107, 4, 0, 0, 0, 0, 0, 0), (107, .iload_n 1, 108, 1, 0, 0, 0, 0, 0, 0), (108, .iload_n 2, 109, 2, 0, 0, 0, 0, 0, 0), (109, .invokevirtual 184, 112, 4, 4, 0, 0, 806, 0, 0), (112, .ireturn, 113, 0, 0, 0, 0, 0, 0, 0)])]
def mmX10_was : am_M := (yX10_was, cX10_was, 5, some .int, 0, 0, 4, 10, [1177, 1175, 1176, 76, 1], tbX10_was)
def tbX10_cost : List (Nat × List am_I) := [(24, [(0, .aload_n 0, 1, 0, 0, 0, 0, 0, 0, 0), (1, .getfield 40, 4, 10, 5, 0, 0, 405, 0, 0), (4, .aload_n 0, 5, 0, 0, 0, 0, 0, 0, 0), (5, .getfield 19, 8, 10, 1, 0, 0, 401, 0, 0), (8, .aload_n 0, 9, 0, 0, 0, 0, 0, 0, 0), (9, .getfield 10, 12, 10, 0, 0, 0, 400, 0, 0), (12, .getfield 122, 15, 9, 4, 0, 0, 178, 0, 0), (15, .invokevirtual 188, 18, 11, 2, 0, 0, 645, 0, 0), (18, .i2l, 19, 0, 0, 0, 0, 0, 0, 0), (19, .aload_n 0, 20, 0, 0, 0, 0, 0, 0, 0), (20, .getfield 19, 23, 10, 1, 0, 0, 401, 0, 0), (23, .iconst 0, 24, 0, 0, 0, 0, 0, 0, 0)]),
  (50, [(24, .aload_n 0, 25, 0, 0, 0, 0, 0, 0, 0), (25, .getfield 19, 28, 10, 1, 0, 0, 401, 0, 0), (28, .getfield 113, 31, 0, 0, 0, 0, 211, 0, 0), (31, .aload_n 0, 32, 0, 0, 0, 0, 0, 0, 0), (32, .getfield 10, 35, 10, 0, 0, 0, 400, 0, 0), (35, .getfield 122, 38, 9, 4, 0, 0, 178, 0, 0), (38, .invokevirtual 191, 41, 12, 4, 0, 0, 653, 0, 0), (41, .i2l, 42, 0, 0, 0, 0, 0, 0, 0), (42, .invokevirtual 195, 45, 65, 3, 0, 7, 665, 0, 0), (45, .aload_n 0, 46, 0, 0, 0, 0, 0, 0, 0), (46, .getfield 19, 49, 10, 1, 0, 0, 401, 0, 0), (49, .aload_n 0, 50, 0, 0, 0, 0, 0, 0, 0)]),
  (100000, [(50, .getfield 10, 53, 10, 0, 0, 0, 400, 0, 0), (53, .getfield 122, 56, 9, 4, 0, 0, 178, 0, 0), (56, .invokevirtual 199, 59, 10, 2, 0, 0, 681, 0, 0), (59, .ireturn, 60, 0, 0, 0, 0, 0, 0, 0)])]
def mmX10_cost : am_M := (yX10_cost, cX10_cost, 1, some .int, 0, 0, 1, 10, [644, 642, 643, 76, 1], tbX10_cost)
def tbX10_crossed : List (Nat × List am_I) := [(18, [(0, .iconst 0, 1, 0, 0, 0, 0, 0, 0, 0), (1, .istore_n 1, 2, 1, 0, 0, 0, 0, 0, 0), (2, .iconst 0, 3, 0, 0, 0, 0, 0, 0, 0), (3, .istore_n 2, 4, 2, 0, 0, 0, 0, 0, 0), (4, .iload_n 2, 5, 2, 0, 0, 0, 0, 0, 0), (5, .aload_n 0, 6, 0, 0, 0, 0, 0, 0, 0), (6, .getfield 10, 9, 10, 0, 0, 0, 400, 0, 0), (9, .getfield 72, 12, 9, 1, 0, 0, 171, 0, 0), (12, .if_icmp .ge 65, 15, 77, 0, 0, 0, 0, 0, 0), (15, .iload_n 2, 16, 2, 0, 0, 0, 0, 0, 0), (16, .iconst 1, 17, 0, 0, 0, 0, 0, 1, 0), (17, .iadd, 18, 0, 0, 0, 0, 0, 0, 0)]),
  (42, [(18, .istore_n 3, 19, 3, 0, 0, 0, 0, 0, 0), (19, .iload_n 3, 20, 3, 0, 0, 0, 0, 0, 0), (20, .aload_n 0, 21, 0, 0, 0, 0, 0, 0, 0), (21, .getfield 10, 24, 10, 0, 0, 0, 400, 0, 0), (24, .getfield 72, 27, 9, 1, 0, 0, 171, 0, 0), (27, .if_icmp .ge 44, 30, 71, 0, 0, 0, 0, 0, 0), (30, .aload_n 0, 31, 0, 0, 0, 0, 0, 0, 0), (31, .getfield 10, 34, 10, 0, 0, 0, 400, 0, 0), (34, .iload_n 2, 35, 2, 0, 0, 0, 0, 0, 0), (35, .iload_n 3, 36, 3, 0, 0, 0, 0, 0, 0), (36, .invokevirtual 202, 39, 76, 3, 0, 9, 689, 0, 0), (39, .ifCond .eq 26, 42, 65, 0, 0, 0, 0, 0, 0)]),
  (58, [(42, .iload_n 1, 43, 1, 0, 0, 0, 0, 0, 0), (43, .aload_n 0, 44, 0, 0, 0, 0, 0, 0, 0), (44, .iload_n 2, 45, 2, 0, 0, 0, 0, 0, 0), (45, .iload_n 3, 46, 3, 0, 0, 0, 0, 0, 0), (46, .invokevirtual 205, 49, 143, 3, 0, 10, 697, 0, 0), (49, .aload_n 0, 50, 0, 0, 0, 0, 0, 0, 0), (50, .iload_n 2, 51, 2, 0, 0, 0, 0, 0, 0), (51, .iload_n 3, 52, 3, 0, 0, 0, 0, 0, 0), (52, .invokevirtual 208, 55, 144, 3, 0, 10, 709, 0, 0), (55, .iadd, 56, 0, 0, 0, 0, 0, 0, 0), (56, .aload_n 0, 57, 0, 0, 0, 0, 0, 0, 0), (57, .iload_n 3, 58, 3, 0, 0, 0, 0, 0, 0)]),
  (100000, [(58, .iload_n 2, 59, 2, 0, 0, 0, 0, 0, 0), (59, .invokevirtual 208, 62, 144, 3, 0, 10, 709, 0, 0), (62, .iadd, 63, 0, 0, 0, 0, 0, 0, 0), (63, .iadd, 64, 0, 0, 0, 0, 0, 0, 0), (64, .istore_n 1, 65, 1, 0, 0, 0, 0, 0, 0), (65, .iinc 3 1, 68, 3, 0, 0, 0, 0, 1, 0), (68, .goto (-49), 71, 19, 0, 0, 0, 0, 0, 0), (71, .iinc 2 1, 74, 2, 0, 0, 0, 0, 1, 0), (74, .goto (-70), 77, 4, 0, 0, 0, 0, 0, 0), (77, .iload_n 1, 78, 1, 0, 0, 0, 0, 0, 0), (78, .ireturn, 79, 0, 0, 0, 0, 0, 0, 0)])]
def mmX10_crossed : am_M := (yX10_crossed, cX10_crossed, 4, some .int, 0, 0, 1, 10, [688, 686, 687, 76, 1], tbX10_crossed)
def tbX10_by : List (Nat × List am_I) := [(24, [(0, .aload_n 0, 1, 0, 0, 0, 0, 0, 0, 0), (1, .getfield 10, 4, 10, 0, 0, 0, 400, 0, 0), (4, .iload_n 1, 5, 1, 0, 0, 0, 0, 0, 0), (5, .iload_n 2, 6, 2, 0, 0, 0, 0, 0, 0), (6, .invokevirtual 99, 9, 75, 3, 0, 9, 450, 0, 0), (9, .ifCond .eq 14, 12, 23, 0, 0, 0, 0, 0, 0), (12, .iload_n 3, 13, 3, 0, 0, 0, 0, 0, 0), (13, .iconst 0, 14, 0, 0, 0, 0, 0, 0, 0), (14, .sipush 199, 17, 0, 0, 0, 0, 0, 199, 0), (17, .invokestatic 76, 20, 133, 3, 1, 0, 435, 0, 0), (20, .ifCond .ne 5, 23, 25, 0, 0, 0, 0, 0, 0), (23, .iconst (-1), 24, 0, 0, 0, 0, 0, -1, 0)]),
  (46, [(24, .ireturn, 25, 0, 0, 0, 0, 0, 0, 0), (25, .iload_n 3, 26, 3, 0, 0, 0, 0, 0, 0), (26, .aload_n 0, 27, 0, 0, 0, 0, 0, 0, 0), (27, .getfield 10, 30, 10, 0, 0, 0, 400, 0, 0), (30, .getfield 80, 33, 9, 0, 0, 0, 169, 0, 0), (33, .iload_n 2, 34, 2, 0, 0, 0, 0, 0, 0), (34, .aaload, 35, 0, 0, 0, 0, 0, 0, 0), (35, .invokevirtual 211, 38, 41, 1, 0, 4, 713, 0, 0), (38, .isub, 39, 0, 0, 0, 0, 0, 0, 0), (39, .istore 4, 41, 4, 0, 0, 0, 0, 0, 0), (41, .iload 4, 43, 4, 0, 0, 0, 0, 0, 0), (43, .ifCond .lt 15, 46, 58, 0, 0, 0, 0, 0, 0)]),
  (100000, [(46, .aload_n 0, 47, 0, 0, 0, 0, 0, 0, 0), (47, .getfield 10, 50, 10, 0, 0, 0, 400, 0, 0), (50, .iload_n 1, 51, 1, 0, 0, 0, 0, 0, 0), (51, .iload_n 2, 52, 2, 0, 0, 0, 0, 0, 0), (52, .invokevirtual 202, 55, 76, 3, 0, 9, 689, 0, 0), (55, .ifCond .ne 8, 58, 63, 0, 0, 0, 0, 0, 0), (58, .bipush (-2), 60, 0, 0, 0, 0, 0, -2, 0), (60, .goto 5, 63, 65, 0, 0, 0, 0, 0, 0), (63, .iload 4, 65, 4, 0, 0, 0, 0, 0, 0), (65, .ireturn, 66, 0, 0, 0, 0, 0, 0, 0)])]
def mmX10_by : am_M := (yX10_by, cX10_by, 5, some .int, 0, 0, 4, 10, [720, 718, 719, 76, 1], tbX10_by)
def tbX10_would : List (Nat × List am_I) := [(20, [(0, .iload_n 1, 1, 1, 0, 0, 0, 0, 0, 0), (1, .iconst 1, 2, 0, 0, 0, 0, 0, 1, 0), (2, .sipush 199, 5, 0, 0, 0, 0, 0, 199, 0), (5, .invokestatic 76, 8, 133, 3, 1, 0, 435, 0, 0), (8, .ifCond .ne 5, 11, 13, 0, 0, 0, 0, 0, 0), (11, .iconst (-1), 12, 0, 0, 0, 0, 0, -1, 0), (12, .ireturn, 13, 0, 0, 0, 0, 0, 0, 0), (13, .aload_n 0, 14, 0, 0, 0, 0, 0, 0, 0), (14, .iload_n 1, 15, 1, 0, 0, 0, 0, 0, 0), (15, .iload_n 2, 16, 2, 0, 0, 0, 0, 0, 0), (16, .invokevirtual 215, 19, 141, 3, 0, 10, 725, 0, 0), (19, .istore_n 3, 20, 3, 0, 0, 0, 0, 0, 0)]),
  (100000, [(20, .aload_n 0, 21, 0, 0, 0, 0, 0, 0, 0), (21, .getfield 40, 24, 10, 5, 0, 0, 405, 0, 0), (24, .aload_n 0, 25, 0, 0, 0, 0, 0, 0, 0), (25, .getfield 23, 28, 10, 2, 0, 0, 402, 0, 0), (28, .aload_n 0, 29, 0, 0, 0, 0, 0, 0, 0), (29, .getfield 23, 32, 10, 2, 0, 0, 402, 0, 0), (32, .getfield 113, 35, 0, 0, 0, 0, 211, 0, 0), (35, .invokevirtual 168, 38, 3, 2, 0, 0, 788, 0, 0), (38, .i2l, 39, 0, 0, 0, 0, 0, 0, 0), (39, .invokevirtual 218, 42, 64, 2, 0, 7, 789, 0, 0), (42, .iload_n 3, 43, 3, 0, 0, 0, 0, 0, 0), (43, .ireturn, 44, 0, 0, 0, 0, 0, 0, 0)])]
def mmX10_would : am_M := (yX10_would, cX10_would, 4, some .int, 0, 0, 3, 10, [724, 722, 723, 76, 1], tbX10_would)
def tbX10_rules : List (Nat × List am_I) := [(23, [(0, .aload_n 0, 1, 0, 0, 0, 0, 0, 0, 0), (1, .getfield 10, 4, 10, 0, 0, 0, 400, 0, 0), (4, .iload_n 1, 5, 1, 0, 0, 0, 0, 0, 0), (5, .invokevirtual 95, 8, 74, 2, 0, 9, 442, 0, 0), (8, .ifCond .eq 30, 11, 38, 0, 0, 0, 0, 0, 0), (11, .iload_n 2, 12, 2, 0, 0, 0, 0, 0, 0), (12, .ifCond .lt 26, 15, 38, 0, 0, 0, 0, 0, 0), (15, .iload_n 3, 16, 3, 0, 0, 0, 0, 0, 0), (16, .bipush 12, 18, 0, 0, 0, 0, 0, 12, 0), (18, .if_icmp .ge 20, 21, 38, 0, 0, 0, 0, 0, 0), (21, .iload_n 2, 22, 2, 0, 0, 0, 0, 0, 0), (22, .iload_n 3, 23, 3, 0, 0, 0, 0, 0, 0)]),
  (47, [(23, .if_icmp .gt 15, 26, 38, 0, 0, 0, 0, 0, 0), (26, .iload 4, 28, 4, 0, 0, 0, 0, 0, 0), (28, .iconst 1, 29, 0, 0, 0, 0, 0, 1, 0), (29, .sipush 199, 32, 0, 0, 0, 0, 0, 199, 0), (32, .invokestatic 76, 35, 133, 3, 1, 0, 435, 0, 0), (35, .ifCond .ne 5, 38, 40, 0, 0, 0, 0, 0, 0), (38, .iconst (-1), 39, 0, 0, 0, 0, 0, -1, 0), (39, .ireturn, 40, 0, 0, 0, 0, 0, 0, 0), (40, .bipush (-2), 42, 0, 0, 0, 0, 0, -2, 0), (42, .istore 5, 44, 5, 0, 0, 0, 0, 0, 0), (44, .iconst 0, 45, 0, 0, 0, 0, 0, 0, 0), (45, .istore 6, 47, 6, 0, 0, 0, 0, 0, 0)]),
  (72, [(47, .iload_n 2, 48, 2, 0, 0, 0, 0, 0, 0), (48, .istore 7, 50, 7, 0, 0, 0, 0, 0, 0), (50, .iload 7, 52, 7, 0, 0, 0, 0, 0, 0), (52, .iload_n 3, 53, 3, 0, 0, 0, 0, 0, 0), (53, .if_icmp .gt 63, 56, 116, 0, 0, 0, 0, 0, 0), (56, .aload_n 0, 57, 0, 0, 0, 0, 0, 0, 0), (57, .getfield 10, 60, 10, 0, 0, 0, 400, 0, 0), (60, .iload 7, 62, 7, 0, 0, 0, 0, 0, 0), (62, .invokevirtual 222, 65, 78, 2, 0, 9, 794, 0, 0), (65, .ifCond .eq 45, 68, 110, 0, 0, 0, 0, 0, 0), (68, .aload_n 0, 69, 0, 0, 0, 0, 0, 0, 0), (69, .getfield 10, 72, 10, 0, 0, 0, 400, 0, 0)]),
  (95, [(72, .getfield 225, 75, 9, 3, 0, 0, 176, 0, 0), (75, .iload_n 1, 76, 1, 0, 0, 0, 0, 0, 0), (76, .iload 7, 78, 7, 0, 0, 0, 0, 0, 0), (78, .iastore, 79, 0, 0, 0, 0, 0, 0, 0), (79, .aload_n 0, 80, 0, 0, 0, 0, 0, 0, 0), (80, .iload 4, 82, 4, 0, 0, 0, 0, 0, 0), (82, .iconst 1, 83, 0, 0, 0, 0, 0, 1, 0), (83, .invokevirtual 215, 86, 141, 3, 0, 10, 725, 0, 0), (86, .istore 8, 88, 8, 0, 0, 0, 0, 0, 0), (88, .iload 5, 90, 5, 0, 0, 0, 0, 0, 0), (90, .bipush (-2), 92, 0, 0, 0, 0, 0, -2, 0), (92, .if_icmp .eq 10, 95, 102, 0, 0, 0, 0, 0, 0)]),
  (123, [(95, .iload 8, 97, 8, 0, 0, 0, 0, 0, 0), (97, .iload 6, 99, 6, 0, 0, 0, 0, 0, 0), (99, .if_icmp .ge 11, 102, 110, 0, 0, 0, 0, 0, 0), (102, .iload 7, 104, 7, 0, 0, 0, 0, 0, 0), (104, .istore 5, 106, 5, 0, 0, 0, 0, 0, 0), (106, .iload 8, 108, 8, 0, 0, 0, 0, 0, 0), (108, .istore 6, 110, 6, 0, 0, 0, 0, 0, 0), (110, .iinc 7 1, 113, 7, 0, 0, 0, 0, 1, 0), (113, .goto (-63), 116, 50, 0, 0, 0, 0, 0, 0), (116, .aload_n 0, 117, 0, 0, 0, 0, 0, 0, 0), (117, .getfield 10, 120, 10, 0, 0, 0, 400, 0, 0), (120, .getfield 225, 123, 9, 3, 0, 0, 176, 0, 0)]),
  (142, [(123, .iload_n 1, 124, 1, 0, 0, 0, 0, 0, 0), (124, .iconst 2, 125, 0, 0, 0, 0, 0, 2, 0), (125, .iload_n 1, 126, 1, 0, 0, 0, 0, 0, 0), (126, .imul, 127, 0, 0, 0, 0, 0, 0, 0), (127, .iastore, 128, 0, 0, 0, 0, 0, 0, 0), (128, .iload 5, 130, 5, 0, 0, 0, 0, 0, 0), (130, .bipush (-2), 132, 0, 0, 0, 0, 0, -2, 0), (132, .if_icmp .eq 13, 135, 145, 0, 0, 0, 0, 0, 0), (135, .aload_n 0, 136, 0, 0, 0, 0, 0, 0, 0), (136, .getfield 40, 139, 10, 5, 0, 0, 405, 0, 0), (139, .iload 6, 141, 6, 0, 0, 0, 0, 0, 0), (141, .i2l, 142, 0, 0, 0, 0, 0, 0, 0)]),
  (100000, [(142, .invokevirtual 218, 145, 64, 2, 0, 7, 789, 0, 0), (145, .iload 5, 147, 5, 0, 0, 0, 0, 0, 0), (147, .ireturn, 148, 0, 0, 0, 0, 0, 0, 0)])]
def mmX10_rules : am_M := (yX10_rules, cX10_rules, 9, some .int, 0, 0, 5, 10, [793, 791, 792, 76, 1], tbX10_rules)
def tbX10_pair : List (Nat × List am_I) := [(24, [(0, .aload_n 0, 1, 0, 0, 0, 0, 0, 0, 0), (1, .getfield 10, 4, 10, 0, 0, 0, 400, 0, 0), (4, .iload_n 1, 5, 1, 0, 0, 0, 0, 0, 0), (5, .iload_n 2, 6, 2, 0, 0, 0, 0, 0, 0), (6, .invokevirtual 99, 9, 75, 3, 0, 9, 450, 0, 0), (9, .ifCond .eq 14, 12, 23, 0, 0, 0, 0, 0, 0), (12, .iload_n 3, 13, 3, 0, 0, 0, 0, 0, 0), (13, .iconst 1, 14, 0, 0, 0, 0, 0, 1, 0), (14, .sipush 199, 17, 0, 0, 0, 0, 0, 199, 0), (17, .invokestatic 76, 20, 133, 3, 1, 0, 435, 0, 0), (20, .ifCond .ne 5, 23, 25, 0, 0, 0, 0, 0, 0), (23, .iconst (-1), 24, 0, 0, 0, 0, 0, -1, 0)]),
  (46, [(24, .ireturn, 25, 0, 0, 0, 0, 0, 0, 0), (25, .bipush (-2), 27, 0, 0, 0, 0, 0, -2, 0), (27, .istore 4, 29, 4, 0, 0, 0, 0, 0, 0), (29, .iconst 0, 30, 0, 0, 0, 0, 0, 0, 0), (30, .istore 5, 32, 5, 0, 0, 0, 0, 0, 0), (32, .iload 5, 34, 5, 0, 0, 0, 0, 0, 0), (34, .bipush 12, 36, 0, 0, 0, 0, 0, 12, 0), (36, .if_icmp .ge 110, 39, 146, 0, 0, 0, 0, 0, 0), (39, .iconst 0, 40, 0, 0, 0, 0, 0, 0, 0), (40, .istore 6, 42, 6, 0, 0, 0, 0, 0, 0), (42, .iload 6, 44, 6, 0, 0, 0, 0, 0, 0), (44, .bipush 12, 46, 0, 0, 0, 0, 0, 12, 0)]),
  (74, [(46, .if_icmp .ge 94, 49, 140, 0, 0, 0, 0, 0, 0), (49, .aload_n 0, 50, 0, 0, 0, 0, 0, 0, 0), (50, .getfield 10, 53, 10, 0, 0, 0, 400, 0, 0), (53, .iload 5, 55, 5, 0, 0, 0, 0, 0, 0), (55, .invokevirtual 222, 58, 78, 2, 0, 9, 794, 0, 0), (58, .ifCond .eq 76, 61, 134, 0, 0, 0, 0, 0, 0), (61, .aload_n 0, 62, 0, 0, 0, 0, 0, 0, 0), (62, .getfield 10, 65, 10, 0, 0, 0, 400, 0, 0), (65, .iload 6, 67, 6, 0, 0, 0, 0, 0, 0), (67, .invokevirtual 222, 70, 78, 2, 0, 9, 794, 0, 0), (70, .ifCond .eq 64, 73, 134, 0, 0, 0, 0, 0, 0), (73, .aload_n 0, 74, 0, 0, 0, 0, 0, 0, 0)]),
  (96, [(74, .getfield 10, 77, 10, 0, 0, 0, 400, 0, 0), (77, .getfield 225, 80, 9, 3, 0, 0, 176, 0, 0), (80, .iload_n 1, 81, 1, 0, 0, 0, 0, 0, 0), (81, .iload 5, 83, 5, 0, 0, 0, 0, 0, 0), (83, .iastore, 84, 0, 0, 0, 0, 0, 0, 0), (84, .aload_n 0, 85, 0, 0, 0, 0, 0, 0, 0), (85, .getfield 10, 88, 10, 0, 0, 0, 400, 0, 0), (88, .getfield 225, 91, 9, 3, 0, 0, 176, 0, 0), (91, .iload_n 2, 92, 2, 0, 0, 0, 0, 0, 0), (92, .iload 6, 94, 6, 0, 0, 0, 0, 0, 0), (94, .iastore, 95, 0, 0, 0, 0, 0, 0, 0), (95, .aload_n 0, 96, 0, 0, 0, 0, 0, 0, 0)]),
  (121, [(96, .iload_n 3, 97, 3, 0, 0, 0, 0, 0, 0), (97, .iconst 1, 98, 0, 0, 0, 0, 0, 1, 0), (98, .invokevirtual 215, 101, 141, 3, 0, 10, 725, 0, 0), (101, .istore 7, 103, 7, 0, 0, 0, 0, 0, 0), (103, .iload 4, 105, 4, 0, 0, 0, 0, 0, 0), (105, .bipush (-2), 107, 0, 0, 0, 0, 0, -2, 0), (107, .if_icmp .eq 10, 110, 117, 0, 0, 0, 0, 0, 0), (110, .iload 7, 112, 7, 0, 0, 0, 0, 0, 0), (112, .iload 4, 114, 4, 0, 0, 0, 0, 0, 0), (114, .if_icmp .ge 20, 117, 134, 0, 0, 0, 0, 0, 0), (117, .iload 7, 119, 7, 0, 0, 0, 0, 0, 0), (119, .istore 4, 121, 4, 0, 0, 0, 0, 0, 0)]),
  (147, [(121, .aload_n 0, 122, 0, 0, 0, 0, 0, 0, 0), (122, .getfield 40, 125, 10, 5, 0, 0, 405, 0, 0), (125, .iload 5, 127, 5, 0, 0, 0, 0, 0, 0), (127, .i2l, 128, 0, 0, 0, 0, 0, 0, 0), (128, .iload 6, 130, 6, 0, 0, 0, 0, 0, 0), (130, .i2l, 131, 0, 0, 0, 0, 0, 0, 0), (131, .invokevirtual 195, 134, 65, 3, 0, 7, 665, 0, 0), (134, .iinc 6 2, 137, 6, 0, 0, 0, 0, 2, 0), (137, .goto (-95), 140, 42, 0, 0, 0, 0, 0, 0), (140, .iinc 5 2, 143, 5, 0, 0, 0, 0, 2, 0), (143, .goto (-111), 146, 32, 0, 0, 0, 0, 0, 0), (146, .aload_n 0, 147, 0, 0, 0, 0, 0, 0, 0)]),
  (167, [(147, .getfield 10, 150, 10, 0, 0, 0, 400, 0, 0), (150, .getfield 225, 153, 9, 3, 0, 0, 176, 0, 0), (153, .iload_n 1, 154, 1, 0, 0, 0, 0, 0, 0), (154, .iconst 2, 155, 0, 0, 0, 0, 0, 2, 0), (155, .iload_n 1, 156, 1, 0, 0, 0, 0, 0, 0), (156, .imul, 157, 0, 0, 0, 0, 0, 0, 0), (157, .iastore, 158, 0, 0, 0, 0, 0, 0, 0), (158, .aload_n 0, 159, 0, 0, 0, 0, 0, 0, 0), (159, .getfield 10, 162, 10, 0, 0, 0, 400, 0, 0), (162, .getfield 225, 165, 9, 3, 0, 0, 176, 0, 0), (165, .iload_n 2, 166, 2, 0, 0, 0, 0, 0, 0), (166, .iconst 2, 167, 0, 0, 0, 0, 0, 2, 0)]),
  (100000, [(167, .iload_n 2, 168, 2, 0, 0, 0, 0, 0, 0), (168, .imul, 169, 0, 0, 0, 0, 0, 0, 0), (169, .iastore, 170, 0, 0, 0, 0, 0, 0, 0), (170, .iload 4, 172, 4, 0, 0, 0, 0, 0, 0), (172, .ireturn, 173, 0, 0, 0, 0, 0, 0, 0)])]
def mmX10_pair : am_M := (yX10_pair, cX10_pair, 8, some .int, 0, 0, 4, 10, [801, 799, 800, 76, 1], tbX10_pair)
def tbX10_echo : List (Nat × List am_I) := [(18, [(0, .aload_n 0, 1, 0, 0, 0, 0, 0, 0, 0), (1, .getfield 10, 4, 10, 0, 0, 0, 400, 0, 0), (4, .iload_n 1, 5, 1, 0, 0, 0, 0, 0, 0), (5, .invokevirtual 95, 8, 74, 2, 0, 9, 442, 0, 0), (8, .ifCond .ne 5, 11, 13, 0, 0, 0, 0, 0, 0), (11, .iconst (-1), 12, 0, 0, 0, 0, 0, -1, 0), (12, .ireturn, 13, 0, 0, 0, 0, 0, 0, 0), (13, .iconst 0, 14, 0, 0, 0, 0, 0, 0, 0), (14, .istore_n 2, 15, 2, 0, 0, 0, 0, 0, 0), (15, .iconst 0, 16, 0, 0, 0, 0, 0, 0, 0), (16, .istore_n 3, 17, 3, 0, 0, 0, 0, 0, 0), (17, .iconst 0, 18, 0, 0, 0, 0, 0, 0, 0)]),
  (43, [(18, .istore 4, 20, 4, 0, 0, 0, 0, 0, 0), (20, .iconst 0, 21, 0, 0, 0, 0, 0, 0, 0), (21, .istore 5, 23, 5, 0, 0, 0, 0, 0, 0), (23, .iload 5, 25, 5, 0, 0, 0, 0, 0, 0), (25, .aload_n 0, 26, 0, 0, 0, 0, 0, 0, 0), (26, .getfield 19, 29, 10, 1, 0, 0, 401, 0, 0), (29, .getfield 113, 32, 0, 0, 0, 0, 211, 0, 0), (32, .if_icmp .ge 97, 35, 129, 0, 0, 0, 0, 0, 0), (35, .aload_n 0, 36, 0, 0, 0, 0, 0, 0, 0), (36, .getfield 19, 39, 10, 1, 0, 0, 401, 0, 0), (39, .aload_n 0, 40, 0, 0, 0, 0, 0, 0, 0), (40, .getfield 19, 43, 10, 1, 0, 0, 401, 0, 0)]),
  (69, [(43, .getfield 171, 46, 0, 6, 0, 0, 225, 0, 0), (46, .iload_n 1, 47, 1, 0, 0, 0, 0, 0, 0), (47, .iload 5, 49, 5, 0, 0, 0, 0, 0, 0), (49, .invokevirtual 184, 52, 4, 4, 0, 0, 806, 0, 0), (52, .istore 6, 54, 6, 0, 0, 0, 0, 0, 0), (54, .iload 6, 56, 6, 0, 0, 0, 0, 0, 0), (56, .ifCond .eq 29, 59, 85, 0, 0, 0, 0, 0, 0), (59, .iload 6, 61, 6, 0, 0, 0, 0, 0, 0), (61, .aload_n 0, 62, 0, 0, 0, 0, 0, 0, 0), (62, .getfield 19, 65, 10, 1, 0, 0, 401, 0, 0), (65, .aload_n 0, 66, 0, 0, 0, 0, 0, 0, 0), (66, .getfield 19, 69, 10, 1, 0, 0, 401, 0, 0)]),
  (95, [(69, .getfield 178, 72, 0, 7, 0, 0, 227, 0, 0), (72, .iload_n 1, 73, 1, 0, 0, 0, 0, 0, 0), (73, .iload 5, 75, 5, 0, 0, 0, 0, 0, 0), (75, .invokevirtual 184, 78, 4, 4, 0, 0, 806, 0, 0), (78, .if_icmp .ne 7, 81, 85, 0, 0, 0, 0, 0, 0), (81, .iconst 1, 82, 0, 0, 0, 0, 0, 1, 0), (82, .goto 4, 85, 86, 0, 0, 0, 0, 0, 0), (85, .iconst 0, 86, 0, 0, 0, 0, 0, 0, 0), (86, .istore 7, 88, 7, 0, 0, 0, 0, 0, 0), (88, .iload 7, 90, 7, 0, 0, 0, 0, 0, 0), (90, .ifCond .eq 10, 93, 100, 0, 0, 0, 0, 0, 0), (93, .iload 4, 95, 4, 0, 0, 0, 0, 0, 0)]),
  (115, [(95, .iconst 1, 96, 0, 0, 0, 0, 0, 1, 0), (96, .iadd, 97, 0, 0, 0, 0, 0, 0, 0), (97, .goto 4, 100, 101, 0, 0, 0, 0, 0, 0), (100, .iconst 0, 101, 0, 0, 0, 0, 0, 0, 0), (101, .istore 4, 103, 4, 0, 0, 0, 0, 0, 0), (103, .iload_n 2, 104, 2, 0, 0, 0, 0, 0, 0), (104, .iload 7, 106, 7, 0, 0, 0, 0, 0, 0), (106, .ifCond .eq 7, 109, 113, 0, 0, 0, 0, 0, 0), (109, .iconst 1, 110, 0, 0, 0, 0, 0, 1, 0), (110, .goto 4, 113, 114, 0, 0, 0, 0, 0, 0), (113, .iconst 0, 114, 0, 0, 0, 0, 0, 0, 0), (114, .iadd, 115, 0, 0, 0, 0, 0, 0, 0)]),
  (138, [(115, .istore_n 2, 116, 2, 0, 0, 0, 0, 0, 0), (116, .iload_n 3, 117, 3, 0, 0, 0, 0, 0, 0), (117, .iload 4, 119, 4, 0, 0, 0, 0, 0, 0), (119, .invokestatic 228, 122, 0, 0, 6, 0, 807, 0, 0), (122, .istore_n 3, 123, 3, 0, 0, 0, 0, 0, 0), (123, .iinc 5 1, 126, 5, 0, 0, 0, 0, 1, 0), (126, .goto (-103), 129, 23, 0, 0, 0, 0, 0, 0), (129, .aload_n 0, 130, 0, 0, 0, 0, 0, 0, 0), (130, .getfield 40, 133, 10, 5, 0, 0, 405, 0, 0), (133, .iload_n 3, 134, 3, 0, 0, 0, 0, 0, 0), (134, .i2l, 135, 0, 0, 0, 0, 0, 0, 0), (135, .invokevirtual 218, 138, 64, 2, 0, 7, 789, 0, 0)]),
  (100000, [(138, .iload_n 2, 139, 2, 0, 0, 0, 0, 0, 0), (139, .ireturn, 140, 0, 0, 0, 0, 0, 0, 0)])]
def mmX10_echo : am_M := (yX10_echo, cX10_echo, 8, some .int, 0, 0, 2, 10, [805, 803, 804, 76, 1], tbX10_echo)
def tbX10_waits : List (Nat × List am_I) := [(18, [(0, .aload_n 0, 1, 0, 0, 0, 0, 0, 0, 0), (1, .getfield 10, 4, 10, 0, 0, 0, 400, 0, 0), (4, .iload_n 1, 5, 1, 0, 0, 0, 0, 0, 0), (5, .invokevirtual 95, 8, 74, 2, 0, 9, 442, 0, 0), (8, .ifCond .ne 5, 11, 13, 0, 0, 0, 0, 0, 0), (11, .iconst (-1), 12, 0, 0, 0, 0, 0, -1, 0), (12, .ireturn, 13, 0, 0, 0, 0, 0, 0, 0), (13, .iconst 0, 14, 0, 0, 0, 0, 0, 0, 0), (14, .istore_n 2, 15, 2, 0, 0, 0, 0, 0, 0), (15, .iconst 0, 16, 0, 0, 0, 0, 0, 0, 0), (16, .istore_n 3, 17, 3, 0, 0, 0, 0, 0, 0), (17, .iconst 0, 18, 0, 0, 0, 0, 0, 0, 0)]),
  (42, [(18, .istore 4, 20, 4, 0, 0, 0, 0, 0, 0), (20, .iconst 0, 21, 0, 0, 0, 0, 0, 0, 0), (21, .istore 5, 23, 5, 0, 0, 0, 0, 0, 0), (23, .iconst 0, 24, 0, 0, 0, 0, 0, 0, 0), (24, .istore 6, 26, 6, 0, 0, 0, 0, 0, 0), (26, .iload 6, 28, 6, 0, 0, 0, 0, 0, 0), (28, .aload_n 0, 29, 0, 0, 0, 0, 0, 0, 0), (29, .getfield 19, 32, 10, 1, 0, 0, 401, 0, 0), (32, .getfield 113, 35, 0, 0, 0, 0, 211, 0, 0), (35, .if_icmp .ge 91, 38, 126, 0, 0, 0, 0, 0, 0), (38, .aload_n 0, 39, 0, 0, 0, 0, 0, 0, 0), (39, .getfield 19, 42, 10, 1, 0, 0, 401, 0, 0)]),
  (66, [(42, .aload_n 0, 43, 0, 0, 0, 0, 0, 0, 0), (43, .getfield 19, 46, 10, 1, 0, 0, 401, 0, 0), (46, .getfield 175, 49, 0, 5, 0, 0, 222, 0, 0), (49, .iload_n 1, 50, 1, 0, 0, 0, 0, 0, 0), (50, .iload 6, 52, 6, 0, 0, 0, 0, 0, 0), (52, .invokevirtual 184, 55, 4, 4, 0, 0, 806, 0, 0), (55, .istore 7, 57, 7, 0, 0, 0, 0, 0, 0), (57, .iload 7, 59, 7, 0, 0, 0, 0, 0, 0), (59, .ifCond .ne 10, 62, 69, 0, 0, 0, 0, 0, 0), (62, .iload 4, 64, 4, 0, 0, 0, 0, 0, 0), (64, .iconst 1, 65, 0, 0, 0, 0, 0, 1, 0), (65, .iadd, 66, 0, 0, 0, 0, 0, 0, 0)]),
  (86, [(66, .goto 4, 69, 70, 0, 0, 0, 0, 0, 0), (69, .iconst 0, 70, 0, 0, 0, 0, 0, 0, 0), (70, .istore 4, 72, 4, 0, 0, 0, 0, 0, 0), (72, .iload_n 2, 73, 2, 0, 0, 0, 0, 0, 0), (73, .iload 7, 75, 7, 0, 0, 0, 0, 0, 0), (75, .ifCond .ne 7, 78, 82, 0, 0, 0, 0, 0, 0), (78, .iconst 1, 79, 0, 0, 0, 0, 0, 1, 0), (79, .goto 4, 82, 83, 0, 0, 0, 0, 0, 0), (82, .iconst 0, 83, 0, 0, 0, 0, 0, 0, 0), (83, .iadd, 84, 0, 0, 0, 0, 0, 0, 0), (84, .istore_n 2, 85, 2, 0, 0, 0, 0, 0, 0), (85, .iload_n 3, 86, 3, 0, 0, 0, 0, 0, 0)]),
  (112, [(86, .iload 4, 88, 4, 0, 0, 0, 0, 0, 0), (88, .invokestatic 228, 91, 0, 0, 6, 0, 807, 0, 0), (91, .istore_n 3, 92, 3, 0, 0, 0, 0, 0, 0), (92, .iload 5, 94, 5, 0, 0, 0, 0, 0, 0), (94, .iload 7, 96, 7, 0, 0, 0, 0, 0, 0), (96, .invokestatic 233, 99, 255, 1, 1, 0, 812, 0, 0), (99, .aload_n 0, 100, 0, 0, 0, 0, 0, 0, 0), (100, .iload 6, 102, 6, 0, 0, 0, 0, 0, 0), (102, .invokevirtual 238, 105, 142, 2, 0, 10, 815, 0, 0), (105, .invokestatic 233, 108, 255, 1, 1, 0, 812, 0, 0), (108, .imul, 109, 0, 0, 0, 0, 0, 0, 0), (109, .ifCond .ge 7, 112, 116, 0, 0, 0, 0, 0, 0)]),
  (134, [(112, .iconst 1, 113, 0, 0, 0, 0, 0, 1, 0), (113, .goto 4, 116, 117, 0, 0, 0, 0, 0, 0), (116, .iconst 0, 117, 0, 0, 0, 0, 0, 0, 0), (117, .iadd, 118, 0, 0, 0, 0, 0, 0, 0), (118, .istore 5, 120, 5, 0, 0, 0, 0, 0, 0), (120, .iinc 6 1, 123, 6, 0, 0, 0, 0, 1, 0), (123, .goto (-97), 126, 26, 0, 0, 0, 0, 0, 0), (126, .aload_n 0, 127, 0, 0, 0, 0, 0, 0, 0), (127, .getfield 40, 130, 10, 5, 0, 0, 405, 0, 0), (130, .iload_n 3, 131, 3, 0, 0, 0, 0, 0, 0), (131, .i2l, 132, 0, 0, 0, 0, 0, 0, 0), (132, .iload 5, 134, 5, 0, 0, 0, 0, 0, 0)]),
  (100000, [(134, .i2l, 135, 0, 0, 0, 0, 0, 0, 0), (135, .invokevirtual 195, 138, 65, 3, 0, 7, 665, 0, 0), (138, .iload_n 2, 139, 2, 0, 0, 0, 0, 0, 0), (139, .ireturn, 140, 0, 0, 0, 0, 0, 0, 0)])]
def mmX10_waits : am_M := (yX10_waits, cX10_waits, 8, some .int, 0, 0, 2, 10, [811, 809, 810, 76, 1], tbX10_waits)
def tbX10_swings : List (Nat × List am_I) := [(20, [(0, .aload_n 0, 1, 0, 0, 0, 0, 0, 0, 0), (1, .getfield 19, 4, 10, 1, 0, 0, 401, 0, 0), (4, .getfield 113, 7, 0, 0, 0, 0, 211, 0, 0), (7, .iconst 2, 8, 0, 0, 0, 0, 0, 2, 0), (8, .idiv, 9, 0, 0, 0, 0, 0, 0, 0), (9, .istore_n 1, 10, 1, 0, 0, 0, 0, 0, 0), (10, .aload_n 0, 11, 0, 0, 0, 0, 0, 0, 0), (11, .getfield 40, 14, 10, 5, 0, 0, 405, 0, 0), (14, .aload_n 0, 15, 0, 0, 0, 0, 0, 0, 0), (15, .getfield 19, 18, 10, 1, 0, 0, 401, 0, 0), (18, .iconst 0, 19, 0, 0, 0, 0, 0, 0, 0), (19, .iload_n 1, 20, 1, 0, 0, 0, 0, 0, 0)]),
  (42, [(20, .aload_n 0, 21, 0, 0, 0, 0, 0, 0, 0), (21, .getfield 10, 24, 10, 0, 0, 0, 400, 0, 0), (24, .getfield 122, 27, 9, 4, 0, 0, 178, 0, 0), (27, .invokevirtual 191, 30, 12, 4, 0, 0, 653, 0, 0), (30, .i2l, 31, 0, 0, 0, 0, 0, 0, 0), (31, .aload_n 0, 32, 0, 0, 0, 0, 0, 0, 0), (32, .getfield 19, 35, 10, 1, 0, 0, 401, 0, 0), (35, .iload_n 1, 36, 1, 0, 0, 0, 0, 0, 0), (36, .iconst 1, 37, 0, 0, 0, 0, 0, 1, 0), (37, .iadd, 38, 0, 0, 0, 0, 0, 0, 0), (38, .aload_n 0, 39, 0, 0, 0, 0, 0, 0, 0), (39, .getfield 19, 42, 10, 1, 0, 0, 401, 0, 0)]),
  (70, [(42, .getfield 113, 45, 0, 0, 0, 0, 211, 0, 0), (45, .aload_n 0, 46, 0, 0, 0, 0, 0, 0, 0), (46, .getfield 10, 49, 10, 0, 0, 0, 400, 0, 0), (49, .getfield 122, 52, 9, 4, 0, 0, 178, 0, 0), (52, .invokevirtual 191, 55, 12, 4, 0, 0, 653, 0, 0), (55, .i2l, 56, 0, 0, 0, 0, 0, 0, 0), (56, .invokevirtual 195, 59, 65, 3, 0, 7, 665, 0, 0), (59, .aload_n 0, 60, 0, 0, 0, 0, 0, 0, 0), (60, .getfield 19, 63, 10, 1, 0, 0, 401, 0, 0), (63, .aload_n 0, 64, 0, 0, 0, 0, 0, 0, 0), (64, .getfield 10, 67, 10, 0, 0, 0, 400, 0, 0), (67, .getfield 122, 70, 9, 4, 0, 0, 178, 0, 0)]),
  (100000, [(70, .invokevirtual 241, 73, 13, 2, 0, 0, 823, 0, 0), (73, .ireturn, 74, 0, 0, 0, 0, 0, 0, 0)])]
def mmX10_swings : am_M := (yX10_swings, cX10_swings, 2, some .int, 0, 0, 1, 10, [822, 820, 821, 76, 1], tbX10_swings)
def tbX10_steer : List (Nat × List am_I) := [(21, [(0, .iload_n 1, 1, 1, 0, 0, 0, 0, 0, 0), (1, .iload_n 2, 2, 2, 0, 0, 0, 0, 0, 0), (2, .iload_n 3, 3, 3, 0, 0, 0, 0, 0, 0), (3, .iload 4, 5, 4, 0, 0, 0, 0, 0, 0), (5, .invokestatic 244, 8, 139, 4, 1, 0, 832, 0, 0), (8, .ifCond .ne 5, 11, 13, 0, 0, 0, 0, 0, 0), (11, .iconst (-1), 12, 0, 0, 0, 0, 0, -1, 0), (12, .ireturn, 13, 0, 0, 0, 0, 0, 0, 0), (13, .aload_n 0, 14, 0, 0, 0, 0, 0, 0, 0), (14, .getfield 54, 17, 10, 7, 0, 0, 407, 0, 0), (17, .aload_n 0, 18, 0, 0, 0, 0, 0, 0, 0), (18, .getfield 10, 21, 10, 0, 0, 0, 400, 0, 0)]),
  (44, [(21, .iload_n 1, 22, 1, 0, 0, 0, 0, 0, 0), (22, .iload_n 2, 23, 2, 0, 0, 0, 0, 0, 0), (23, .iload_n 3, 24, 3, 0, 0, 0, 0, 0, 0), (24, .iload 4, 26, 4, 0, 0, 0, 0, 0, 0), (26, .invokevirtual 248, 29, 22, 6, 0, 2, 835, 0, 0), (29, .lstore 5, 31, 5, 0, 0, 0, 0, 0, 0), (31, .aload_n 0, 32, 0, 0, 0, 0, 0, 0, 0), (32, .getfield 40, 35, 10, 5, 0, 0, 405, 0, 0), (35, .lload 5, 37, 5, 0, 0, 0, 0, 0, 0), (37, .aload_n 0, 38, 0, 0, 0, 0, 0, 0, 0), (38, .getfield 54, 41, 10, 7, 0, 0, 407, 0, 0), (41, .getfield 252, 44, 2, 4, 0, 0, 336, 0, 0)]),
  (100000, [(44, .i2l, 45, 0, 0, 0, 0, 0, 0, 0), (45, .invokevirtual 195, 48, 65, 3, 0, 7, 665, 0, 0), (48, .iconst 0, 49, 0, 0, 0, 0, 0, 0, 0), (49, .ireturn, 50, 0, 0, 0, 0, 0, 0, 0)])]
def mmX10_steer : am_M := (yX10_steer, cX10_steer, 7, some .int, 0, 0, 5, 10, [831, 829, 830, 76, 1], tbX10_steer)
def tbX10_blind : List (Nat × List am_I) := [(21, [(0, .iload_n 1, 1, 1, 0, 0, 0, 0, 0, 0), (1, .iload_n 2, 2, 2, 0, 0, 0, 0, 0, 0), (2, .iload_n 3, 3, 3, 0, 0, 0, 0, 0, 0), (3, .iload 4, 5, 4, 0, 0, 0, 0, 0, 0), (5, .invokestatic 244, 8, 139, 4, 1, 0, 832, 0, 0), (8, .ifCond .ne 5, 11, 13, 0, 0, 0, 0, 0, 0), (11, .iconst (-1), 12, 0, 0, 0, 0, 0, -1, 0), (12, .ireturn, 13, 0, 0, 0, 0, 0, 0, 0), (13, .aload_n 0, 14, 0, 0, 0, 0, 0, 0, 0), (14, .getfield 54, 17, 10, 7, 0, 0, 407, 0, 0), (17, .aload_n 0, 18, 0, 0, 0, 0, 0, 0, 0), (18, .getfield 10, 21, 10, 0, 0, 0, 400, 0, 0)]),
  (41, [(21, .iload_n 1, 22, 1, 0, 0, 0, 0, 0, 0), (22, .iload_n 2, 23, 2, 0, 0, 0, 0, 0, 0), (23, .iload_n 3, 24, 3, 0, 0, 0, 0, 0, 0), (24, .iload 4, 26, 4, 0, 0, 0, 0, 0, 0), (26, .invokevirtual 248, 29, 22, 6, 0, 2, 835, 0, 0), (29, .lstore 5, 31, 5, 0, 0, 0, 0, 0, 0), (31, .aload_n 0, 32, 0, 0, 0, 0, 0, 0, 0), (32, .getfield 54, 35, 10, 7, 0, 0, 407, 0, 0), (35, .aload_n 0, 36, 0, 0, 0, 0, 0, 0, 0), (36, .getfield 10, 39, 10, 0, 0, 0, 400, 0, 0), (39, .iconst 0, 40, 0, 0, 0, 0, 0, 0, 0), (40, .iload_n 2, 41, 2, 0, 0, 0, 0, 0, 0)]),
  (63, [(41, .iload_n 3, 42, 3, 0, 0, 0, 0, 0, 0), (42, .iload 4, 44, 4, 0, 0, 0, 0, 0, 0), (44, .invokevirtual 248, 47, 22, 6, 0, 2, 835, 0, 0), (47, .lstore 7, 49, 7, 0, 0, 0, 0, 0, 0), (49, .aload_n 0, 50, 0, 0, 0, 0, 0, 0, 0), (50, .getfield 40, 53, 10, 5, 0, 0, 405, 0, 0), (53, .lload 5, 55, 5, 0, 0, 0, 0, 0, 0), (55, .lload 7, 57, 7, 0, 0, 0, 0, 0, 0), (57, .iload_n 1, 58, 1, 0, 0, 0, 0, 0, 0), (58, .invokestatic 255, 61, 137, 1, 1, 0, 866, 0, 0), (61, .lmul, 62, 0, 0, 0, 0, 0, 0, 0), (62, .lsub, 63, 0, 0, 0, 0, 0, 0, 0)]),
  (100000, [(63, .iload_n 1, 64, 1, 0, 0, 0, 0, 0, 0), (64, .iload_n 3, 65, 3, 0, 0, 0, 0, 0, 0), (65, .iadd, 66, 0, 0, 0, 0, 0, 0, 0), (66, .invokestatic 255, 69, 137, 1, 1, 0, 866, 0, 0), (69, .invokevirtual 259, 72, 67, 3, 0, 7, 870, 0, 0), (72, .iconst 0, 73, 0, 0, 0, 0, 0, 0, 0), (73, .ireturn, 74, 0, 0, 0, 0, 0, 0, 0)])]
def mmX10_blind : am_M := (yX10_blind, cX10_blind, 9, some .int, 0, 0, 5, 10, [865, 863, 864, 76, 1], tbX10_blind)
def tbX10_pull : List (Nat × List am_I) := [(22, [(0, .iload_n 1, 1, 1, 0, 0, 0, 0, 0, 0), (1, .iconst 0, 2, 0, 0, 0, 0, 0, 0, 0), (2, .bipush 20, 4, 0, 0, 0, 0, 0, 20, 0), (4, .invokestatic 76, 7, 133, 3, 1, 0, 435, 0, 0), (7, .ifCond .eq 36, 10, 43, 0, 0, 0, 0, 0, 0), (10, .iload_n 2, 11, 2, 0, 0, 0, 0, 0, 0), (11, .iconst 1, 12, 0, 0, 0, 0, 0, 1, 0), (12, .bipush 20, 14, 0, 0, 0, 0, 0, 20, 0), (14, .invokestatic 76, 17, 133, 3, 1, 0, 435, 0, 0), (17, .ifCond .eq 26, 20, 43, 0, 0, 0, 0, 0, 0), (20, .iload_n 3, 21, 3, 0, 0, 0, 0, 0, 0), (21, .iconst 1, 22, 0, 0, 0, 0, 0, 1, 0)]),
  (49, [(22, .sipush 999, 25, 0, 0, 0, 0, 0, 999, 0), (25, .invokestatic 76, 28, 133, 3, 1, 0, 435, 0, 0), (28, .ifCond .eq 15, 31, 43, 0, 0, 0, 0, 0, 0), (31, .iload 4, 33, 4, 0, 0, 0, 0, 0, 0), (33, .iconst 2, 34, 0, 0, 0, 0, 0, 2, 0), (34, .sipush 199, 37, 0, 0, 0, 0, 0, 199, 0), (37, .invokestatic 76, 40, 133, 3, 1, 0, 435, 0, 0), (40, .ifCond .ne 5, 43, 45, 0, 0, 0, 0, 0, 0), (43, .iconst (-1), 44, 0, 0, 0, 0, 0, -1, 0), (44, .ireturn, 45, 0, 0, 0, 0, 0, 0, 0), (45, .aload_n 0, 46, 0, 0, 0, 0, 0, 0, 0), (46, .getfield 61, 49, 10, 8, 0, 0, 408, 0, 0)]),
  (68, [(49, .iload_n 1, 50, 1, 0, 0, 0, 0, 0, 0), (50, .iload_n 2, 51, 2, 0, 0, 0, 0, 0, 0), (51, .iload_n 3, 52, 3, 0, 0, 0, 0, 0, 0), (52, .iload 4, 54, 4, 0, 0, 0, 0, 0, 0), (54, .invokevirtual 262, 57, 57, 5, 0, 6, 882, 0, 0), (57, .iload 4, 59, 4, 0, 0, 0, 0, 0, 0), (59, .iconst 2, 60, 0, 0, 0, 0, 0, 2, 0), (60, .idiv, 61, 0, 0, 0, 0, 0, 0, 0), (61, .istore 5, 63, 5, 0, 0, 0, 0, 0, 0), (63, .aload_n 0, 64, 0, 0, 0, 0, 0, 0, 0), (64, .getfield 40, 67, 10, 5, 0, 0, 405, 0, 0), (67, .aload_n 0, 68, 0, 0, 0, 0, 0, 0, 0)]),
  (89, [(68, .getfield 61, 71, 10, 8, 0, 0, 408, 0, 0), (71, .iconst 0, 72, 0, 0, 0, 0, 0, 0, 0), (72, .iload 5, 74, 5, 0, 0, 0, 0, 0, 0), (74, .iconst 1, 75, 0, 0, 0, 0, 0, 1, 0), (75, .isub, 76, 0, 0, 0, 0, 0, 0, 0), (76, .invokevirtual 266, 79, 58, 3, 0, 6, 888, 0, 0), (79, .i2l, 80, 0, 0, 0, 0, 0, 0, 0), (80, .aload_n 0, 81, 0, 0, 0, 0, 0, 0, 0), (81, .getfield 61, 84, 10, 8, 0, 0, 408, 0, 0), (84, .invokevirtual 268, 87, 59, 1, 0, 6, 894, 0, 0), (87, .i2l, 88, 0, 0, 0, 0, 0, 0, 0), (88, .aload_n 0, 89, 0, 0, 0, 0, 0, 0, 0)]),
  (100000, [(89, .getfield 61, 92, 10, 8, 0, 0, 408, 0, 0), (92, .invokevirtual 271, 95, 60, 1, 0, 6, 899, 0, 0), (95, .i2l, 96, 0, 0, 0, 0, 0, 0, 0), (96, .invokevirtual 274, 99, 66, 4, 0, 7, 903, 0, 0), (99, .aload_n 0, 100, 0, 0, 0, 0, 0, 0, 0), (100, .getfield 61, 103, 10, 8, 0, 0, 408, 0, 0), (103, .iload 5, 105, 5, 0, 0, 0, 0, 0, 0), (105, .iload 4, 107, 4, 0, 0, 0, 0, 0, 0), (107, .invokevirtual 266, 110, 58, 3, 0, 6, 888, 0, 0), (110, .ireturn, 111, 0, 0, 0, 0, 0, 0, 0)])]
def mmX10_pull : am_M := (yX10_pull, cX10_pull, 6, some .int, 0, 0, 5, 10, [881, 879, 880, 76, 1], tbX10_pull)
def tbX10_edge : List (Nat × List am_I) := [(20, [(0, .iload_n 1, 1, 1, 0, 0, 0, 0, 0, 0), (1, .iconst 0, 2, 0, 0, 0, 0, 0, 0, 0), (2, .bipush 20, 4, 0, 0, 0, 0, 0, 20, 0), (4, .invokestatic 76, 7, 133, 3, 1, 0, 435, 0, 0), (7, .ifCond .ne 5, 10, 12, 0, 0, 0, 0, 0, 0), (10, .iconst (-1), 11, 0, 0, 0, 0, 0, -1, 0), (11, .ireturn, 12, 0, 0, 0, 0, 0, 0, 0), (12, .iconst 1, 13, 0, 0, 0, 0, 0, 1, 0), (13, .istore_n 2, 14, 2, 0, 0, 0, 0, 0, 0), (14, .iload_n 2, 15, 2, 0, 0, 0, 0, 0, 0), (15, .bipush 20, 17, 0, 0, 0, 0, 0, 20, 0), (17, .if_icmp .gt 42, 20, 59, 0, 0, 0, 0, 0, 0)]),
  (46, [(20, .aload_n 0, 21, 0, 0, 0, 0, 0, 0, 0), (21, .getfield 61, 24, 10, 8, 0, 0, 408, 0, 0), (24, .iload_n 1, 25, 1, 0, 0, 0, 0, 0, 0), (25, .iload_n 2, 26, 2, 0, 0, 0, 0, 0, 0), (26, .bipush 100, 28, 0, 0, 0, 0, 0, 100, 0), (28, .sipush 199, 31, 0, 0, 0, 0, 0, 199, 0), (31, .invokevirtual 262, 34, 57, 5, 0, 6, 882, 0, 0), (34, .aload_n 0, 35, 0, 0, 0, 0, 0, 0, 0), (35, .getfield 61, 38, 10, 8, 0, 0, 408, 0, 0), (38, .bipush 99, 40, 0, 0, 0, 0, 0, 99, 0), (40, .sipush 199, 43, 0, 0, 0, 0, 0, 199, 0), (43, .invokevirtual 266, 46, 58, 3, 0, 6, 888, 0, 0)]),
  (100000, [(46, .bipush 100, 48, 0, 0, 0, 0, 0, 100, 0), (48, .if_icmp .le 5, 51, 53, 0, 0, 0, 0, 0, 0), (51, .iload_n 2, 52, 2, 0, 0, 0, 0, 0, 0), (52, .ireturn, 53, 0, 0, 0, 0, 0, 0, 0), (53, .iinc 2 1, 56, 2, 0, 0, 0, 0, 1, 0), (56, .goto (-42), 59, 14, 0, 0, 0, 0, 0, 0), (59, .bipush (-2), 61, 0, 0, 0, 0, 0, -2, 0), (61, .ireturn, 62, 0, 0, 0, 0, 0, 0, 0)])]
def mmX10_edge : am_M := (yX10_edge, cX10_edge, 3, some .int, 0, 0, 2, 10, [910, 908, 909, 76, 1], tbX10_edge)
def tbX10_gentle : List (Nat × List am_I) := [(23, [(0, .iload_n 1, 1, 1, 0, 0, 0, 0, 0, 0), (1, .iconst 0, 2, 0, 0, 0, 0, 0, 0, 0), (2, .bipush 20, 4, 0, 0, 0, 0, 0, 20, 0), (4, .invokestatic 76, 7, 133, 3, 1, 0, 435, 0, 0), (7, .ifCond .eq 14, 10, 21, 0, 0, 0, 0, 0, 0), (10, .iload_n 2, 11, 2, 0, 0, 0, 0, 0, 0), (11, .iconst 1, 12, 0, 0, 0, 0, 0, 1, 0), (12, .sipush 999, 15, 0, 0, 0, 0, 0, 999, 0), (15, .invokestatic 76, 18, 133, 3, 1, 0, 435, 0, 0), (18, .ifCond .ne 5, 21, 23, 0, 0, 0, 0, 0, 0), (21, .iconst (-1), 22, 0, 0, 0, 0, 0, -1, 0), (22, .ireturn, 23, 0, 0, 0, 0, 0, 0, 0)]),
  (46, [(23, .bipush (-2), 25, 0, 0, 0, 0, 0, -2, 0), (25, .istore_n 3, 26, 3, 0, 0, 0, 0, 0, 0), (26, .sipush 200, 29, 0, 0, 0, 0, 0, 200, 0), (29, .istore 4, 31, 4, 0, 0, 0, 0, 0, 0), (31, .iconst 1, 32, 0, 0, 0, 0, 0, 1, 0), (32, .istore 5, 34, 5, 0, 0, 0, 0, 0, 0), (34, .iload 5, 36, 5, 0, 0, 0, 0, 0, 0), (36, .bipush 20, 38, 0, 0, 0, 0, 0, 20, 0), (38, .if_icmp .gt 52, 41, 90, 0, 0, 0, 0, 0, 0), (41, .aload_n 0, 42, 0, 0, 0, 0, 0, 0, 0), (42, .getfield 61, 45, 10, 8, 0, 0, 408, 0, 0), (45, .iload_n 1, 46, 1, 0, 0, 0, 0, 0, 0)]),
  (72, [(46, .iload 5, 48, 5, 0, 0, 0, 0, 0, 0), (48, .iload_n 2, 49, 2, 0, 0, 0, 0, 0, 0), (49, .sipush 199, 52, 0, 0, 0, 0, 0, 199, 0), (52, .invokevirtual 262, 55, 57, 5, 0, 6, 882, 0, 0), (55, .aload_n 0, 56, 0, 0, 0, 0, 0, 0, 0), (56, .getfield 61, 59, 10, 8, 0, 0, 408, 0, 0), (59, .invokevirtual 271, 62, 60, 1, 0, 6, 899, 0, 0), (62, .istore 6, 64, 6, 0, 0, 0, 0, 0, 0), (64, .iload 6, 66, 6, 0, 0, 0, 0, 0, 0), (66, .iconst (-1), 67, 0, 0, 0, 0, 0, -1, 0), (67, .if_icmp .eq 17, 70, 84, 0, 0, 0, 0, 0, 0), (70, .iload 6, 72, 6, 0, 0, 0, 0, 0, 0)]),
  (97, [(72, .iload 4, 74, 4, 0, 0, 0, 0, 0, 0), (74, .if_icmp .ge 10, 77, 84, 0, 0, 0, 0, 0, 0), (77, .iload 5, 79, 5, 0, 0, 0, 0, 0, 0), (79, .istore_n 3, 80, 3, 0, 0, 0, 0, 0, 0), (80, .iload 6, 82, 6, 0, 0, 0, 0, 0, 0), (82, .istore 4, 84, 4, 0, 0, 0, 0, 0, 0), (84, .iinc 5 1, 87, 5, 0, 0, 0, 0, 1, 0), (87, .goto (-53), 90, 34, 0, 0, 0, 0, 0, 0), (90, .iload_n 3, 91, 3, 0, 0, 0, 0, 0, 0), (91, .bipush (-2), 93, 0, 0, 0, 0, 0, -2, 0), (93, .if_icmp .eq 13, 96, 106, 0, 0, 0, 0, 0, 0), (96, .aload_n 0, 97, 0, 0, 0, 0, 0, 0, 0)]),
  (100000, [(97, .getfield 40, 100, 10, 5, 0, 0, 405, 0, 0), (100, .iload 4, 102, 4, 0, 0, 0, 0, 0, 0), (102, .i2l, 103, 0, 0, 0, 0, 0, 0, 0), (103, .invokevirtual 218, 106, 64, 2, 0, 7, 789, 0, 0), (106, .iload_n 3, 107, 3, 0, 0, 0, 0, 0, 0), (107, .ireturn, 108, 0, 0, 0, 0, 0, 0, 0)])]
def mmX10_gentle : am_M := (yX10_gentle, cX10_gentle, 7, some .int, 0, 0, 3, 10, [914, 912, 913, 76, 1], tbX10_gentle)
def tbX10_weight : List (Nat × List am_I) := [(20, [(0, .iload_n 1, 1, 1, 0, 0, 0, 0, 0, 0), (1, .iconst 0, 2, 0, 0, 0, 0, 0, 0, 0), (2, .iconst 2, 3, 0, 0, 0, 0, 0, 2, 0), (3, .invokestatic 76, 6, 133, 3, 1, 0, 435, 0, 0), (6, .ifCond .eq 22, 9, 28, 0, 0, 0, 0, 0, 0), (9, .iload_n 2, 10, 2, 0, 0, 0, 0, 0, 0), (10, .iconst 0, 11, 0, 0, 0, 0, 0, 0, 0), (11, .iconst 2, 12, 0, 0, 0, 0, 0, 2, 0), (12, .invokestatic 76, 15, 133, 3, 1, 0, 435, 0, 0), (15, .ifCond .eq 13, 18, 28, 0, 0, 0, 0, 0, 0), (18, .iload_n 3, 19, 3, 0, 0, 0, 0, 0, 0), (19, .iconst 0, 20, 0, 0, 0, 0, 0, 0, 0)]),
  (41, [(20, .bipush 99, 22, 0, 0, 0, 0, 0, 99, 0), (22, .invokestatic 76, 25, 133, 3, 1, 0, 435, 0, 0), (25, .ifCond .ne 5, 28, 30, 0, 0, 0, 0, 0, 0), (28, .iconst (-1), 29, 0, 0, 0, 0, 0, -1, 0), (29, .ireturn, 30, 0, 0, 0, 0, 0, 0, 0), (30, .aload_n 0, 31, 0, 0, 0, 0, 0, 0, 0), (31, .getfield 68, 34, 10, 9, 0, 0, 409, 0, 0), (34, .getfield 278, 37, 3, 0, 0, 0, 370, 0, 0), (37, .iload_n 1, 38, 1, 0, 0, 0, 0, 0, 0), (38, .iconst 3, 39, 0, 0, 0, 0, 0, 3, 0), (39, .imul, 40, 0, 0, 0, 0, 0, 0, 0), (40, .iload_n 2, 41, 2, 0, 0, 0, 0, 0, 0)]),
  (58, [(41, .iadd, 42, 0, 0, 0, 0, 0, 0, 0), (42, .iaload, 43, 0, 0, 0, 0, 0, 0, 0), (43, .istore 4, 45, 4, 0, 0, 0, 0, 0, 0), (45, .aload_n 0, 46, 0, 0, 0, 0, 0, 0, 0), (46, .getfield 68, 49, 10, 9, 0, 0, 409, 0, 0), (49, .getfield 278, 52, 3, 0, 0, 0, 370, 0, 0), (52, .iload_n 1, 53, 1, 0, 0, 0, 0, 0, 0), (53, .iconst 3, 54, 0, 0, 0, 0, 0, 3, 0), (54, .imul, 55, 0, 0, 0, 0, 0, 0, 0), (55, .iload_n 2, 56, 2, 0, 0, 0, 0, 0, 0), (56, .iadd, 57, 0, 0, 0, 0, 0, 0, 0), (57, .iload_n 3, 58, 3, 0, 0, 0, 0, 0, 0)]),
  (100000, [(58, .iastore, 59, 0, 0, 0, 0, 0, 0, 0), (59, .iload 4, 61, 4, 0, 0, 0, 0, 0, 0), (61, .ireturn, 62, 0, 0, 0, 0, 0, 0, 0)])]
def mmX10_weight : am_M := (yX10_weight, cX10_weight, 5, some .int, 0, 0, 4, 10, [918, 916, 917, 76, 1], tbX10_weight)
def tbX10_pays : List (Nat × List am_I) := [(26, [(0, .aload_n 0, 1, 0, 0, 0, 0, 0, 0, 0), (1, .getfield 33, 4, 10, 4, 0, 0, 404, 0, 0), (4, .ldc_w 281, 7, 0, 1000001, 1, 0, 0, 0, 0), (7, .aload_n 0, 8, 0, 0, 0, 0, 0, 0, 0), (8, .getfield 68, 11, 10, 9, 0, 0, 409, 0, 0), (11, .getfield 283, 14, 3, 1, 0, 0, 372, 0, 0), (14, .invokevirtual 147, 17, 44, 3, 0, 5, 490, 0, 0), (17, .istore_n 1, 18, 1, 0, 0, 0, 0, 0, 0), (18, .aload_n 0, 19, 0, 0, 0, 0, 0, 0, 0), (19, .getfield 33, 22, 10, 4, 0, 0, 404, 0, 0), (22, .iconst 0, 23, 0, 0, 0, 0, 0, 0, 0), (23, .putfield 138, 26, 5, 1, 0, 0, 260, 0, 0)]),
  (100000, [(26, .iload_n 1, 27, 1, 0, 0, 0, 0, 0, 0), (27, .ifCond .ne 10, 30, 37, 0, 0, 0, 0, 0, 0), (30, .aload_n 0, 31, 0, 0, 0, 0, 0, 0, 0), (31, .getfield 68, 34, 10, 9, 0, 0, 409, 0, 0), (34, .invokevirtual 287, 37, 29, 1, 0, 3, 924, 0, 0), (37, .iload_n 1, 38, 1, 0, 0, 0, 0, 0, 0), (38, .ireturn, 39, 0, 0, 0, 0, 0, 0, 0)])]
def mmX10_pays : am_M := (yX10_pays, cX10_pays, 2, some .int, 0, 0, 1, 10, [922, 920, 921, 76, 1], tbX10_pays)
def tbX10_two : List (Nat × List am_I) := [(22, [(0, .aload_n 0, 1, 0, 0, 0, 0, 0, 0, 0), (1, .getfield 68, 4, 10, 9, 0, 0, 409, 0, 0), (4, .invokevirtual 290, 7, 34, 1, 0, 3, 933, 0, 0), (7, .lstore_n 1, 8, 1, 0, 0, 0, 0, 0, 0), (8, .aload_n 0, 9, 0, 0, 0, 0, 0, 0, 0), (9, .getfield 40, 12, 10, 5, 0, 0, 405, 0, 0), (12, .invokevirtual 294, 15, 62, 1, 0, 7, 954, 0, 0), (15, .iconst 0, 16, 0, 0, 0, 0, 0, 0, 0), (16, .istore_n 3, 17, 3, 0, 0, 0, 0, 0, 0), (17, .iload_n 3, 18, 3, 0, 0, 0, 0, 0, 0), (18, .iconst 3, 19, 0, 0, 0, 0, 0, 3, 0), (19, .if_icmp .ge 26, 22, 45, 0, 0, 0, 0, 0, 0)]),
  (46, [(22, .aload_n 0, 23, 0, 0, 0, 0, 0, 0, 0), (23, .getfield 40, 26, 10, 5, 0, 0, 405, 0, 0), (26, .aload_n 0, 27, 0, 0, 0, 0, 0, 0, 0), (27, .getfield 68, 30, 10, 9, 0, 0, 409, 0, 0), (30, .getfield 297, 33, 3, 5, 0, 0, 379, 0, 0), (33, .iload_n 3, 34, 3, 0, 0, 0, 0, 0, 0), (34, .iaload, 35, 0, 0, 0, 0, 0, 0, 0), (35, .i2l, 36, 0, 0, 0, 0, 0, 0, 0), (36, .invokevirtual 300, 39, 63, 2, 0, 7, 955, 0, 0), (39, .iinc 3 1, 42, 3, 0, 0, 0, 0, 1, 0), (42, .goto (-25), 45, 17, 0, 0, 0, 0, 0, 0), (45, .iconst 0, 46, 0, 0, 0, 0, 0, 0, 0)]),
  (66, [(46, .istore_n 3, 47, 3, 0, 0, 0, 0, 0, 0), (47, .iload_n 3, 48, 3, 0, 0, 0, 0, 0, 0), (48, .iconst 3, 49, 0, 0, 0, 0, 0, 3, 0), (49, .if_icmp .ge 26, 52, 75, 0, 0, 0, 0, 0, 0), (52, .aload_n 0, 53, 0, 0, 0, 0, 0, 0, 0), (53, .getfield 40, 56, 10, 5, 0, 0, 405, 0, 0), (56, .aload_n 0, 57, 0, 0, 0, 0, 0, 0, 0), (57, .getfield 68, 60, 10, 9, 0, 0, 409, 0, 0), (60, .getfield 303, 63, 3, 6, 0, 0, 381, 0, 0), (63, .iload_n 3, 64, 3, 0, 0, 0, 0, 0, 0), (64, .iaload, 65, 0, 0, 0, 0, 0, 0, 0), (65, .i2l, 66, 0, 0, 0, 0, 0, 0, 0)]),
  (100000, [(66, .invokevirtual 300, 69, 63, 2, 0, 7, 955, 0, 0), (69, .iinc 3 1, 72, 3, 0, 0, 0, 0, 1, 0), (72, .goto (-25), 75, 47, 0, 0, 0, 0, 0, 0), (75, .lload_n 1, 76, 1, 0, 0, 0, 0, 0, 0), (76, .lreturn, 77, 0, 0, 0, 0, 0, 0, 0)])]
def mmX10_two : am_M := (yX10_two, cX10_two, 4, some .long, 0, 0, 1, 10, [932, 930, 931, 76, 1], tbX10_two)
def tbX10_stand : List (Nat × List am_I) := [(22, [(0, .iload_n 1, 1, 1, 0, 0, 0, 0, 0, 0), (1, .invokestatic 306, 4, 140, 1, 1, 0, 960, 0, 0), (4, .ifCond .eq 10, 7, 14, 0, 0, 0, 0, 0, 0), (7, .iload_n 2, 8, 2, 0, 0, 0, 0, 0, 0), (8, .invokestatic 306, 11, 140, 1, 1, 0, 960, 0, 0), (11, .ifCond .ne 5, 14, 16, 0, 0, 0, 0, 0, 0), (14, .iconst (-1), 15, 0, 0, 0, 0, 0, -1, 0), (15, .ireturn, 16, 0, 0, 0, 0, 0, 0, 0), (16, .aload_n 0, 17, 0, 0, 0, 0, 0, 0, 0), (17, .getfield 68, 20, 10, 9, 0, 0, 409, 0, 0), (20, .iload_n 1, 21, 1, 0, 0, 0, 0, 0, 0), (21, .iload_n 2, 22, 2, 0, 0, 0, 0, 0, 0)]),
  (48, [(22, .invokevirtual 309, 25, 35, 3, 0, 3, 963, 0, 0), (25, .istore_n 3, 26, 3, 0, 0, 0, 0, 0, 0), (26, .aload_n 0, 27, 0, 0, 0, 0, 0, 0, 0), (27, .getfield 40, 30, 10, 5, 0, 0, 405, 0, 0), (30, .aload_n 0, 31, 0, 0, 0, 0, 0, 0, 0), (31, .getfield 68, 34, 10, 9, 0, 0, 409, 0, 0), (34, .getfield 312, 37, 3, 3, 0, 0, 375, 0, 0), (37, .invokestatic 315, 40, 39, 1, 1, 0, 975, 0, 0), (40, .i2l, 41, 0, 0, 0, 0, 0, 0, 0), (41, .aload_n 0, 42, 0, 0, 0, 0, 0, 0, 0), (42, .getfield 68, 45, 10, 9, 0, 0, 409, 0, 0), (45, .getfield 319, 48, 3, 4, 0, 0, 377, 0, 0)]),
  (100000, [(48, .invokestatic 315, 51, 39, 1, 1, 0, 975, 0, 0), (51, .i2l, 52, 0, 0, 0, 0, 0, 0, 0), (52, .aload_n 0, 53, 0, 0, 0, 0, 0, 0, 0), (53, .getfield 68, 56, 10, 9, 0, 0, 409, 0, 0), (56, .invokevirtual 322, 59, 31, 1, 0, 3, 978, 0, 0), (59, .invokevirtual 274, 62, 66, 4, 0, 7, 903, 0, 0), (62, .iload_n 3, 63, 3, 0, 0, 0, 0, 0, 0), (63, .ireturn, 64, 0, 0, 0, 0, 0, 0, 0)])]
def mmX10_stand : am_M := (yX10_stand, cX10_stand, 4, some .int, 0, 0, 3, 10, [959, 957, 958, 76, 1], tbX10_stand)
def tbX10_gap : List (Nat × List am_I) := [(22, [(0, .aload_n 0, 1, 0, 0, 0, 0, 0, 0, 0), (1, .getfield 68, 4, 10, 9, 0, 0, 409, 0, 0), (4, .invokevirtual 290, 7, 34, 1, 0, 3, 933, 0, 0), (7, .lstore_n 1, 8, 1, 0, 0, 0, 0, 0, 0), (8, .aload_n 0, 9, 0, 0, 0, 0, 0, 0, 0), (9, .getfield 68, 12, 10, 9, 0, 0, 409, 0, 0), (12, .iconst 0, 13, 0, 0, 0, 0, 0, 0, 0), (13, .iconst 0, 14, 0, 0, 0, 0, 0, 0, 0), (14, .invokevirtual 309, 17, 35, 3, 0, 3, 963, 0, 0), (17, .pop, 18, 0, 0, 0, 0, 0, 0, 0), (18, .aload_n 0, 19, 0, 0, 0, 0, 0, 0, 0), (19, .getfield 40, 22, 10, 5, 0, 0, 405, 0, 0)]),
  (100000, [(22, .aload_n 0, 23, 0, 0, 0, 0, 0, 0, 0), (23, .getfield 68, 26, 10, 9, 0, 0, 409, 0, 0), (26, .invokevirtual 325, 29, 37, 1, 0, 3, 983, 0, 0), (29, .invokevirtual 218, 32, 64, 2, 0, 7, 789, 0, 0), (32, .lload_n 1, 33, 1, 0, 0, 0, 0, 0, 0), (33, .aload_n 0, 34, 0, 0, 0, 0, 0, 0, 0), (34, .getfield 68, 37, 10, 9, 0, 0, 409, 0, 0), (37, .invokevirtual 322, 40, 31, 1, 0, 3, 978, 0, 0), (40, .lsub, 41, 0, 0, 0, 0, 0, 0, 0), (41, .lreturn, 42, 0, 0, 0, 0, 0, 0, 0)])]
def mmX10_gap : am_M := (yX10_gap, cX10_gap, 3, some .long, 0, 0, 1, 10, [982, 980, 981, 76, 1], tbX10_gap)
def tbX10_says : List (Nat × List am_I) := [(22, [(0, .aload_n 0, 1, 0, 0, 0, 0, 0, 0, 0), (1, .getfield 10, 4, 10, 0, 0, 0, 400, 0, 0), (4, .iload_n 1, 5, 1, 0, 0, 0, 0, 0, 0), (5, .iload_n 2, 6, 2, 0, 0, 0, 0, 0, 0), (6, .invokevirtual 99, 9, 75, 3, 0, 9, 450, 0, 0), (9, .ifCond .ne 5, 12, 14, 0, 0, 0, 0, 0, 0), (12, .iconst (-1), 13, 0, 0, 0, 0, 0, -1, 0), (13, .ireturn, 14, 0, 0, 0, 0, 0, 0, 0), (14, .aload_n 0, 15, 0, 0, 0, 0, 0, 0, 0), (15, .getfield 47, 18, 10, 6, 0, 0, 406, 0, 0), (18, .aload_n 0, 19, 0, 0, 0, 0, 0, 0, 0), (19, .getfield 10, 22, 10, 0, 0, 0, 400, 0, 0)]),
  (43, [(22, .iload_n 1, 23, 1, 0, 0, 0, 0, 0, 0), (23, .iload_n 2, 24, 2, 0, 0, 0, 0, 0, 0), (24, .invokevirtual 328, 27, 69, 4, 0, 8, 994, 0, 0), (27, .istore_n 3, 28, 3, 0, 0, 0, 0, 0, 0), (28, .iload_n 3, 29, 3, 0, 0, 0, 0, 0, 0), (29, .bipush (-2), 31, 0, 0, 0, 0, 0, -2, 0), (31, .if_icmp .eq 61, 34, 92, 0, 0, 0, 0, 0, 0), (34, .aload_n 0, 35, 0, 0, 0, 0, 0, 0, 0), (35, .getfield 47, 38, 10, 6, 0, 0, 406, 0, 0), (38, .aload_n 0, 39, 0, 0, 0, 0, 0, 0, 0), (39, .getfield 10, 42, 10, 0, 0, 0, 400, 0, 0), (42, .iload_n 1, 43, 1, 0, 0, 0, 0, 0, 0)]),
  (69, [(43, .invokevirtual 332, 46, 72, 3, 0, 8, 1010, 0, 0), (46, .aload_n 0, 47, 0, 0, 0, 0, 0, 0, 0), (47, .getfield 40, 50, 10, 5, 0, 0, 405, 0, 0), (50, .invokevirtual 294, 53, 62, 1, 0, 7, 954, 0, 0), (53, .iconst 0, 54, 0, 0, 0, 0, 0, 0, 0), (54, .istore 4, 56, 4, 0, 0, 0, 0, 0, 0), (56, .iload 4, 58, 4, 0, 0, 0, 0, 0, 0), (58, .aload_n 0, 59, 0, 0, 0, 0, 0, 0, 0), (59, .getfield 47, 62, 10, 6, 0, 0, 406, 0, 0), (62, .getfield 336, 65, 8, 2, 0, 0, 317, 0, 0), (65, .if_icmp .ge 27, 68, 92, 0, 0, 0, 0, 0, 0), (68, .aload_n 0, 69, 0, 0, 0, 0, 0, 0, 0)]),
  (100000, [(69, .getfield 40, 72, 10, 5, 0, 0, 405, 0, 0), (72, .aload_n 0, 73, 0, 0, 0, 0, 0, 0, 0), (73, .getfield 47, 76, 10, 6, 0, 0, 406, 0, 0), (76, .getfield 339, 79, 8, 1, 0, 0, 315, 0, 0), (79, .iload 4, 81, 4, 0, 0, 0, 0, 0, 0), (81, .iaload, 82, 0, 0, 0, 0, 0, 0, 0), (82, .i2l, 83, 0, 0, 0, 0, 0, 0, 0), (83, .invokevirtual 300, 86, 63, 2, 0, 7, 955, 0, 0), (86, .iinc 4 1, 89, 4, 0, 0, 0, 0, 1, 0), (89, .goto (-33), 92, 56, 0, 0, 0, 0, 0, 0), (92, .iload_n 3, 93, 3, 0, 0, 0, 0, 0, 0), (93, .ireturn, 94, 0, 0, 0, 0, 0, 0, 0)])]
def mmX10_says : am_M := (yX10_says, cX10_says, 5, some .int, 0, 0, 3, 10, [993, 991, 992, 76, 1], tbX10_says)
def tbX10_soon : List (Nat × List am_I) := [(22, [(0, .aload_n 0, 1, 0, 0, 0, 0, 0, 0, 0), (1, .getfield 10, 4, 10, 0, 0, 0, 400, 0, 0), (4, .iload_n 1, 5, 1, 0, 0, 0, 0, 0, 0), (5, .iload_n 2, 6, 2, 0, 0, 0, 0, 0, 0), (6, .invokevirtual 99, 9, 75, 3, 0, 9, 450, 0, 0), (9, .ifCond .ne 5, 12, 14, 0, 0, 0, 0, 0, 0), (12, .iconst (-1), 13, 0, 0, 0, 0, 0, -1, 0), (13, .ireturn, 14, 0, 0, 0, 0, 0, 0, 0), (14, .aload_n 0, 15, 0, 0, 0, 0, 0, 0, 0), (15, .getfield 47, 18, 10, 6, 0, 0, 406, 0, 0), (18, .aload_n 0, 19, 0, 0, 0, 0, 0, 0, 0), (19, .getfield 10, 22, 10, 0, 0, 0, 400, 0, 0)]),
  (43, [(22, .iload_n 1, 23, 1, 0, 0, 0, 0, 0, 0), (23, .iload_n 2, 24, 2, 0, 0, 0, 0, 0, 0), (24, .invokevirtual 328, 27, 69, 4, 0, 8, 994, 0, 0), (27, .istore_n 3, 28, 3, 0, 0, 0, 0, 0, 0), (28, .aload_n 0, 29, 0, 0, 0, 0, 0, 0, 0), (29, .getfield 47, 32, 10, 6, 0, 0, 406, 0, 0), (32, .aload_n 0, 33, 0, 0, 0, 0, 0, 0, 0), (33, .getfield 10, 36, 10, 0, 0, 0, 400, 0, 0), (36, .iload_n 2, 37, 2, 0, 0, 0, 0, 0, 0), (37, .iload_n 1, 38, 1, 0, 0, 0, 0, 0, 0), (38, .invokevirtual 328, 41, 69, 4, 0, 8, 994, 0, 0), (41, .istore 4, 43, 4, 0, 0, 0, 0, 0, 0)]),
  (67, [(43, .aload_n 0, 44, 0, 0, 0, 0, 0, 0, 0), (44, .getfield 10, 47, 10, 0, 0, 0, 400, 0, 0), (47, .iload_n 1, 48, 1, 0, 0, 0, 0, 0, 0), (48, .iload_n 2, 49, 2, 0, 0, 0, 0, 0, 0), (49, .invokevirtual 342, 52, 77, 3, 0, 9, 1018, 0, 0), (52, .istore 5, 54, 5, 0, 0, 0, 0, 0, 0), (54, .iload_n 3, 55, 3, 0, 0, 0, 0, 0, 0), (55, .bipush (-2), 57, 0, 0, 0, 0, 0, -2, 0), (57, .if_icmp .eq 15, 60, 72, 0, 0, 0, 0, 0, 0), (60, .iload 5, 62, 5, 0, 0, 0, 0, 0, 0), (62, .ifCond .ne 13, 65, 75, 0, 0, 0, 0, 0, 0), (65, .iload 4, 67, 4, 0, 0, 0, 0, 0, 0)]),
  (92, [(67, .bipush (-2), 69, 0, 0, 0, 0, 0, -2, 0), (69, .if_icmp .ne 6, 72, 75, 0, 0, 0, 0, 0, 0), (72, .bipush (-2), 74, 0, 0, 0, 0, 0, -2, 0), (74, .ireturn, 75, 0, 0, 0, 0, 0, 0, 0), (75, .aload_n 0, 76, 0, 0, 0, 0, 0, 0, 0), (76, .getfield 40, 79, 10, 5, 0, 0, 405, 0, 0), (79, .iload 5, 81, 5, 0, 0, 0, 0, 0, 0), (81, .ifCond .eq 7, 84, 88, 0, 0, 0, 0, 0, 0), (84, .lconst 1, 85, 0, 0, 0, 0, 0, 0, 1), (85, .goto 4, 88, 89, 0, 0, 0, 0, 0, 0), (88, .lconst 0, 89, 0, 0, 0, 0, 0, 0, 0), (89, .invokevirtual 218, 92, 64, 2, 0, 7, 789, 0, 0)]),
  (115, [(92, .iload_n 3, 93, 3, 0, 0, 0, 0, 0, 0), (93, .aload_n 0, 94, 0, 0, 0, 0, 0, 0, 0), (94, .getfield 10, 97, 10, 0, 0, 0, 400, 0, 0), (97, .getfield 80, 100, 9, 0, 0, 0, 169, 0, 0), (100, .iload_n 2, 101, 2, 0, 0, 0, 0, 0, 0), (101, .aaload, 102, 0, 0, 0, 0, 0, 0, 0), (102, .getfield 92, 105, 4, 2, 0, 0, 128, 0, 0), (105, .iadd, 106, 0, 0, 0, 0, 0, 0, 0), (106, .iload 5, 108, 5, 0, 0, 0, 0, 0, 0), (108, .ifCond .eq 7, 111, 115, 0, 0, 0, 0, 0, 0), (111, .iconst 0, 112, 0, 0, 0, 0, 0, 0, 0), (112, .goto 5, 115, 117, 0, 0, 0, 0, 0, 0)]),
  (100000, [(115, .iload 4, 117, 4, 0, 0, 0, 0, 0, 0), (117, .iadd, 118, 0, 0, 0, 0, 0, 0, 0), (118, .ireturn, 119, 0, 0, 0, 0, 0, 0, 0)])]
def mmX10_soon : am_M := (yX10_soon, cX10_soon, 6, some .int, 0, 0, 3, 10, [1017, 1015, 1016, 76, 1], tbX10_soon)
def tbX10_know : List (Nat × List am_I) := [(24, [(0, .aload_n 0, 1, 0, 0, 0, 0, 0, 0, 0), (1, .getfield 10, 4, 10, 0, 0, 0, 400, 0, 0), (4, .iload_n 1, 5, 1, 0, 0, 0, 0, 0, 0), (5, .iload_n 2, 6, 2, 0, 0, 0, 0, 0, 0), (6, .invokevirtual 99, 9, 75, 3, 0, 9, 450, 0, 0), (9, .ifCond .eq 14, 12, 23, 0, 0, 0, 0, 0, 0), (12, .iload_n 3, 13, 3, 0, 0, 0, 0, 0, 0), (13, .iconst 0, 14, 0, 0, 0, 0, 0, 0, 0), (14, .sipush 199, 17, 0, 0, 0, 0, 0, 199, 0), (17, .invokestatic 76, 20, 133, 3, 1, 0, 435, 0, 0), (20, .ifCond .ne 5, 23, 25, 0, 0, 0, 0, 0, 0), (23, .iconst (-1), 24, 0, 0, 0, 0, 0, -1, 0)]),
  (46, [(24, .ireturn, 25, 0, 0, 0, 0, 0, 0, 0), (25, .aload_n 0, 26, 0, 0, 0, 0, 0, 0, 0), (26, .getfield 10, 29, 10, 0, 0, 0, 400, 0, 0), (29, .iload_n 1, 30, 1, 0, 0, 0, 0, 0, 0), (30, .iload_n 2, 31, 2, 0, 0, 0, 0, 0, 0), (31, .invokevirtual 342, 34, 77, 3, 0, 9, 1018, 0, 0), (34, .ifCond .eq 18, 37, 52, 0, 0, 0, 0, 0, 0), (37, .aload_n 0, 38, 0, 0, 0, 0, 0, 0, 0), (38, .getfield 10, 41, 10, 0, 0, 0, 400, 0, 0), (41, .iload_n 2, 42, 2, 0, 0, 0, 0, 0, 0), (42, .iload_n 1, 43, 1, 0, 0, 0, 0, 0, 0), (43, .invokevirtual 342, 46, 77, 3, 0, 9, 1018, 0, 0)]),
  (68, [(46, .ifCond .eq 6, 49, 52, 0, 0, 0, 0, 0, 0), (49, .bipush 99, 51, 0, 0, 0, 0, 0, 99, 0), (51, .ireturn, 52, 0, 0, 0, 0, 0, 0, 0), (52, .aload_n 0, 53, 0, 0, 0, 0, 0, 0, 0), (53, .getfield 47, 56, 10, 6, 0, 0, 406, 0, 0), (56, .aload_n 0, 57, 0, 0, 0, 0, 0, 0, 0), (57, .getfield 10, 60, 10, 0, 0, 0, 400, 0, 0), (60, .iload_n 1, 61, 1, 0, 0, 0, 0, 0, 0), (61, .iload_n 2, 62, 2, 0, 0, 0, 0, 0, 0), (62, .invokevirtual 328, 65, 69, 4, 0, 8, 994, 0, 0), (65, .istore 4, 67, 4, 0, 0, 0, 0, 0, 0), (67, .aload_n 0, 68, 0, 0, 0, 0, 0, 0, 0)]),
  (93, [(68, .getfield 47, 71, 10, 6, 0, 0, 406, 0, 0), (71, .aload_n 0, 72, 0, 0, 0, 0, 0, 0, 0), (72, .getfield 10, 75, 10, 0, 0, 0, 400, 0, 0), (75, .iload_n 2, 76, 2, 0, 0, 0, 0, 0, 0), (76, .iload_n 1, 77, 1, 0, 0, 0, 0, 0, 0), (77, .invokevirtual 328, 80, 69, 4, 0, 8, 994, 0, 0), (80, .istore 5, 82, 5, 0, 0, 0, 0, 0, 0), (82, .iload 4, 84, 4, 0, 0, 0, 0, 0, 0), (84, .bipush (-2), 86, 0, 0, 0, 0, 0, -2, 0), (86, .if_icmp .eq 10, 89, 96, 0, 0, 0, 0, 0, 0), (89, .iload 5, 91, 5, 0, 0, 0, 0, 0, 0), (91, .bipush (-2), 93, 0, 0, 0, 0, 0, -2, 0)]),
  (115, [(93, .if_icmp .ne 5, 96, 98, 0, 0, 0, 0, 0, 0), (96, .iconst 0, 97, 0, 0, 0, 0, 0, 0, 0), (97, .ireturn, 98, 0, 0, 0, 0, 0, 0, 0), (98, .iload 4, 100, 4, 0, 0, 0, 0, 0, 0), (100, .istore 6, 102, 6, 0, 0, 0, 0, 0, 0), (102, .iconst 0, 103, 0, 0, 0, 0, 0, 0, 0), (103, .istore 7, 105, 7, 0, 0, 0, 0, 0, 0), (105, .iload 7, 107, 7, 0, 0, 0, 0, 0, 0), (107, .bipush 99, 109, 0, 0, 0, 0, 0, 99, 0), (109, .if_icmp .ge 73, 112, 182, 0, 0, 0, 0, 0, 0), (112, .iload 6, 114, 6, 0, 0, 0, 0, 0, 0), (114, .iload_n 3, 115, 3, 0, 0, 0, 0, 0, 0)]),
  (138, [(115, .if_icmp .gt 67, 118, 182, 0, 0, 0, 0, 0, 0), (118, .iinc 7 1, 121, 7, 0, 0, 0, 0, 1, 0), (121, .iload 7, 123, 7, 0, 0, 0, 0, 0, 0), (123, .iconst 2, 124, 0, 0, 0, 0, 0, 2, 0), (124, .irem, 125, 0, 0, 0, 0, 0, 0, 0), (125, .iconst 1, 126, 0, 0, 0, 0, 0, 1, 0), (126, .if_icmp .ne 7, 129, 133, 0, 0, 0, 0, 0, 0), (129, .iconst 1, 130, 0, 0, 0, 0, 0, 1, 0), (130, .goto 4, 133, 134, 0, 0, 0, 0, 0, 0), (133, .iconst 0, 134, 0, 0, 0, 0, 0, 0, 0), (134, .istore 8, 136, 8, 0, 0, 0, 0, 0, 0), (136, .iload 6, 138, 6, 0, 0, 0, 0, 0, 0)]),
  (162, [(138, .iload 8, 140, 8, 0, 0, 0, 0, 0, 0), (140, .ifCond .eq 21, 143, 161, 0, 0, 0, 0, 0, 0), (143, .aload_n 0, 144, 0, 0, 0, 0, 0, 0, 0), (144, .getfield 10, 147, 10, 0, 0, 0, 400, 0, 0), (147, .getfield 80, 150, 9, 0, 0, 0, 169, 0, 0), (150, .iload_n 2, 151, 2, 0, 0, 0, 0, 0, 0), (151, .aaload, 152, 0, 0, 0, 0, 0, 0, 0), (152, .getfield 92, 155, 4, 2, 0, 0, 128, 0, 0), (155, .iload 5, 157, 5, 0, 0, 0, 0, 0, 0), (157, .iadd, 158, 0, 0, 0, 0, 0, 0, 0), (158, .goto 18, 161, 176, 0, 0, 0, 0, 0, 0), (161, .aload_n 0, 162, 0, 0, 0, 0, 0, 0, 0)]),
  (100000, [(162, .getfield 10, 165, 10, 0, 0, 0, 400, 0, 0), (165, .getfield 80, 168, 9, 0, 0, 0, 169, 0, 0), (168, .iload_n 1, 169, 1, 0, 0, 0, 0, 0, 0), (169, .aaload, 170, 0, 0, 0, 0, 0, 0, 0), (170, .getfield 92, 173, 4, 2, 0, 0, 128, 0, 0), (173, .iload 4, 175, 4, 0, 0, 0, 0, 0, 0), (175, .iadd, 176, 0, 0, 0, 0, 0, 0, 0), (176, .iadd, 177, 0, 0, 0, 0, 0, 0, 0), (177, .istore 6, 179, 6, 0, 0, 0, 0, 0, 0), (179, .goto (-74), 182, 105, 0, 0, 0, 0, 0, 0), (182, .iload 7, 184, 7, 0, 0, 0, 0, 0, 0), (184, .ireturn, 185, 0, 0, 0, 0, 0, 0, 0)])]
def mmX10_know : am_M := (yX10_know, cX10_know, 9, some .int, 0, 0, 4, 10, [1025, 1023, 1024, 76, 1], tbX10_know)
def tbX10_crier : List (Nat × List am_I) := [(19, [(0, .aload_n 0, 1, 0, 0, 0, 0, 0, 0, 0), (1, .getfield 10, 4, 10, 0, 0, 0, 400, 0, 0), (4, .getfield 72, 7, 9, 1, 0, 0, 171, 0, 0), (7, .iconst 2, 8, 0, 0, 0, 0, 0, 2, 0), (8, .if_icmp .ge 5, 11, 13, 0, 0, 0, 0, 0, 0), (11, .iconst (-1), 12, 0, 0, 0, 0, 0, -1, 0), (12, .ireturn, 13, 0, 0, 0, 0, 0, 0, 0), (13, .bipush (-2), 15, 0, 0, 0, 0, 0, -2, 0), (15, .istore_n 1, 16, 1, 0, 0, 0, 0, 0, 0), (16, .iconst 0, 17, 0, 0, 0, 0, 0, 0, 0), (17, .istore_n 2, 18, 2, 0, 0, 0, 0, 0, 0), (18, .iconst 0, 19, 0, 0, 0, 0, 0, 0, 0)]),
  (42, [(19, .istore_n 3, 20, 3, 0, 0, 0, 0, 0, 0), (20, .iload_n 3, 21, 3, 0, 0, 0, 0, 0, 0), (21, .aload_n 0, 22, 0, 0, 0, 0, 0, 0, 0), (22, .getfield 10, 25, 10, 0, 0, 0, 400, 0, 0), (25, .getfield 72, 28, 9, 1, 0, 0, 171, 0, 0), (28, .if_icmp .ge 40, 31, 68, 0, 0, 0, 0, 0, 0), (31, .aload_n 0, 32, 0, 0, 0, 0, 0, 0, 0), (32, .iload_n 3, 33, 3, 0, 0, 0, 0, 0, 0), (33, .invokevirtual 345, 36, 145, 2, 0, 10, 1030, 0, 0), (36, .istore 4, 38, 4, 0, 0, 0, 0, 0, 0), (38, .iload 4, 40, 4, 0, 0, 0, 0, 0, 0), (40, .bipush (-2), 42, 0, 0, 0, 0, 0, -2, 0)]),
  (65, [(42, .if_icmp .eq 20, 45, 62, 0, 0, 0, 0, 0, 0), (45, .iload_n 1, 46, 1, 0, 0, 0, 0, 0, 0), (46, .bipush (-2), 48, 0, 0, 0, 0, 0, -2, 0), (48, .if_icmp .eq 9, 51, 57, 0, 0, 0, 0, 0, 0), (51, .iload 4, 53, 4, 0, 0, 0, 0, 0, 0), (53, .iload_n 2, 54, 2, 0, 0, 0, 0, 0, 0), (54, .if_icmp .ge 8, 57, 62, 0, 0, 0, 0, 0, 0), (57, .iload_n 3, 58, 3, 0, 0, 0, 0, 0, 0), (58, .istore_n 1, 59, 1, 0, 0, 0, 0, 0, 0), (59, .iload 4, 61, 4, 0, 0, 0, 0, 0, 0), (61, .istore_n 2, 62, 2, 0, 0, 0, 0, 0, 0), (62, .iinc 3 1, 65, 3, 0, 0, 0, 0, 1, 0)]),
  (100000, [(65, .goto (-45), 68, 20, 0, 0, 0, 0, 0, 0), (68, .iload_n 1, 69, 1, 0, 0, 0, 0, 0, 0), (69, .bipush (-2), 71, 0, 0, 0, 0, 0, -2, 0), (71, .if_icmp .eq 12, 74, 83, 0, 0, 0, 0, 0, 0), (74, .aload_n 0, 75, 0, 0, 0, 0, 0, 0, 0), (75, .getfield 40, 78, 10, 5, 0, 0, 405, 0, 0), (78, .iload_n 2, 79, 2, 0, 0, 0, 0, 0, 0), (79, .i2l, 80, 0, 0, 0, 0, 0, 0, 0), (80, .invokevirtual 218, 83, 64, 2, 0, 7, 789, 0, 0), (83, .iload_n 1, 84, 1, 0, 0, 0, 0, 0, 0), (84, .ireturn, 85, 0, 0, 0, 0, 0, 0, 0)])]
def mmX10_crier : am_M := (yX10_crier, cX10_crier, 5, some .int, 0, 0, 1, 10, [1029, 1027, 1028, 76, 1], tbX10_crier)
def tbX10_deaf : List (Nat × List am_I) := [(18, [(0, .aload_n 0, 1, 0, 0, 0, 0, 0, 0, 0), (1, .getfield 10, 4, 10, 0, 0, 0, 400, 0, 0), (4, .iload_n 1, 5, 1, 0, 0, 0, 0, 0, 0), (5, .invokevirtual 95, 8, 74, 2, 0, 9, 442, 0, 0), (8, .ifCond .ne 5, 11, 13, 0, 0, 0, 0, 0, 0), (11, .iconst (-1), 12, 0, 0, 0, 0, 0, -1, 0), (12, .ireturn, 13, 0, 0, 0, 0, 0, 0, 0), (13, .iconst 0, 14, 0, 0, 0, 0, 0, 0, 0), (14, .istore_n 2, 15, 2, 0, 0, 0, 0, 0, 0), (15, .iconst 0, 16, 0, 0, 0, 0, 0, 0, 0), (16, .istore_n 3, 17, 3, 0, 0, 0, 0, 0, 0), (17, .iload_n 3, 18, 3, 0, 0, 0, 0, 0, 0)]),
  (42, [(18, .aload_n 0, 19, 0, 0, 0, 0, 0, 0, 0), (19, .getfield 10, 22, 10, 0, 0, 0, 400, 0, 0), (22, .getfield 72, 25, 9, 1, 0, 0, 171, 0, 0), (25, .if_icmp .ge 39, 28, 64, 0, 0, 0, 0, 0, 0), (28, .iload_n 3, 29, 3, 0, 0, 0, 0, 0, 0), (29, .iload_n 1, 30, 1, 0, 0, 0, 0, 0, 0), (30, .if_icmp .eq 28, 33, 58, 0, 0, 0, 0, 0, 0), (33, .aload_n 0, 34, 0, 0, 0, 0, 0, 0, 0), (34, .getfield 47, 37, 10, 6, 0, 0, 406, 0, 0), (37, .aload_n 0, 38, 0, 0, 0, 0, 0, 0, 0), (38, .getfield 10, 41, 10, 0, 0, 0, 400, 0, 0), (41, .iload_n 3, 42, 3, 0, 0, 0, 0, 0, 0)]),
  (65, [(42, .iload_n 1, 43, 1, 0, 0, 0, 0, 0, 0), (43, .invokevirtual 328, 46, 69, 4, 0, 8, 994, 0, 0), (46, .bipush (-2), 48, 0, 0, 0, 0, 0, -2, 0), (48, .if_icmp .ne 10, 51, 58, 0, 0, 0, 0, 0, 0), (51, .iload_n 2, 52, 2, 0, 0, 0, 0, 0, 0), (52, .iload_n 3, 53, 3, 0, 0, 0, 0, 0, 0), (53, .iconst 1, 54, 0, 0, 0, 0, 0, 1, 0), (54, .invokestatic 106, 57, 135, 3, 1, 0, 455, 0, 0), (57, .istore_n 2, 58, 2, 0, 0, 0, 0, 0, 0), (58, .iinc 3 1, 61, 3, 0, 0, 0, 0, 1, 0), (61, .goto (-44), 64, 17, 0, 0, 0, 0, 0, 0), (64, .iload_n 2, 65, 2, 0, 0, 0, 0, 0, 0)]),
  (100000, [(65, .ireturn, 66, 0, 0, 0, 0, 0, 0, 0)])]
def mmX10_deaf : am_M := (yX10_deaf, cX10_deaf, 4, some .int, 0, 0, 2, 10, [1037, 1035, 1036, 76, 1], tbX10_deaf)
def tbX10_warn : List (Nat × List am_I) := [(25, [(0, .aload_n 0, 1, 0, 0, 0, 0, 0, 0, 0), (1, .getfield 10, 4, 10, 0, 0, 0, 400, 0, 0), (4, .iload_n 1, 5, 1, 0, 0, 0, 0, 0, 0), (5, .iload_n 2, 6, 2, 0, 0, 0, 0, 0, 0), (6, .invokevirtual 99, 9, 75, 3, 0, 9, 450, 0, 0), (9, .ifCond .eq 36, 12, 45, 0, 0, 0, 0, 0, 0), (12, .iload_n 3, 13, 3, 0, 0, 0, 0, 0, 0), (13, .iconst 1, 14, 0, 0, 0, 0, 0, 1, 0), (14, .sipush 9999, 17, 0, 0, 0, 0, 0, 9999, 0), (17, .invokestatic 76, 20, 133, 3, 1, 0, 435, 0, 0), (20, .ifCond .eq 25, 23, 45, 0, 0, 0, 0, 0, 0), (23, .iload 4, 25, 4, 0, 0, 0, 0, 0, 0)]),
  (48, [(25, .iconst 1, 26, 0, 0, 0, 0, 0, 1, 0), (26, .bipush 99, 28, 0, 0, 0, 0, 0, 99, 0), (28, .invokestatic 76, 31, 133, 3, 1, 0, 435, 0, 0), (31, .ifCond .eq 14, 34, 45, 0, 0, 0, 0, 0, 0), (34, .iload 5, 36, 5, 0, 0, 0, 0, 0, 0), (36, .iconst 1, 37, 0, 0, 0, 0, 0, 1, 0), (37, .bipush 99, 39, 0, 0, 0, 0, 0, 99, 0), (39, .invokestatic 76, 42, 133, 3, 1, 0, 435, 0, 0), (42, .ifCond .ne 5, 45, 47, 0, 0, 0, 0, 0, 0), (45, .iconst (-1), 46, 0, 0, 0, 0, 0, -1, 0), (46, .ireturn, 47, 0, 0, 0, 0, 0, 0, 0), (47, .aload_n 0, 48, 0, 0, 0, 0, 0, 0, 0)]),
  (72, [(48, .getfield 47, 51, 10, 6, 0, 0, 406, 0, 0), (51, .aload_n 0, 52, 0, 0, 0, 0, 0, 0, 0), (52, .getfield 10, 55, 10, 0, 0, 0, 400, 0, 0), (55, .iload_n 2, 56, 2, 0, 0, 0, 0, 0, 0), (56, .iload_n 1, 57, 1, 0, 0, 0, 0, 0, 0), (57, .invokevirtual 328, 60, 69, 4, 0, 8, 994, 0, 0), (60, .istore 6, 62, 6, 0, 0, 0, 0, 0, 0), (62, .iload 6, 64, 6, 0, 0, 0, 0, 0, 0), (64, .bipush (-2), 66, 0, 0, 0, 0, 0, -2, 0), (66, .if_icmp .ne 6, 69, 72, 0, 0, 0, 0, 0, 0), (69, .bipush (-2), 71, 0, 0, 0, 0, 0, -2, 0), (71, .ireturn, 72, 0, 0, 0, 0, 0, 0, 0)]),
  (92, [(72, .iload_n 3, 73, 3, 0, 0, 0, 0, 0, 0), (73, .iconst 1, 74, 0, 0, 0, 0, 0, 1, 0), (74, .isub, 75, 0, 0, 0, 0, 0, 0, 0), (75, .istore 7, 77, 7, 0, 0, 0, 0, 0, 0), (77, .iconst 1, 78, 0, 0, 0, 0, 0, 1, 0), (78, .istore 8, 80, 8, 0, 0, 0, 0, 0, 0), (80, .iload 8, 82, 8, 0, 0, 0, 0, 0, 0), (82, .iload 4, 84, 4, 0, 0, 0, 0, 0, 0), (84, .if_icmp .gt 32, 87, 116, 0, 0, 0, 0, 0, 0), (87, .iload 8, 89, 8, 0, 0, 0, 0, 0, 0), (89, .iload 5, 91, 5, 0, 0, 0, 0, 0, 0), (91, .imul, 92, 0, 0, 0, 0, 0, 0, 0)]),
  (116, [(92, .iload 4, 94, 4, 0, 0, 0, 0, 0, 0), (94, .if_icmp .ge 22, 97, 116, 0, 0, 0, 0, 0, 0), (97, .iload 7, 99, 7, 0, 0, 0, 0, 0, 0), (99, .iload 4, 101, 4, 0, 0, 0, 0, 0, 0), (101, .iload 8, 103, 8, 0, 0, 0, 0, 0, 0), (103, .iload 5, 105, 5, 0, 0, 0, 0, 0, 0), (105, .imul, 106, 0, 0, 0, 0, 0, 0, 0), (106, .isub, 107, 0, 0, 0, 0, 0, 0, 0), (107, .isub, 108, 0, 0, 0, 0, 0, 0, 0), (108, .istore 7, 110, 7, 0, 0, 0, 0, 0, 0), (110, .iinc 8 1, 113, 8, 0, 0, 0, 0, 1, 0), (113, .goto (-33), 116, 80, 0, 0, 0, 0, 0, 0)]),
  (139, [(116, .iload 7, 118, 7, 0, 0, 0, 0, 0, 0), (118, .ifCond .ge 6, 121, 124, 0, 0, 0, 0, 0, 0), (121, .bipush (-2), 123, 0, 0, 0, 0, 0, -2, 0), (123, .ireturn, 124, 0, 0, 0, 0, 0, 0, 0), (124, .iload 7, 126, 7, 0, 0, 0, 0, 0, 0), (126, .iload 4, 128, 4, 0, 0, 0, 0, 0, 0), (128, .idiv, 129, 0, 0, 0, 0, 0, 0, 0), (129, .iload 6, 131, 6, 0, 0, 0, 0, 0, 0), (131, .isub, 132, 0, 0, 0, 0, 0, 0, 0), (132, .aload_n 0, 133, 0, 0, 0, 0, 0, 0, 0), (133, .getfield 10, 136, 10, 0, 0, 0, 400, 0, 0), (136, .getfield 80, 139, 9, 0, 0, 0, 169, 0, 0)]),
  (100000, [(139, .iload_n 1, 140, 1, 0, 0, 0, 0, 0, 0), (140, .aaload, 141, 0, 0, 0, 0, 0, 0, 0), (141, .getfield 92, 144, 4, 2, 0, 0, 128, 0, 0), (144, .isub, 145, 0, 0, 0, 0, 0, 0, 0), (145, .istore 8, 147, 8, 0, 0, 0, 0, 0, 0), (147, .iload 8, 149, 8, 0, 0, 0, 0, 0, 0), (149, .ifCond .ge 8, 152, 157, 0, 0, 0, 0, 0, 0), (152, .bipush (-2), 154, 0, 0, 0, 0, 0, -2, 0), (154, .goto 5, 157, 159, 0, 0, 0, 0, 0, 0), (157, .iload 8, 159, 8, 0, 0, 0, 0, 0, 0), (159, .ireturn, 160, 0, 0, 0, 0, 0, 0, 0)])]
def mmX10_warn : am_M := (yX10_warn, cX10_warn, 9, some .int, 0, 0, 6, 10, [1041, 1039, 1040, 76, 1], tbX10_warn)
def tbX10_fog : List (Nat × List am_I) := [(23, [(0, .aload_n 0, 1, 0, 0, 0, 0, 0, 0, 0), (1, .getfield 10, 4, 10, 0, 0, 0, 400, 0, 0), (4, .iload_n 1, 5, 1, 0, 0, 0, 0, 0, 0), (5, .invokevirtual 95, 8, 74, 2, 0, 9, 442, 0, 0), (8, .ifCond .eq 45, 11, 53, 0, 0, 0, 0, 0, 0), (11, .iload_n 2, 12, 2, 0, 0, 0, 0, 0, 0), (12, .iconst 0, 13, 0, 0, 0, 0, 0, 0, 0), (13, .bipush 10, 15, 0, 0, 0, 0, 0, 10, 0), (15, .invokestatic 76, 18, 133, 3, 1, 0, 435, 0, 0), (18, .ifCond .eq 35, 21, 53, 0, 0, 0, 0, 0, 0), (21, .iload_n 3, 22, 3, 0, 0, 0, 0, 0, 0), (22, .iconst 0, 23, 0, 0, 0, 0, 0, 0, 0)]),
  (47, [(23, .bipush 10, 25, 0, 0, 0, 0, 0, 10, 0), (25, .invokestatic 76, 28, 133, 3, 1, 0, 435, 0, 0), (28, .ifCond .eq 25, 31, 53, 0, 0, 0, 0, 0, 0), (31, .iload 4, 33, 4, 0, 0, 0, 0, 0, 0), (33, .iconst 0, 34, 0, 0, 0, 0, 0, 0, 0), (34, .bipush 10, 36, 0, 0, 0, 0, 0, 10, 0), (36, .invokestatic 76, 39, 133, 3, 1, 0, 435, 0, 0), (39, .ifCond .eq 14, 42, 53, 0, 0, 0, 0, 0, 0), (42, .iload_n 2, 43, 2, 0, 0, 0, 0, 0, 0), (43, .iload_n 3, 44, 3, 0, 0, 0, 0, 0, 0), (44, .iadd, 45, 0, 0, 0, 0, 0, 0, 0), (45, .iload 4, 47, 4, 0, 0, 0, 0, 0, 0)]),
  (69, [(47, .iadd, 48, 0, 0, 0, 0, 0, 0, 0), (48, .bipush 10, 50, 0, 0, 0, 0, 0, 10, 0), (50, .if_icmp .le 5, 53, 55, 0, 0, 0, 0, 0, 0), (53, .iconst 0, 54, 0, 0, 0, 0, 0, 0, 0), (54, .ireturn, 55, 0, 0, 0, 0, 0, 0, 0), (55, .aload_n 0, 56, 0, 0, 0, 0, 0, 0, 0), (56, .getfield 10, 59, 10, 0, 0, 0, 400, 0, 0), (59, .getfield 80, 62, 9, 0, 0, 0, 169, 0, 0), (62, .iload_n 1, 63, 1, 0, 0, 0, 0, 0, 0), (63, .aaload, 64, 0, 0, 0, 0, 0, 0, 0), (64, .getfield 348, 67, 4, 5, 0, 0, 136, 0, 0), (67, .astore 5, 69, 5, 0, 0, 0, 0, 0, 0)]),
  (85, [(69, .aload 5, 71, 5, 0, 0, 0, 0, 0, 0), (71, .iconst 0, 72, 0, 0, 0, 0, 0, 0, 0), (72, .iload_n 2, 73, 2, 0, 0, 0, 0, 0, 0), (73, .iastore, 74, 0, 0, 0, 0, 0, 0, 0), (74, .aload 5, 76, 5, 0, 0, 0, 0, 0, 0), (76, .iconst 1, 77, 0, 0, 0, 0, 0, 1, 0), (77, .iload_n 3, 78, 3, 0, 0, 0, 0, 0, 0), (78, .iastore, 79, 0, 0, 0, 0, 0, 0, 0), (79, .aload 5, 81, 5, 0, 0, 0, 0, 0, 0), (81, .iconst 2, 82, 0, 0, 0, 0, 0, 2, 0), (82, .iload 4, 84, 4, 0, 0, 0, 0, 0, 0), (84, .iastore, 85, 0, 0, 0, 0, 0, 0, 0)]),
  (100000, [(85, .aload 5, 87, 5, 0, 0, 0, 0, 0, 0), (87, .iconst 3, 88, 0, 0, 0, 0, 0, 3, 0), (88, .bipush 10, 90, 0, 0, 0, 0, 0, 10, 0), (90, .iload_n 2, 91, 2, 0, 0, 0, 0, 0, 0), (91, .isub, 92, 0, 0, 0, 0, 0, 0, 0), (92, .iload_n 3, 93, 3, 0, 0, 0, 0, 0, 0), (93, .isub, 94, 0, 0, 0, 0, 0, 0, 0), (94, .iload 4, 96, 4, 0, 0, 0, 0, 0, 0), (96, .isub, 97, 0, 0, 0, 0, 0, 0, 0), (97, .iastore, 98, 0, 0, 0, 0, 0, 0, 0), (98, .iconst 1, 99, 0, 0, 0, 0, 0, 1, 0), (99, .ireturn, 100, 0, 0, 0, 0, 0, 0, 0)])]
def mmX10_fog : am_M := (yX10_fog, cX10_fog, 6, some .boolean, 0, 0, 5, 10, [1045, 1043, 1044, 76, 1], tbX10_fog)
def tbX10_chance : List (Nat × List am_I) := [(24, [(0, .aload_n 0, 1, 0, 0, 0, 0, 0, 0, 0), (1, .getfield 10, 4, 10, 0, 0, 0, 400, 0, 0), (4, .iload_n 1, 5, 1, 0, 0, 0, 0, 0, 0), (5, .iload_n 2, 6, 2, 0, 0, 0, 0, 0, 0), (6, .invokevirtual 99, 9, 75, 3, 0, 9, 450, 0, 0), (9, .ifCond .eq 14, 12, 23, 0, 0, 0, 0, 0, 0), (12, .iload_n 3, 13, 3, 0, 0, 0, 0, 0, 0), (13, .iconst 0, 14, 0, 0, 0, 0, 0, 0, 0), (14, .sipush 199, 17, 0, 0, 0, 0, 0, 199, 0), (17, .invokestatic 76, 20, 133, 3, 1, 0, 435, 0, 0), (20, .ifCond .ne 5, 23, 25, 0, 0, 0, 0, 0, 0), (23, .iconst (-1), 24, 0, 0, 0, 0, 0, -1, 0)]),
  (45, [(24, .ireturn, 25, 0, 0, 0, 0, 0, 0, 0), (25, .aload_n 0, 26, 0, 0, 0, 0, 0, 0, 0), (26, .getfield 10, 29, 10, 0, 0, 0, 400, 0, 0), (29, .iload_n 1, 30, 1, 0, 0, 0, 0, 0, 0), (30, .iload_n 2, 31, 2, 0, 0, 0, 0, 0, 0), (31, .invokevirtual 202, 34, 76, 3, 0, 9, 689, 0, 0), (34, .ifCond .ne 6, 37, 40, 0, 0, 0, 0, 0, 0), (37, .bipush (-2), 39, 0, 0, 0, 0, 0, -2, 0), (39, .ireturn, 40, 0, 0, 0, 0, 0, 0, 0), (40, .aload_n 0, 41, 0, 0, 0, 0, 0, 0, 0), (41, .getfield 40, 44, 10, 5, 0, 0, 405, 0, 0), (44, .aload_n 0, 45, 0, 0, 0, 0, 0, 0, 0)]),
  (100000, [(45, .iload_n 1, 46, 1, 0, 0, 0, 0, 0, 0), (46, .iload_n 2, 47, 2, 0, 0, 0, 0, 0, 0), (47, .iload_n 3, 48, 3, 0, 0, 0, 0, 0, 0), (48, .invokevirtual 351, 51, 146, 4, 0, 10, 1050, 0, 0), (51, .i2l, 52, 0, 0, 0, 0, 0, 0, 0), (52, .ldc2_w 354, 55, 0, 0, 0, 0, 1054, 0, 100), (55, .invokevirtual 259, 58, 67, 3, 0, 7, 870, 0, 0), (58, .iconst 0, 59, 0, 0, 0, 0, 0, 0, 0), (59, .ireturn, 60, 0, 0, 0, 0, 0, 0, 0)])]
def mmX10_chance : am_M := (yX10_chance, cX10_chance, 4, some .int, 0, 0, 4, 10, [1049, 1047, 1048, 76, 1], tbX10_chance)
def tbX10_sure : List (Nat × List am_I) := [(23, [(0, .aload_n 0, 1, 0, 0, 0, 0, 0, 0, 0), (1, .getfield 10, 4, 10, 0, 0, 0, 400, 0, 0), (4, .iload_n 1, 5, 1, 0, 0, 0, 0, 0, 0), (5, .iload_n 2, 6, 2, 0, 0, 0, 0, 0, 0), (6, .invokevirtual 99, 9, 75, 3, 0, 9, 450, 0, 0), (9, .ifCond .eq 13, 12, 22, 0, 0, 0, 0, 0, 0), (12, .iload_n 3, 13, 3, 0, 0, 0, 0, 0, 0), (13, .iconst 1, 14, 0, 0, 0, 0, 0, 1, 0), (14, .bipush 100, 16, 0, 0, 0, 0, 0, 100, 0), (16, .invokestatic 76, 19, 133, 3, 1, 0, 435, 0, 0), (19, .ifCond .ne 5, 22, 24, 0, 0, 0, 0, 0, 0), (22, .iconst (-1), 23, 0, 0, 0, 0, 0, -1, 0)]),
  (44, [(23, .ireturn, 24, 0, 0, 0, 0, 0, 0, 0), (24, .aload_n 0, 25, 0, 0, 0, 0, 0, 0, 0), (25, .getfield 10, 28, 10, 0, 0, 0, 400, 0, 0), (28, .iload_n 1, 29, 1, 0, 0, 0, 0, 0, 0), (29, .iload_n 2, 30, 2, 0, 0, 0, 0, 0, 0), (30, .invokevirtual 202, 33, 76, 3, 0, 9, 689, 0, 0), (33, .ifCond .ne 6, 36, 39, 0, 0, 0, 0, 0, 0), (36, .bipush (-2), 38, 0, 0, 0, 0, 0, -2, 0), (38, .ireturn, 39, 0, 0, 0, 0, 0, 0, 0), (39, .iconst 0, 40, 0, 0, 0, 0, 0, 0, 0), (40, .istore 4, 42, 4, 0, 0, 0, 0, 0, 0), (42, .iload 4, 44, 4, 0, 0, 0, 0, 0, 0)]),
  (70, [(44, .sipush 199, 47, 0, 0, 0, 0, 0, 199, 0), (47, .if_icmp .ge 21, 50, 68, 0, 0, 0, 0, 0, 0), (50, .aload_n 0, 51, 0, 0, 0, 0, 0, 0, 0), (51, .iload_n 1, 52, 1, 0, 0, 0, 0, 0, 0), (52, .iload_n 2, 53, 2, 0, 0, 0, 0, 0, 0), (53, .iload 4, 55, 4, 0, 0, 0, 0, 0, 0), (55, .invokevirtual 351, 58, 146, 4, 0, 10, 1050, 0, 0), (58, .iload_n 3, 59, 3, 0, 0, 0, 0, 0, 0), (59, .if_icmp .ge 9, 62, 68, 0, 0, 0, 0, 0, 0), (62, .iinc 4 1, 65, 4, 0, 0, 0, 0, 1, 0), (65, .goto (-23), 68, 42, 0, 0, 0, 0, 0, 0), (68, .iload 4, 70, 4, 0, 0, 0, 0, 0, 0)]),
  (100000, [(70, .ireturn, 71, 0, 0, 0, 0, 0, 0, 0)])]
def mmX10_sure : am_M := (yX10_sure, cX10_sure, 5, some .int, 0, 0, 4, 10, [1058, 1056, 1057, 76, 1], tbX10_sure)
def tbX10_seed : List (Nat × List am_I) := [(100000, [(0, .aload_n 0, 1, 0, 0, 0, 0, 0, 0, 0), (1, .getfield 19, 4, 10, 1, 0, 0, 401, 0, 0), (4, .getfield 356, 7, 0, 2, 0, 0, 216, 0, 0), (7, .istore_n 2, 8, 2, 0, 0, 0, 0, 0, 0), (8, .aload_n 0, 9, 0, 0, 0, 0, 0, 0, 0), (9, .getfield 19, 12, 10, 1, 0, 0, 401, 0, 0), (12, .iload_n 1, 13, 1, 0, 0, 0, 0, 0, 0), (13, .putfield 356, 16, 0, 2, 0, 0, 216, 0, 0), (16, .iload_n 2, 17, 2, 0, 0, 0, 0, 0, 0), (17, .ireturn, 18, 0, 0, 0, 0, 0, 0, 0)])]
def mmX10_seed : am_M := (yX10_seed, cX10_seed, 3, some .int, 0, 0, 2, 10, [1062, 1060, 1061, 76, 1], tbX10_seed)
def tbX10_keep : List (Nat × List am_I) := [(20, [(0, .iload_n 1, 1, 1, 0, 0, 0, 0, 0, 0), (1, .ifCond .lt 8, 4, 9, 0, 0, 0, 0, 0, 0), (4, .iload_n 1, 5, 1, 0, 0, 0, 0, 0, 0), (5, .iconst 3, 6, 0, 0, 0, 0, 0, 3, 0), (6, .if_icmp .lt 5, 9, 11, 0, 0, 0, 0, 0, 0), (9, .iconst 0, 10, 0, 0, 0, 0, 0, 0, 0), (10, .ireturn, 11, 0, 0, 0, 0, 0, 0, 0), (11, .aload_n 0, 12, 0, 0, 0, 0, 0, 0, 0), (12, .getfield 26, 15, 10, 3, 0, 0, 403, 0, 0), (15, .iload_n 1, 16, 1, 0, 0, 0, 0, 0, 0), (16, .aaload, 17, 0, 0, 0, 0, 0, 0, 0), (17, .ifnonnull 16, 20, 33, 0, 0, 0, 0, 0, 0)]),
  (40, [(20, .aload_n 0, 21, 0, 0, 0, 0, 0, 0, 0), (21, .getfield 26, 24, 10, 3, 0, 0, 403, 0, 0), (24, .iload_n 1, 25, 1, 0, 0, 0, 0, 0, 0), (25, .new 16, 28, 0, 9, 0, 205, 204, 0, 0), (28, .dup, 29, 0, 0, 0, 0, 0, 0, 0), (29, .invokespecial 18, 32, 0, 1, 4, 5005000, 206, 0, 0), (32, .aastore, 33, 0, 0, 0, 0, 0, 0, 0), (33, .aload_n 0, 34, 0, 0, 0, 0, 0, 0, 0), (34, .getfield 26, 37, 10, 3, 0, 0, 403, 0, 0), (37, .iload_n 1, 38, 1, 0, 0, 0, 0, 0, 0), (38, .aaload, 39, 0, 0, 0, 0, 0, 0, 0), (39, .aload_n 0, 40, 0, 0, 0, 0, 0, 0, 0)]),
  (100000, [(40, .getfield 19, 43, 10, 1, 0, 0, 401, 0, 0), (43, .invokevirtual 359, 46, 2, 2, 0, 0, 1067, 0, 0), (46, .aload_n 0, 47, 0, 0, 0, 0, 0, 0, 0), (47, .getfield 26, 50, 10, 3, 0, 0, 403, 0, 0), (50, .iload_n 1, 51, 1, 0, 0, 0, 0, 0, 0), (51, .aaload, 52, 0, 0, 0, 0, 0, 0, 0), (52, .aload_n 0, 53, 0, 0, 0, 0, 0, 0, 0), (53, .getfield 10, 56, 10, 0, 0, 0, 400, 0, 0), (56, .getfield 72, 59, 9, 1, 0, 0, 171, 0, 0), (59, .putfield 363, 62, 0, 3, 0, 0, 218, 0, 0), (62, .iconst 1, 63, 0, 0, 0, 0, 0, 1, 0), (63, .ireturn, 64, 0, 0, 0, 0, 0, 0, 0)])]
def mmX10_keep : am_M := (yX10_keep, cX10_keep, 2, some .boolean, 6, 5009, 2, 10, [1066, 1064, 1065, 76, 1], tbX10_keep)
def tbX10_again : List (Nat × List am_I) := [(22, [(0, .iload_n 1, 1, 1, 0, 0, 0, 0, 0, 0), (1, .ifCond .lt 36, 4, 37, 0, 0, 0, 0, 0, 0), (4, .iload_n 1, 5, 1, 0, 0, 0, 0, 0, 0), (5, .iconst 3, 6, 0, 0, 0, 0, 0, 3, 0), (6, .if_icmp .ge 31, 9, 37, 0, 0, 0, 0, 0, 0), (9, .aload_n 0, 10, 0, 0, 0, 0, 0, 0, 0), (10, .getfield 26, 13, 10, 3, 0, 0, 403, 0, 0), (13, .iload_n 1, 14, 1, 0, 0, 0, 0, 0, 0), (14, .aaload, 15, 0, 0, 0, 0, 0, 0, 0), (15, .ifnull 22, 18, 37, 0, 0, 0, 0, 0, 0), (18, .aload_n 0, 19, 0, 0, 0, 0, 0, 0, 0), (19, .getfield 26, 22, 10, 3, 0, 0, 403, 0, 0)]),
  (44, [(22, .iload_n 1, 23, 1, 0, 0, 0, 0, 0, 0), (23, .aaload, 24, 0, 0, 0, 0, 0, 0, 0), (24, .getfield 363, 27, 0, 3, 0, 0, 218, 0, 0), (27, .aload_n 0, 28, 0, 0, 0, 0, 0, 0, 0), (28, .getfield 10, 31, 10, 0, 0, 0, 400, 0, 0), (31, .getfield 72, 34, 9, 1, 0, 0, 171, 0, 0), (34, .if_icmp .eq 5, 37, 39, 0, 0, 0, 0, 0, 0), (37, .iconst 0, 38, 0, 0, 0, 0, 0, 0, 0), (38, .ireturn, 39, 0, 0, 0, 0, 0, 0, 0), (39, .aload_n 0, 40, 0, 0, 0, 0, 0, 0, 0), (40, .getfield 19, 43, 10, 1, 0, 0, 401, 0, 0), (43, .aload_n 0, 44, 0, 0, 0, 0, 0, 0, 0)]),
  (100000, [(44, .getfield 26, 47, 10, 3, 0, 0, 403, 0, 0), (47, .iload_n 1, 48, 1, 0, 0, 0, 0, 0, 0), (48, .aaload, 49, 0, 0, 0, 0, 0, 0, 0), (49, .invokevirtual 359, 52, 2, 2, 0, 0, 1067, 0, 0), (52, .iconst 1, 53, 0, 0, 0, 0, 0, 1, 0), (53, .ireturn, 54, 0, 0, 0, 0, 0, 0, 0)])]
def mmX10_again : am_M := (yX10_again, cX10_again, 2, some .boolean, 0, 0, 2, 10, [1075, 1073, 1074, 76, 1], tbX10_again)
def tbX10_count : List (Nat × List am_I) := [(60, [(0, .iload_n 1, 1, 1, 0, 0, 0, 0, 0, 0), (1, .tableswitch 87 0 5 #[39, 47, 55, 63, 71, 79], 40, 0, 0, 0, 0, 0, 0, 0), (40, .aload_n 0, 41, 0, 0, 0, 0, 0, 0, 0), (41, .getfield 10, 44, 10, 0, 0, 0, 400, 0, 0), (44, .getfield 72, 47, 9, 1, 0, 0, 171, 0, 0), (47, .ireturn, 48, 0, 0, 0, 0, 0, 0, 0), (48, .aload_n 0, 49, 0, 0, 0, 0, 0, 0, 0), (49, .getfield 19, 52, 10, 1, 0, 0, 401, 0, 0), (52, .getfield 113, 55, 0, 0, 0, 0, 211, 0, 0), (55, .ireturn, 56, 0, 0, 0, 0, 0, 0, 0), (56, .aload_n 0, 57, 0, 0, 0, 0, 0, 0, 0), (57, .getfield 10, 60, 10, 0, 0, 0, 400, 0, 0)]),
  (84, [(60, .invokevirtual 365, 63, 79, 1, 0, 9, 1080, 0, 0), (63, .ireturn, 64, 0, 0, 0, 0, 0, 0, 0), (64, .aload_n 0, 65, 0, 0, 0, 0, 0, 0, 0), (65, .getfield 10, 68, 10, 0, 0, 0, 400, 0, 0), (68, .getfield 122, 71, 9, 4, 0, 0, 178, 0, 0), (71, .ireturn, 72, 0, 0, 0, 0, 0, 0, 0), (72, .aload_n 0, 73, 0, 0, 0, 0, 0, 0, 0), (73, .getfield 40, 76, 10, 5, 0, 0, 405, 0, 0), (76, .getfield 368, 79, 7, 1, 0, 0, 300, 0, 0), (79, .ireturn, 80, 0, 0, 0, 0, 0, 0, 0), (80, .aload_n 0, 81, 0, 0, 0, 0, 0, 0, 0), (81, .getfield 33, 84, 10, 4, 0, 0, 404, 0, 0)]),
  (100000, [(84, .getfield 138, 87, 5, 1, 0, 0, 260, 0, 0), (87, .ireturn, 88, 0, 0, 0, 0, 0, 0, 0), (88, .iconst (-1), 89, 0, 0, 0, 0, 0, -1, 0), (89, .ireturn, 90, 0, 0, 0, 0, 0, 0, 0)])]
def mmX10_count : am_M := (yX10_count, cX10_count, 2, some .int, 0, 0, 2, 10, [1079, 1077, 1078, 76, 1], tbX10_count)
def tbX10_row : List (Nat × List am_I) := [(30, [(0, .iload_n 1, 1, 1, 0, 0, 0, 0, 0, 0), (1, .ifCond .lt 14, 4, 15, 0, 0, 0, 0, 0, 0), (4, .iload_n 1, 5, 1, 0, 0, 0, 0, 0, 0), (5, .aload_n 0, 6, 0, 0, 0, 0, 0, 0, 0), (6, .getfield 40, 9, 10, 5, 0, 0, 405, 0, 0), (9, .getfield 368, 12, 7, 1, 0, 0, 300, 0, 0), (12, .if_icmp .lt 11, 15, 23, 0, 0, 0, 0, 0, 0), (15, .new 151, 18, 0, 0, 1, 0, 0, 0, 0), (18, .dup, 19, 0, 0, 0, 0, 0, 0, 0), (23, .aload_n 0, 24, 0, 0, 0, 0, 0, 0, 0), (24, .getfield 40, 27, 10, 5, 0, 0, 405, 0, 0), (27, .getfield 369, 30, 7, 0, 0, 0, 298, 0, 0)]),
  (100000, [(30, .iload_n 1, 31, 1, 0, 0, 0, 0, 0, 0), (31, .laload, 32, 0, 0, 0, 0, 0, 0, 0), (32, .lreturn, 33, 0, 0, 0, 0, 0, 0, 0)])]
def mmX10_row : am_M := (yX10_row, cX10_row, 2, some .long, 0, 0, 2, 10, [1184, 1182, 1183, 76, 1], tbX10_row)
def tbX10_isWithin : List (Nat × List am_I) := [(100000, [(0, .iload_n 0, 1, 0, 0, 0, 0, 0, 0, 0), (1, .iload_n 1, 2, 1, 0, 0, 0, 0, 0, 0), (2, .if_icmp .lt 12, 5, 14, 0, 0, 0, 0, 0, 0), (5, .iload_n 0, 6, 0, 0, 0, 0, 0, 0, 0), (6, .iload_n 2, 7, 2, 0, 0, 0, 0, 0, 0), (7, .if_icmp .gt 7, 10, 14, 0, 0, 0, 0, 0, 0), (10, .iconst 1, 11, 0, 0, 0, 0, 0, 1, 0), (11, .goto 4, 14, 15, 0, 0, 0, 0, 0, 0), (14, .iconst 0, 15, 0, 0, 0, 0, 0, 0, 0), (15, .ireturn, 16, 0, 0, 0, 0, 0, 0, 0)])]
def mmX10_isWithin : am_M := (yX10_isWithin, cX10_isWithin, 3, some .boolean, 0, 0, 3, 10, [437, 436, 0, 76, 0], tbX10_isWithin)
def tbX10_putTo : List (Nat × List am_I) := [(20, [(0, .iload_n 0, 1, 0, 0, 0, 0, 0, 0, 0), (1, .iload_n 1, 2, 1, 0, 0, 0, 0, 0, 0), (2, .ineg, 3, 0, 0, 0, 0, 0, 0, 0), (3, .if_icmp .ge 8, 6, 11, 0, 0, 0, 0, 0, 0), (6, .iload_n 1, 7, 1, 0, 0, 0, 0, 0, 0), (7, .ineg, 8, 0, 0, 0, 0, 0, 0, 0), (8, .goto 13, 11, 21, 0, 0, 0, 0, 0, 0), (11, .iload_n 0, 12, 0, 0, 0, 0, 0, 0, 0), (12, .iload_n 1, 13, 1, 0, 0, 0, 0, 0, 0), (13, .if_icmp .le 7, 16, 20, 0, 0, 0, 0, 0, 0), (16, .iload_n 1, 17, 1, 0, 0, 0, 0, 0, 0), (17, .goto 4, 20, 21, 0, 0, 0, 0, 0, 0)]),
  (100000, [(20, .iload_n 0, 21, 0, 0, 0, 0, 0, 0, 0), (21, .ireturn, 22, 0, 0, 0, 0, 0, 0, 0)])]
def mmX10_putTo : am_M := (yX10_putTo, cX10_putTo, 2, some .int, 0, 0, 2, 10, [765, 764, 0, 76, 0], tbX10_putTo)
def tbX10_withBit : List (Nat × List am_I) := [(16, [(0, .iload_n 2, 1, 2, 0, 0, 0, 0, 0, 0), (1, .ifCond .eq 11, 4, 12, 0, 0, 0, 0, 0, 0), (4, .iload_n 0, 5, 0, 0, 0, 0, 0, 0, 0), (5, .iconst 1, 6, 0, 0, 0, 0, 0, 1, 0), (6, .iload_n 1, 7, 1, 0, 0, 0, 0, 0, 0), (7, .ishl, 8, 0, 0, 0, 0, 0, 0, 0), (8, .ior, 9, 0, 0, 0, 0, 0, 0, 0), (9, .goto 10, 12, 19, 0, 0, 0, 0, 0, 0), (12, .iload_n 0, 13, 0, 0, 0, 0, 0, 0, 0), (13, .iconst 1, 14, 0, 0, 0, 0, 0, 1, 0), (14, .iload_n 1, 15, 1, 0, 0, 0, 0, 0, 0), (15, .ishl, 16, 0, 0, 0, 0, 0, 0, 0)]),
  (100000, [(16, .iconst (-1), 17, 0, 0, 0, 0, 0, -1, 0), (17, .ixor, 18, 0, 0, 0, 0, 0, 0, 0), (18, .iand, 19, 0, 0, 0, 0, 0, 0, 0), (19, .ireturn, 20, 0, 0, 0, 0, 0, 0, 0)])]
def mmX10_withBit : am_M := (yX10_withBit, cX10_withBit, 3, some .int, 0, 0, 3, 10, [457, 456, 0, 76, 0], tbX10_withBit)
def tbX10_hasBit : List (Nat × List am_I) := [(100000, [(0, .iload_n 0, 1, 0, 0, 0, 0, 0, 0, 0), (1, .iload_n 1, 2, 1, 0, 0, 0, 0, 0, 0), (2, .ishr, 3, 0, 0, 0, 0, 0, 0, 0), (3, .iconst 1, 4, 0, 0, 0, 0, 0, 1, 0), (4, .iand, 5, 0, 0, 0, 0, 0, 0, 0), (5, .ifCond .eq 7, 8, 12, 0, 0, 0, 0, 0, 0), (8, .iconst 1, 9, 0, 0, 0, 0, 0, 1, 0), (9, .goto 4, 12, 13, 0, 0, 0, 0, 0, 0), (12, .iconst 0, 13, 0, 0, 0, 0, 0, 0, 0), (13, .ireturn, 14, 0, 0, 0, 0, 0, 0, 0)])]
def mmX10_hasBit : am_M := (yX10_hasBit, cX10_hasBit, 2, some .boolean, 0, 0, 2, 10, [696, 695, 0, 76, 0], tbX10_hasBit)
def tbX10_powerOfTen : List (Nat × List am_I) := [(18, [(0, .lconst 1, 1, 0, 0, 0, 0, 0, 0, 1), (1, .lstore_n 1, 2, 1, 0, 0, 0, 0, 0, 0), (2, .iconst 0, 3, 0, 0, 0, 0, 0, 0, 0), (3, .istore_n 3, 4, 3, 0, 0, 0, 0, 0, 0), (4, .iload_n 3, 5, 3, 0, 0, 0, 0, 0, 0), (5, .iload_n 0, 6, 0, 0, 0, 0, 0, 0, 0), (6, .if_icmp .ge 15, 9, 21, 0, 0, 0, 0, 0, 0), (9, .lload_n 1, 10, 1, 0, 0, 0, 0, 0, 0), (10, .ldc2_w 373, 13, 0, 0, 0, 0, 869, 0, 10), (13, .lmul, 14, 0, 0, 0, 0, 0, 0, 0), (14, .lstore_n 1, 15, 1, 0, 0, 0, 0, 0, 0), (15, .iinc 3 1, 18, 3, 0, 0, 0, 0, 1, 0)]),
  (100000, [(18, .goto (-14), 21, 4, 0, 0, 0, 0, 0, 0), (21, .lload_n 1, 22, 1, 0, 0, 0, 0, 0, 0), (22, .lreturn, 23, 0, 0, 0, 0, 0, 0, 0)])]
def mmX10_powerOfTen : am_M := (yX10_powerOfTen, cX10_powerOfTen, 4, some .long, 0, 0, 1, 10, [868, 867, 0, 76, 0], tbX10_powerOfTen)
def tbX10_sheetEntry : List (Nat × List am_I) := [(18, [(0, .iload_n 1, 1, 1, 0, 0, 0, 0, 0, 0), (1, .istore_n 2, 2, 2, 0, 0, 0, 0, 0, 0), (2, .iload_n 0, 3, 0, 0, 0, 0, 0, 0, 0), (3, .ifCond .ne 9, 6, 12, 0, 0, 0, 0, 0, 0), (6, .iload_n 1, 7, 1, 0, 0, 0, 0, 0, 0), (7, .i2b, 8, 0, 0, 0, 0, 0, 0, 0), (8, .istore_n 2, 9, 2, 0, 0, 0, 0, 0, 0), (9, .goto 11, 12, 20, 0, 0, 0, 0, 0, 0), (12, .iload_n 0, 13, 0, 0, 0, 0, 0, 0, 0), (13, .iconst 1, 14, 0, 0, 0, 0, 0, 1, 0), (14, .if_icmp .ne 6, 17, 20, 0, 0, 0, 0, 0, 0), (17, .iload_n 1, 18, 1, 0, 0, 0, 0, 0, 0)]),
  (40, [(18, .i2s, 19, 0, 0, 0, 0, 0, 0, 0), (19, .istore_n 2, 20, 2, 0, 0, 0, 0, 0, 0), (20, .iload_n 2, 21, 2, 0, 0, 0, 0, 0, 0), (21, .ifCond .ge 7, 24, 28, 0, 0, 0, 0, 0, 0), (24, .iconst 0, 25, 0, 0, 0, 0, 0, 0, 0), (25, .goto 15, 28, 40, 0, 0, 0, 0, 0, 0), (28, .iload_n 2, 29, 2, 0, 0, 0, 0, 0, 0), (29, .bipush 20, 31, 0, 0, 0, 0, 0, 20, 0), (31, .if_icmp .le 8, 34, 39, 0, 0, 0, 0, 0, 0), (34, .bipush 20, 36, 0, 0, 0, 0, 0, 20, 0), (36, .goto 4, 39, 40, 0, 0, 0, 0, 0, 0), (39, .iload_n 2, 40, 2, 0, 0, 0, 0, 0, 0)]),
  (100000, [(40, .ireturn, 41, 0, 0, 0, 0, 0, 0, 0)])]
def mmX10_sheetEntry : am_M := (yX10_sheetEntry, cX10_sheetEntry, 3, some .int, 0, 0, 2, 10, [472, 471, 0, 76, 0], tbX10_sheetEntry)
def tbX10_canSteer : List (Nat × List am_I) := [(22, [(0, .iload_n 0, 1, 0, 0, 0, 0, 0, 0, 0), (1, .iconst 0, 2, 0, 0, 0, 0, 0, 0, 0), (2, .iconst 4, 3, 0, 0, 0, 0, 0, 4, 0), (3, .invokestatic 76, 6, 133, 3, 1, 0, 435, 0, 0), (6, .ifCond .eq 37, 9, 43, 0, 0, 0, 0, 0, 0), (9, .iload_n 1, 10, 1, 0, 0, 0, 0, 0, 0), (10, .bipush (-50), 12, 0, 0, 0, 0, 0, -50, 0), (12, .bipush 50, 14, 0, 0, 0, 0, 0, 50, 0), (14, .invokestatic 76, 17, 133, 3, 1, 0, 435, 0, 0), (17, .ifCond .eq 26, 20, 43, 0, 0, 0, 0, 0, 0), (20, .iload_n 2, 21, 2, 0, 0, 0, 0, 0, 0), (21, .iconst 1, 22, 0, 0, 0, 0, 0, 1, 0)]),
  (100000, [(22, .bipush 6, 24, 0, 0, 0, 0, 0, 6, 0), (24, .invokestatic 76, 27, 133, 3, 1, 0, 435, 0, 0), (27, .ifCond .eq 16, 30, 43, 0, 0, 0, 0, 0, 0), (30, .iload_n 3, 31, 3, 0, 0, 0, 0, 0, 0), (31, .iconst 1, 32, 0, 0, 0, 0, 0, 1, 0), (32, .iconst 4, 33, 0, 0, 0, 0, 0, 4, 0), (33, .invokestatic 76, 36, 133, 3, 1, 0, 435, 0, 0), (36, .ifCond .eq 7, 39, 43, 0, 0, 0, 0, 0, 0), (39, .iconst 1, 40, 0, 0, 0, 0, 0, 1, 0), (40, .goto 4, 43, 44, 0, 0, 0, 0, 0, 0), (43, .iconst 0, 44, 0, 0, 0, 0, 0, 0, 0), (44, .ireturn, 45, 0, 0, 0, 0, 0, 0, 0)])]
def mmX10_canSteer : am_M := (yX10_canSteer, cX10_canSteer, 4, some .boolean, 0, 0, 4, 10, [834, 833, 0, 76, 0], tbX10_canSteer)
def tbX10_isRuleNumber : List (Nat × List am_I) := [(22, [(0, .iload_n 0, 1, 0, 0, 0, 0, 0, 0, 0), (1, .iconst 0, 2, 0, 0, 0, 0, 0, 0, 0), (2, .sipush 222, 5, 0, 0, 0, 0, 0, 222, 0), (5, .invokestatic 76, 8, 133, 3, 1, 0, 435, 0, 0), (8, .ifCond .eq 26, 11, 34, 0, 0, 0, 0, 0, 0), (11, .iload_n 0, 12, 0, 0, 0, 0, 0, 0, 0), (12, .bipush 10, 14, 0, 0, 0, 0, 0, 10, 0), (14, .irem, 15, 0, 0, 0, 0, 0, 0, 0), (15, .iconst 2, 16, 0, 0, 0, 0, 0, 2, 0), (16, .if_icmp .gt 18, 19, 34, 0, 0, 0, 0, 0, 0), (19, .iload_n 0, 20, 0, 0, 0, 0, 0, 0, 0), (20, .bipush 10, 22, 0, 0, 0, 0, 0, 10, 0)]),
  (100000, [(22, .idiv, 23, 0, 0, 0, 0, 0, 0, 0), (23, .bipush 10, 25, 0, 0, 0, 0, 0, 10, 0), (25, .irem, 26, 0, 0, 0, 0, 0, 0, 0), (26, .iconst 2, 27, 0, 0, 0, 0, 0, 2, 0), (27, .if_icmp .gt 7, 30, 34, 0, 0, 0, 0, 0, 0), (30, .iconst 1, 31, 0, 0, 0, 0, 0, 1, 0), (31, .goto 4, 34, 35, 0, 0, 0, 0, 0, 0), (34, .iconst 0, 35, 0, 0, 0, 0, 0, 0, 0), (35, .ireturn, 36, 0, 0, 0, 0, 0, 0, 0)])]
def mmX10_isRuleNumber : am_M := (yX10_isRuleNumber, cX10_isRuleNumber, 1, some .boolean, 0, 0, 1, 10, [962, 961, 0, 76, 0], tbX10_isRuleNumber)
def tbX10_tryOut : List (Nat × List am_I) := [(26, [(0, .aload_n 0, 1, 0, 0, 0, 0, 0, 0, 0), (1, .getfield 23, 4, 10, 2, 0, 0, 402, 0, 0), (4, .aload_n 0, 5, 0, 0, 0, 0, 0, 0, 0), (5, .getfield 19, 8, 10, 1, 0, 0, 401, 0, 0), (8, .getfield 116, 11, 0, 1, 0, 0, 214, 0, 0), (11, .putfield 116, 14, 0, 1, 0, 0, 214, 0, 0), (14, .aload_n 0, 15, 0, 0, 0, 0, 0, 0, 0), (15, .getfield 23, 18, 10, 2, 0, 0, 402, 0, 0), (18, .iload_n 2, 19, 2, 0, 0, 0, 0, 0, 0), (19, .putfield 356, 22, 0, 2, 0, 0, 216, 0, 0), (22, .aload_n 0, 23, 0, 0, 0, 0, 0, 0, 0), (23, .getfield 23, 26, 10, 2, 0, 0, 402, 0, 0)]),
  (52, [(26, .invokevirtual 119, 29, 1, 1, 0, 0, 462, 0, 0), (29, .aload_n 0, 30, 0, 0, 0, 0, 0, 0, 0), (30, .getfield 10, 33, 10, 0, 0, 0, 400, 0, 0), (33, .aload_n 0, 34, 0, 0, 0, 0, 0, 0, 0), (34, .getfield 23, 37, 10, 2, 0, 0, 402, 0, 0), (37, .iload_n 1, 38, 1, 0, 0, 0, 0, 0, 0), (38, .invokevirtual 165, 41, 84, 3, 0, 9, 729, 0, 0), (41, .aload_n 0, 42, 0, 0, 0, 0, 0, 0, 0), (42, .getfield 23, 45, 10, 2, 0, 0, 402, 0, 0), (45, .aload_n 0, 46, 0, 0, 0, 0, 0, 0, 0), (46, .getfield 10, 49, 10, 0, 0, 0, 400, 0, 0), (49, .getfield 122, 52, 9, 4, 0, 0, 178, 0, 0)]),
  (100000, [(52, .invokevirtual 199, 55, 10, 2, 0, 0, 681, 0, 0), (55, .ireturn, 56, 0, 0, 0, 0, 0, 0, 0)])]
def mmX10_tryOut : am_M := (yX10_tryOut, cX10_tryOut, 3, some .int, 0, 0, 3, 10, [728, 727, 12, 76, 1], tbX10_tryOut)
def tbX10_doneByAll : List (Nat × List am_I) := [(20, [(0, .iconst 0, 1, 0, 0, 0, 0, 0, 0, 0), (1, .istore_n 2, 2, 2, 0, 0, 0, 0, 0, 0), (2, .iconst 0, 3, 0, 0, 0, 0, 0, 0, 0), (3, .istore_n 3, 4, 3, 0, 0, 0, 0, 0, 0), (4, .iload_n 3, 5, 3, 0, 0, 0, 0, 0, 0), (5, .aload_n 0, 6, 0, 0, 0, 0, 0, 0, 0), (6, .getfield 10, 9, 10, 0, 0, 0, 400, 0, 0), (9, .getfield 72, 12, 9, 1, 0, 0, 171, 0, 0), (12, .if_icmp .ge 28, 15, 40, 0, 0, 0, 0, 0, 0), (15, .iload_n 2, 16, 2, 0, 0, 0, 0, 0, 0), (16, .aload_n 0, 17, 0, 0, 0, 0, 0, 0, 0), (17, .getfield 19, 20, 10, 1, 0, 0, 401, 0, 0)]),
  (100000, [(20, .aload_n 0, 21, 0, 0, 0, 0, 0, 0, 0), (21, .getfield 19, 24, 10, 1, 0, 0, 401, 0, 0), (24, .getfield 175, 27, 0, 5, 0, 0, 222, 0, 0), (27, .iload_n 3, 28, 3, 0, 0, 0, 0, 0, 0), (28, .iload_n 1, 29, 1, 0, 0, 0, 0, 0, 0), (29, .invokevirtual 184, 32, 4, 4, 0, 0, 806, 0, 0), (32, .iadd, 33, 0, 0, 0, 0, 0, 0, 0), (33, .istore_n 2, 34, 2, 0, 0, 0, 0, 0, 0), (34, .iinc 3 1, 37, 3, 0, 0, 0, 0, 1, 0), (37, .goto (-33), 40, 4, 0, 0, 0, 0, 0, 0), (40, .iload_n 2, 41, 2, 0, 0, 0, 0, 0, 0), (41, .ireturn, 42, 0, 0, 0, 0, 0, 0, 0)])]
def mmX10_doneByAll : am_M := (yX10_doneByAll, cX10_doneByAll, 4, some .int, 0, 0, 2, 10, [818, 817, 15, 76, 1], tbX10_doneByAll)
def tbX10_sameMinute : List (Nat × List am_I) := [(22, [(0, .iconst 0, 1, 0, 0, 0, 0, 0, 0, 0), (1, .istore_n 3, 2, 3, 0, 0, 0, 0, 0, 0), (2, .iconst 0, 3, 0, 0, 0, 0, 0, 0, 0), (3, .istore 4, 5, 4, 0, 0, 0, 0, 0, 0), (5, .iload 4, 7, 4, 0, 0, 0, 0, 0, 0), (7, .aload_n 0, 8, 0, 0, 0, 0, 0, 0, 0), (8, .getfield 19, 11, 10, 1, 0, 0, 401, 0, 0), (11, .getfield 113, 14, 0, 0, 0, 0, 211, 0, 0), (14, .if_icmp .ge 43, 17, 57, 0, 0, 0, 0, 0, 0), (17, .iload_n 3, 18, 3, 0, 0, 0, 0, 0, 0), (18, .aload_n 0, 19, 0, 0, 0, 0, 0, 0, 0), (19, .getfield 19, 22, 10, 1, 0, 0, 401, 0, 0)]),
  (48, [(22, .iload_n 1, 23, 1, 0, 0, 0, 0, 0, 0), (23, .iload 4, 25, 4, 0, 0, 0, 0, 0, 0), (25, .invokevirtual 375, 28, 5, 3, 0, 0, 701, 0, 0), (28, .ifCond .eq 20, 31, 48, 0, 0, 0, 0, 0, 0), (31, .aload_n 0, 32, 0, 0, 0, 0, 0, 0, 0), (32, .getfield 19, 35, 10, 1, 0, 0, 401, 0, 0), (35, .iload_n 2, 36, 2, 0, 0, 0, 0, 0, 0), (36, .iload 4, 38, 4, 0, 0, 0, 0, 0, 0), (38, .invokevirtual 375, 41, 5, 3, 0, 0, 701, 0, 0), (41, .ifCond .eq 7, 44, 48, 0, 0, 0, 0, 0, 0), (44, .iconst 1, 45, 0, 0, 0, 0, 0, 1, 0), (45, .goto 4, 48, 49, 0, 0, 0, 0, 0, 0)]),
  (100000, [(48, .iconst 0, 49, 0, 0, 0, 0, 0, 0, 0), (49, .iadd, 50, 0, 0, 0, 0, 0, 0, 0), (50, .istore_n 3, 51, 3, 0, 0, 0, 0, 0, 0), (51, .iinc 4 1, 54, 4, 0, 0, 0, 0, 1, 0), (54, .goto (-49), 57, 5, 0, 0, 0, 0, 0, 0), (57, .iload_n 3, 58, 3, 0, 0, 0, 0, 0, 0), (58, .ireturn, 59, 0, 0, 0, 0, 0, 0, 0)])]
def mmX10_sameMinute : am_M := (yX10_sameMinute, cX10_sameMinute, 5, some .int, 0, 0, 3, 10, [700, 699, 10, 76, 1], tbX10_sameMinute)
def tbX10_saidTooSoon : List (Nat × List am_I) := [(21, [(0, .aload_n 0, 1, 0, 0, 0, 0, 0, 0, 0), (1, .getfield 10, 4, 10, 0, 0, 0, 400, 0, 0), (4, .getfield 80, 7, 9, 0, 0, 0, 169, 0, 0), (7, .iload_n 2, 8, 2, 0, 0, 0, 0, 0, 0), (8, .aaload, 9, 0, 0, 0, 0, 0, 0, 0), (9, .invokevirtual 211, 12, 41, 1, 0, 4, 713, 0, 0), (12, .istore_n 3, 13, 3, 0, 0, 0, 0, 0, 0), (13, .iconst 0, 14, 0, 0, 0, 0, 0, 0, 0), (14, .istore 4, 16, 4, 0, 0, 0, 0, 0, 0), (16, .iconst 0, 17, 0, 0, 0, 0, 0, 0, 0), (17, .istore 5, 19, 5, 0, 0, 0, 0, 0, 0), (19, .iload 5, 21, 5, 0, 0, 0, 0, 0, 0)]),
  (47, [(21, .aload_n 0, 22, 0, 0, 0, 0, 0, 0, 0), (22, .getfield 19, 25, 10, 1, 0, 0, 401, 0, 0), (25, .getfield 113, 28, 0, 0, 0, 0, 211, 0, 0), (28, .if_icmp .ge 78, 31, 106, 0, 0, 0, 0, 0, 0), (31, .aload_n 0, 32, 0, 0, 0, 0, 0, 0, 0), (32, .getfield 19, 35, 10, 1, 0, 0, 401, 0, 0), (35, .iload_n 1, 36, 1, 0, 0, 0, 0, 0, 0), (36, .iload 5, 38, 5, 0, 0, 0, 0, 0, 0), (38, .invokevirtual 375, 41, 5, 3, 0, 0, 701, 0, 0), (41, .ifCond .eq 59, 44, 100, 0, 0, 0, 0, 0, 0), (44, .iload 5, 46, 5, 0, 0, 0, 0, 0, 0), (46, .iconst 1, 47, 0, 0, 0, 0, 0, 1, 0)]),
  (71, [(47, .iadd, 48, 0, 0, 0, 0, 0, 0, 0), (48, .istore 6, 50, 6, 0, 0, 0, 0, 0, 0), (50, .iload 6, 52, 6, 0, 0, 0, 0, 0, 0), (52, .iload 5, 54, 5, 0, 0, 0, 0, 0, 0), (54, .iload_n 3, 55, 3, 0, 0, 0, 0, 0, 0), (55, .iadd, 56, 0, 0, 0, 0, 0, 0, 0), (56, .if_icmp .ge 44, 59, 100, 0, 0, 0, 0, 0, 0), (59, .iload 6, 61, 6, 0, 0, 0, 0, 0, 0), (61, .aload_n 0, 62, 0, 0, 0, 0, 0, 0, 0), (62, .getfield 19, 65, 10, 1, 0, 0, 401, 0, 0), (65, .getfield 113, 68, 0, 0, 0, 0, 211, 0, 0), (68, .if_icmp .ge 32, 71, 100, 0, 0, 0, 0, 0, 0)]),
  (94, [(71, .iload 4, 73, 4, 0, 0, 0, 0, 0, 0), (73, .aload_n 0, 74, 0, 0, 0, 0, 0, 0, 0), (74, .getfield 19, 77, 10, 1, 0, 0, 401, 0, 0), (77, .iload_n 2, 78, 2, 0, 0, 0, 0, 0, 0), (78, .iload 6, 80, 6, 0, 0, 0, 0, 0, 0), (80, .invokevirtual 375, 83, 5, 3, 0, 0, 701, 0, 0), (83, .ifCond .eq 7, 86, 90, 0, 0, 0, 0, 0, 0), (86, .iconst 1, 87, 0, 0, 0, 0, 0, 1, 0), (87, .goto 4, 90, 91, 0, 0, 0, 0, 0, 0), (90, .iconst 0, 91, 0, 0, 0, 0, 0, 0, 0), (91, .iadd, 92, 0, 0, 0, 0, 0, 0, 0), (92, .istore 4, 94, 4, 0, 0, 0, 0, 0, 0)]),
  (100000, [(94, .iinc 6 1, 97, 6, 0, 0, 0, 0, 1, 0), (97, .goto (-47), 100, 50, 0, 0, 0, 0, 0, 0), (100, .iinc 5 1, 103, 5, 0, 0, 0, 0, 1, 0), (103, .goto (-84), 106, 19, 0, 0, 0, 0, 0, 0), (106, .iload 4, 108, 4, 0, 0, 0, 0, 0, 0), (108, .ireturn, 109, 0, 0, 0, 0, 0, 0, 0)])]
def mmX10_saidTooSoon : am_M := (yX10_saidTooSoon, cX10_saidTooSoon, 7, some .int, 0, 0, 3, 10, [712, 711, 11, 76, 1], tbX10_saidTooSoon)
def tbX10_heardByAll : List (Nat × List am_I) := [(20, [(0, .iconst 0, 1, 0, 0, 0, 0, 0, 0, 0), (1, .istore_n 2, 2, 2, 0, 0, 0, 0, 0, 0), (2, .iconst 0, 3, 0, 0, 0, 0, 0, 0, 0), (3, .istore_n 3, 4, 3, 0, 0, 0, 0, 0, 0), (4, .iload_n 3, 5, 3, 0, 0, 0, 0, 0, 0), (5, .aload_n 0, 6, 0, 0, 0, 0, 0, 0, 0), (6, .getfield 10, 9, 10, 0, 0, 0, 400, 0, 0), (9, .getfield 72, 12, 9, 1, 0, 0, 171, 0, 0), (12, .if_icmp .ge 46, 15, 58, 0, 0, 0, 0, 0, 0), (15, .iload_n 3, 16, 3, 0, 0, 0, 0, 0, 0), (16, .iload_n 1, 17, 1, 0, 0, 0, 0, 0, 0), (17, .if_icmp .eq 35, 20, 52, 0, 0, 0, 0, 0, 0)]),
  (44, [(20, .aload_n 0, 21, 0, 0, 0, 0, 0, 0, 0), (21, .getfield 47, 24, 10, 6, 0, 0, 406, 0, 0), (24, .aload_n 0, 25, 0, 0, 0, 0, 0, 0, 0), (25, .getfield 10, 28, 10, 0, 0, 0, 400, 0, 0), (28, .iload_n 1, 29, 1, 0, 0, 0, 0, 0, 0), (29, .iload_n 3, 30, 3, 0, 0, 0, 0, 0, 0), (30, .invokevirtual 328, 33, 69, 4, 0, 8, 994, 0, 0), (33, .istore 4, 35, 4, 0, 0, 0, 0, 0, 0), (35, .iload 4, 37, 4, 0, 0, 0, 0, 0, 0), (37, .bipush (-2), 39, 0, 0, 0, 0, 0, -2, 0), (39, .if_icmp .ne 6, 42, 45, 0, 0, 0, 0, 0, 0), (42, .bipush (-2), 44, 0, 0, 0, 0, 0, -2, 0)]),
  (100000, [(44, .ireturn, 45, 0, 0, 0, 0, 0, 0, 0), (45, .iload_n 2, 46, 2, 0, 0, 0, 0, 0, 0), (46, .iload 4, 48, 4, 0, 0, 0, 0, 0, 0), (48, .invokestatic 228, 51, 0, 0, 6, 0, 807, 0, 0), (51, .istore_n 2, 52, 2, 0, 0, 0, 0, 0, 0), (52, .iinc 3 1, 55, 3, 0, 0, 0, 0, 1, 0), (55, .goto (-51), 58, 4, 0, 0, 0, 0, 0, 0), (58, .iload_n 2, 59, 2, 0, 0, 0, 0, 0, 0), (59, .ireturn, 60, 0, 0, 0, 0, 0, 0, 0)])]
def mmX10_heardByAll : am_M := (yX10_heardByAll, cX10_heardByAll, 5, some .int, 0, 0, 2, 10, [1033, 1032, 26, 76, 1], tbX10_heardByAll)
def tbX10_answeredOfHundred : List (Nat × List am_I) := [(22, [(0, .aload_n 0, 1, 0, 0, 0, 0, 0, 0, 0), (1, .getfield 10, 4, 10, 0, 0, 0, 400, 0, 0), (4, .getfield 80, 7, 9, 0, 0, 0, 169, 0, 0), (7, .iload_n 1, 8, 1, 0, 0, 0, 0, 0, 0), (8, .aaload, 9, 0, 0, 0, 0, 0, 0, 0), (9, .astore 4, 11, 4, 0, 0, 0, 0, 0, 0), (11, .aload_n 0, 12, 0, 0, 0, 0, 0, 0, 0), (12, .getfield 10, 15, 10, 0, 0, 0, 400, 0, 0), (15, .getfield 80, 18, 9, 0, 0, 0, 169, 0, 0), (18, .iload_n 2, 19, 2, 0, 0, 0, 0, 0, 0), (19, .aaload, 20, 0, 0, 0, 0, 0, 0, 0), (20, .astore 5, 22, 5, 0, 0, 0, 0, 0, 0)]),
  (45, [(22, .aload 5, 24, 5, 0, 0, 0, 0, 0, 0), (24, .getfield 84, 27, 4, 0, 0, 0, 124, 0, 0), (27, .aload 5, 29, 5, 0, 0, 0, 0, 0, 0), (29, .getfield 92, 32, 4, 2, 0, 0, 128, 0, 0), (32, .iadd, 33, 0, 0, 0, 0, 0, 0, 0), (33, .aload 4, 35, 4, 0, 0, 0, 0, 0, 0), (35, .getfield 84, 38, 4, 0, 0, 0, 124, 0, 0), (38, .iadd, 39, 0, 0, 0, 0, 0, 0, 0), (39, .istore 6, 41, 6, 0, 0, 0, 0, 0, 0), (41, .iconst 0, 42, 0, 0, 0, 0, 0, 0, 0), (42, .istore 7, 44, 7, 0, 0, 0, 0, 0, 0), (44, .iconst 0, 45, 0, 0, 0, 0, 0, 0, 0)]),
  (67, [(45, .istore 8, 47, 8, 0, 0, 0, 0, 0, 0), (47, .iload 8, 49, 8, 0, 0, 0, 0, 0, 0), (49, .iconst 4, 50, 0, 0, 0, 0, 0, 4, 0), (50, .if_icmp .ge 58, 53, 108, 0, 0, 0, 0, 0, 0), (53, .iconst 0, 54, 0, 0, 0, 0, 0, 0, 0), (54, .istore 9, 56, 9, 0, 0, 0, 0, 0, 0), (56, .iload 9, 58, 9, 0, 0, 0, 0, 0, 0), (58, .iconst 4, 59, 0, 0, 0, 0, 0, 4, 0), (59, .if_icmp .ge 43, 62, 102, 0, 0, 0, 0, 0, 0), (62, .iload 6, 64, 6, 0, 0, 0, 0, 0, 0), (64, .iload 8, 66, 8, 0, 0, 0, 0, 0, 0), (66, .iadd, 67, 0, 0, 0, 0, 0, 0, 0)]),
  (91, [(67, .iload 9, 69, 9, 0, 0, 0, 0, 0, 0), (69, .iadd, 70, 0, 0, 0, 0, 0, 0, 0), (70, .iload_n 3, 71, 3, 0, 0, 0, 0, 0, 0), (71, .if_icmp .gt 25, 74, 96, 0, 0, 0, 0, 0, 0), (74, .iload 7, 76, 7, 0, 0, 0, 0, 0, 0), (76, .aload 5, 78, 5, 0, 0, 0, 0, 0, 0), (78, .getfield 348, 81, 4, 5, 0, 0, 136, 0, 0), (81, .iload 8, 83, 8, 0, 0, 0, 0, 0, 0), (83, .iaload, 84, 0, 0, 0, 0, 0, 0, 0), (84, .aload 4, 86, 4, 0, 0, 0, 0, 0, 0), (86, .getfield 348, 89, 4, 5, 0, 0, 136, 0, 0), (89, .iload 9, 91, 9, 0, 0, 0, 0, 0, 0)]),
  (100000, [(91, .iaload, 92, 0, 0, 0, 0, 0, 0, 0), (92, .imul, 93, 0, 0, 0, 0, 0, 0, 0), (93, .iadd, 94, 0, 0, 0, 0, 0, 0, 0), (94, .istore 7, 96, 7, 0, 0, 0, 0, 0, 0), (96, .iinc 9 1, 99, 9, 0, 0, 0, 0, 1, 0), (99, .goto (-43), 102, 56, 0, 0, 0, 0, 0, 0), (102, .iinc 8 1, 105, 8, 0, 0, 0, 0, 1, 0), (105, .goto (-58), 108, 47, 0, 0, 0, 0, 0, 0), (108, .iload 7, 110, 7, 0, 0, 0, 0, 0, 0), (110, .ireturn, 111, 0, 0, 0, 0, 0, 0, 0)])]
def mmX10_answeredOfHundred : am_M := (yX10_answeredOfHundred, cX10_answeredOfHundred, 10, some .int, 0, 0, 4, 10, [1053, 1052, 27, 76, 1], tbX10_answeredOfHundred)
def tbX11_thrown : List (Nat × List am_I) := [(100000, [(0, .aload_n 0, 1, 0, 0, 0, 0, 0, 0, 0), (1, .getfield 3, 4, 11, 0, 0, 0, 1661, 0, 0), (4, .ireturn, 5, 0, 0, 0, 0, 0, 0, 0)])]
def mmX11_thrown : am_M := (yX11_thrown, cX11_thrown, 1, some .int, 0, 0, 1, 11, [1188, 1186, 1187, 87, 1], tbX11_thrown)
def tbX11_refuse : List (Nat × List am_I) := [(100000, [(0, .aload_n 0, 1, 0, 0, 0, 0, 0, 0, 0), (1, .iconst 1, 2, 0, 0, 0, 0, 0, 1, 0), (2, .putfield 3, 5, 11, 0, 0, 0, 1661, 0, 0), (5, .iconst 0, 6, 0, 0, 0, 0, 0, 0, 0), (6, .ireturn, 7, 0, 0, 0, 0, 0, 0, 0)])]
def mmX11_refuse : am_M := (yX11_refuse, cX11_refuse, 1, some .int, 0, 0, 1, 11, [1322, 1321, 38, 87, 1], tbX11_refuse)
def tbX11_in : List (Nat × List am_I) := [(100000, [(0, .lload_n 0, 1, 0, 0, 0, 0, 0, 0, 0), (1, .lload_n 2, 2, 2, 0, 0, 0, 0, 0, 0), (2, .lcmp, 3, 0, 0, 0, 0, 0, 0, 0), (3, .ifCond .lt 14, 6, 17, 0, 0, 0, 0, 0, 0), (6, .lload_n 0, 7, 0, 0, 0, 0, 0, 0, 0), (7, .lload 4, 9, 4, 0, 0, 0, 0, 0, 0), (9, .lcmp, 10, 0, 0, 0, 0, 0, 0, 0), (10, .ifCond .gt 7, 13, 17, 0, 0, 0, 0, 0, 0), (13, .iconst 1, 14, 0, 0, 0, 0, 0, 1, 0), (14, .goto 4, 17, 18, 0, 0, 0, 0, 0, 0), (17, .iconst 0, 18, 0, 0, 0, 0, 0, 0, 0), (18, .ireturn, 19, 0, 0, 0, 0, 0, 0, 0)])]
def mmX11_in : am_M := (yX11_in, cX11_in, 6, some .boolean, 0, 0, 3, 11, [1196, 1195, 0, 87, 0], tbX11_in)
def tbX11_has : List (Nat × List am_I) := [(100000, [(0, .iload_n 0, 1, 0, 0, 0, 0, 0, 0, 0), (1, .iload_n 1, 2, 1, 0, 0, 0, 0, 0, 0), (2, .ishr, 3, 0, 0, 0, 0, 0, 0, 0), (3, .iconst 1, 4, 0, 0, 0, 0, 0, 1, 0), (4, .iand, 5, 0, 0, 0, 0, 0, 0, 0), (5, .iconst 1, 6, 0, 0, 0, 0, 0, 1, 0), (6, .if_icmp .ne 7, 9, 13, 0, 0, 0, 0, 0, 0), (9, .iconst 1, 10, 0, 0, 0, 0, 0, 1, 0), (10, .goto 4, 13, 14, 0, 0, 0, 0, 0, 0), (13, .iconst 0, 14, 0, 0, 0, 0, 0, 0, 0), (14, .ireturn, 15, 0, 0, 0, 0, 0, 0, 0)])]
def mmX11_has : am_M := (yX11_has, cX11_has, 2, some .boolean, 0, 0, 2, 11, [1341, 1340, 0, 87, 0], tbX11_has)
def tbX11_flag : List (Nat × List am_I) := [(100000, [(0, .iload_n 0, 1, 0, 0, 0, 0, 0, 0, 0), (1, .ifCond .eq 7, 4, 8, 0, 0, 0, 0, 0, 0), (4, .iconst 1, 5, 0, 0, 0, 0, 0, 1, 0), (5, .goto 4, 8, 9, 0, 0, 0, 0, 0, 0), (8, .iconst 0, 9, 0, 0, 0, 0, 0, 0, 0), (9, .ireturn, 10, 0, 0, 0, 0, 0, 0, 0)])]
def mmX11_flag : am_M := (yX11_flag, cX11_flag, 1, some .int, 0, 0, 1, 11, [1359, 1358, 0, 87, 0], tbX11_flag)
def tbX11_put : List (Nat × List am_I) := [(100000, [(0, .iload_n 1, 1, 1, 0, 0, 0, 0, 0, 0), (1, .ineg, 2, 0, 0, 0, 0, 0, 0, 0), (2, .iload_n 1, 3, 1, 0, 0, 0, 0, 0, 0), (3, .iload_n 0, 4, 0, 0, 0, 0, 0, 0, 0), (4, .invokestatic 7, 7, 0, 0, 7, 0, 1235, 0, 0), (7, .invokestatic 13, 10, 0, 0, 6, 0, 1236, 0, 0), (10, .ireturn, 11, 0, 0, 0, 0, 0, 0, 0)])]
def mmX11_put : am_M := (yX11_put, cX11_put, 2, some .int, 0, 0, 2, 11, [1365, 1364, 0, 87, 0], tbX11_put)
def tbX11_enters : List (Nat × List am_I) := [(20, [(0, .aload_n 0, 1, 0, 0, 0, 0, 0, 0, 0), (1, .getfield 16, 4, 11, 2, 0, 0, 1663, 0, 0), (4, .aload_n 0, 5, 0, 0, 0, 0, 0, 0, 0), (5, .getfield 20, 8, 11, 1, 0, 0, 1662, 0, 0), (8, .lload_n 1, 9, 1, 0, 0, 0, 0, 0, 0), (9, .lastore, 10, 0, 0, 0, 0, 0, 0, 0), (10, .aload_n 0, 11, 0, 0, 0, 0, 0, 0, 0), (11, .dup, 12, 0, 0, 0, 0, 0, 0, 0), (12, .getfield 20, 15, 11, 1, 0, 0, 1662, 0, 0), (15, .iconst 1, 16, 0, 0, 0, 0, 0, 1, 0), (16, .iadd, 17, 0, 0, 0, 0, 0, 0, 0), (17, .putfield 20, 20, 11, 1, 0, 0, 1662, 0, 0)]),
  (100000, [(20, .return_, 21, 0, 0, 0, 0, 0, 0, 0)])]
def mmX11_enters : am_M := (yX11_enters, cX11_enters, 3, none, 0, 0, 2, 11, [1409, 1408, 50, 87, 1], tbX11_enters)
def tbX11_common : List (Nat × List am_I) := [(19, [(0, .lload_n 0, 1, 0, 0, 0, 0, 0, 0, 0), (1, .lconst 0, 2, 0, 0, 0, 0, 0, 0, 0), (2, .lcmp, 3, 0, 0, 0, 0, 0, 0, 0), (3, .ifCond .ge 8, 6, 11, 0, 0, 0, 0, 0, 0), (6, .lload_n 0, 7, 0, 0, 0, 0, 0, 0, 0), (7, .lneg, 8, 0, 0, 0, 0, 0, 0, 0), (8, .goto 4, 11, 12, 0, 0, 0, 0, 0, 0), (11, .lload_n 0, 12, 0, 0, 0, 0, 0, 0, 0), (12, .lstore 4, 14, 4, 0, 0, 0, 0, 0, 0), (14, .lload_n 2, 15, 2, 0, 0, 0, 0, 0, 0), (15, .lstore 6, 17, 6, 0, 0, 0, 0, 0, 0), (17, .lload 6, 19, 6, 0, 0, 0, 0, 0, 0)]),
  (42, [(19, .lconst 0, 20, 0, 0, 0, 0, 0, 0, 0), (20, .lcmp, 21, 0, 0, 0, 0, 0, 0, 0), (21, .ifCond .eq 21, 24, 42, 0, 0, 0, 0, 0, 0), (24, .lload 4, 26, 4, 0, 0, 0, 0, 0, 0), (26, .lload 6, 28, 6, 0, 0, 0, 0, 0, 0), (28, .lrem, 29, 0, 0, 0, 0, 0, 0, 0), (29, .lstore 8, 31, 8, 0, 0, 0, 0, 0, 0), (31, .lload 6, 33, 6, 0, 0, 0, 0, 0, 0), (33, .lstore 4, 35, 4, 0, 0, 0, 0, 0, 0), (35, .lload 8, 37, 8, 0, 0, 0, 0, 0, 0), (37, .lstore 6, 39, 6, 0, 0, 0, 0, 0, 0), (39, .goto (-22), 42, 17, 0, 0, 0, 0, 0, 0)]),
  (100000, [(42, .lload 4, 44, 4, 0, 0, 0, 0, 0, 0), (44, .lreturn, 45, 0, 0, 0, 0, 0, 0, 0)])]
def mmX11_common : am_M := (yX11_common, cX11_common, 10, some .long, 0, 0, 2, 11, [1500, 1499, 0, 87, 0], tbX11_common)
def tbX11_entersFraction : List (Nat × List am_I) := [(19, [(0, .lload_n 1, 1, 1, 0, 0, 0, 0, 0, 0), (1, .lload_n 3, 2, 3, 0, 0, 0, 0, 0, 0), (2, .invokestatic 23, 5, 154, 2, 1, 0, 1498, 0, 0), (5, .lstore 5, 7, 5, 0, 0, 0, 0, 0, 0), (7, .aload_n 0, 8, 0, 0, 0, 0, 0, 0, 0), (8, .lload_n 1, 9, 1, 0, 0, 0, 0, 0, 0), (9, .lload 5, 11, 5, 0, 0, 0, 0, 0, 0), (11, .ldiv, 12, 0, 0, 0, 0, 0, 0, 0), (12, .invokevirtual 27, 15, 153, 2, 0, 11, 1406, 0, 0), (15, .aload_n 0, 16, 0, 0, 0, 0, 0, 0, 0), (16, .lload_n 3, 17, 3, 0, 0, 0, 0, 0, 0), (17, .lload 5, 19, 5, 0, 0, 0, 0, 0, 0)]),
  (100000, [(19, .ldiv, 20, 0, 0, 0, 0, 0, 0, 0), (20, .invokevirtual 27, 23, 153, 2, 0, 11, 1406, 0, 0), (23, .return_, 24, 0, 0, 0, 0, 0, 0, 0)])]
def mmX11_entersFraction : am_M := (yX11_entersFraction, cX11_entersFraction, 7, none, 0, 0, 3, 11, [1497, 1496, 59, 87, 1], tbX11_entersFraction)
def tbX11_isPerson : List (Nat × List am_I) := [(100000, [(0, .iload_n 1, 1, 1, 0, 0, 0, 0, 0, 0), (1, .i2l, 2, 0, 0, 0, 0, 0, 0, 0), (2, .lconst 0, 3, 0, 0, 0, 0, 0, 0, 0), (3, .aload_n 0, 4, 0, 0, 0, 0, 0, 0, 0), (4, .getfield 31, 7, 11, 3, 0, 0, 1664, 0, 0), (7, .iconst 1, 8, 0, 0, 0, 0, 0, 1, 0), (8, .isub, 9, 0, 0, 0, 0, 0, 0, 0), (9, .i2l, 10, 0, 0, 0, 0, 0, 0, 0), (10, .invokestatic 34, 13, 149, 3, 1, 0, 1194, 0, 0), (13, .ireturn, 14, 0, 0, 0, 0, 0, 0, 0)])]
def mmX11_isPerson : am_M := (yX11_isPerson, cX11_isPerson, 2, some .boolean, 0, 0, 2, 11, [1206, 1204, 29, 87, 1], tbX11_isPerson)
def tbX11_arePair : List (Nat × List am_I) := [(22, [(0, .aload_n 0, 1, 0, 0, 0, 0, 0, 0, 0), (1, .iload_n 1, 2, 1, 0, 0, 0, 0, 0, 0), (2, .invokevirtual 38, 5, 156, 2, 0, 11, 1202, 0, 0), (5, .ifCond .eq 20, 8, 25, 0, 0, 0, 0, 0, 0), (8, .aload_n 0, 9, 0, 0, 0, 0, 0, 0, 0), (9, .iload_n 2, 10, 2, 0, 0, 0, 0, 0, 0), (10, .invokevirtual 38, 13, 156, 2, 0, 11, 1202, 0, 0), (13, .ifCond .eq 12, 16, 25, 0, 0, 0, 0, 0, 0), (16, .iload_n 1, 17, 1, 0, 0, 0, 0, 0, 0), (17, .iload_n 2, 18, 2, 0, 0, 0, 0, 0, 0), (18, .if_icmp .eq 7, 21, 25, 0, 0, 0, 0, 0, 0), (21, .iconst 1, 22, 0, 0, 0, 0, 0, 1, 0)]),
  (100000, [(22, .goto 4, 25, 26, 0, 0, 0, 0, 0, 0), (25, .iconst 0, 26, 0, 0, 0, 0, 0, 0, 0), (26, .ireturn, 27, 0, 0, 0, 0, 0, 0, 0)])]
def mmX11_arePair : am_M := (yX11_arePair, cX11_arePair, 3, some .boolean, 0, 0, 3, 11, [1218, 1217, 30, 87, 1], tbX11_arePair)
def tbX11_mostOf : List (Nat × List am_I) := [(100000, [(0, .iload_n 0, 1, 0, 0, 0, 0, 0, 0, 0), (1, .iconst 2, 2, 0, 0, 0, 0, 0, 2, 0), (2, .if_icmp .ne 8, 5, 10, 0, 0, 0, 0, 0, 0), (5, .bipush 9, 7, 0, 0, 0, 0, 0, 9, 0), (7, .goto 5, 10, 12, 0, 0, 0, 0, 0, 0), (10, .bipush 20, 12, 0, 0, 0, 0, 0, 20, 0), (12, .ireturn, 13, 0, 0, 0, 0, 0, 0, 0)])]
def mmX11_mostOf : am_M := (yX11_mostOf, cX11_mostOf, 1, some .int, 0, 0, 1, 11, [1210, 1209, 0, 87, 0], tbX11_mostOf)
def tbX11_person : List (Nat × List am_I) := [(20, [(0, .aload_n 0, 1, 0, 0, 0, 0, 0, 0, 0), (1, .iconst 0, 2, 0, 0, 0, 0, 0, 0, 0), (2, .putfield 3, 5, 11, 0, 0, 0, 1661, 0, 0), (5, .iload_n 1, 6, 1, 0, 0, 0, 0, 0, 0), (6, .i2l, 7, 0, 0, 0, 0, 0, 0, 0), (7, .lconst 0, 8, 0, 0, 0, 0, 0, 0, 0), (8, .ldc2_w 42, 11, 0, 0, 0, 0, 1193, 0, 20), (11, .invokestatic 34, 14, 149, 3, 1, 0, 1194, 0, 0), (14, .ifCond .eq 36, 17, 50, 0, 0, 0, 0, 0, 0), (17, .iload_n 2, 18, 2, 0, 0, 0, 0, 0, 0), (18, .i2l, 19, 0, 0, 0, 0, 0, 0, 0), (19, .lconst 0, 20, 0, 0, 0, 0, 0, 0, 0)]),
  (47, [(20, .ldc2_w 42, 23, 0, 0, 0, 0, 1193, 0, 20), (23, .invokestatic 34, 26, 149, 3, 1, 0, 1194, 0, 0), (26, .ifCond .eq 24, 29, 50, 0, 0, 0, 0, 0, 0), (29, .iload_n 3, 30, 3, 0, 0, 0, 0, 0, 0), (30, .i2l, 31, 0, 0, 0, 0, 0, 0, 0), (31, .lconst 0, 32, 0, 0, 0, 0, 0, 0, 0), (32, .ldc2_w 44, 35, 0, 0, 0, 0, 1197, 0, 9), (35, .invokestatic 34, 38, 149, 3, 1, 0, 1194, 0, 0), (38, .ifCond .eq 12, 41, 50, 0, 0, 0, 0, 0, 0), (41, .aload_n 0, 42, 0, 0, 0, 0, 0, 0, 0), (42, .getfield 31, 45, 11, 3, 0, 0, 1664, 0, 0), (45, .bipush 6, 47, 0, 0, 0, 0, 0, 6, 0)]),
  (67, [(47, .if_icmp .ne 5, 50, 52, 0, 0, 0, 0, 0, 0), (50, .iconst (-1), 51, 0, 0, 0, 0, 0, -1, 0), (51, .ireturn, 52, 0, 0, 0, 0, 0, 0, 0), (52, .aload_n 0, 53, 0, 0, 0, 0, 0, 0, 0), (53, .getfield 46, 56, 11, 4, 0, 0, 1665, 0, 0), (56, .aload_n 0, 57, 0, 0, 0, 0, 0, 0, 0), (57, .getfield 31, 60, 11, 3, 0, 0, 1664, 0, 0), (60, .iload_n 1, 61, 1, 0, 0, 0, 0, 0, 0), (61, .iastore, 62, 0, 0, 0, 0, 0, 0, 0), (62, .aload_n 0, 63, 0, 0, 0, 0, 0, 0, 0), (63, .getfield 50, 66, 11, 5, 0, 0, 1666, 0, 0), (66, .aload_n 0, 67, 0, 0, 0, 0, 0, 0, 0)]),
  (87, [(67, .getfield 31, 70, 11, 3, 0, 0, 1664, 0, 0), (70, .iload_n 2, 71, 2, 0, 0, 0, 0, 0, 0), (71, .iastore, 72, 0, 0, 0, 0, 0, 0, 0), (72, .aload_n 0, 73, 0, 0, 0, 0, 0, 0, 0), (73, .getfield 53, 76, 11, 6, 0, 0, 1667, 0, 0), (76, .aload_n 0, 77, 0, 0, 0, 0, 0, 0, 0), (77, .getfield 31, 80, 11, 3, 0, 0, 1664, 0, 0), (80, .iload_n 3, 81, 3, 0, 0, 0, 0, 0, 0), (81, .iastore, 82, 0, 0, 0, 0, 0, 0, 0), (82, .aload_n 0, 83, 0, 0, 0, 0, 0, 0, 0), (83, .getfield 56, 86, 11, 45, 0, 0, 1706, 0, 0), (86, .aload_n 0, 87, 0, 0, 0, 0, 0, 0, 0)]),
  (108, [(87, .getfield 31, 90, 11, 3, 0, 0, 1664, 0, 0), (90, .bipush 10, 92, 0, 0, 0, 0, 0, 10, 0), (92, .iastore, 93, 0, 0, 0, 0, 0, 0, 0), (93, .aload_n 0, 94, 0, 0, 0, 0, 0, 0, 0), (94, .dup, 95, 0, 0, 0, 0, 0, 0, 0), (95, .getfield 31, 98, 11, 3, 0, 0, 1664, 0, 0), (98, .iconst 1, 99, 0, 0, 0, 0, 0, 1, 0), (99, .iadd, 100, 0, 0, 0, 0, 0, 0, 0), (100, .putfield 31, 103, 11, 3, 0, 0, 1664, 0, 0), (103, .aload_n 0, 104, 0, 0, 0, 0, 0, 0, 0), (104, .getfield 31, 107, 11, 3, 0, 0, 1664, 0, 0), (107, .iconst 1, 108, 0, 0, 0, 0, 0, 1, 0)]),
  (100000, [(108, .isub, 109, 0, 0, 0, 0, 0, 0, 0), (109, .ireturn, 110, 0, 0, 0, 0, 0, 0, 0)])]
def mmX11_person : am_M := (yX11_person, cX11_person, 4, some .int, 0, 0, 4, 11, [1192, 1190, 1191, 87, 1], tbX11_person)
def tbX11_set : List (Nat × List am_I) := [(22, [(0, .aload_n 0, 1, 0, 0, 0, 0, 0, 0, 0), (1, .iconst 0, 2, 0, 0, 0, 0, 0, 0, 0), (2, .putfield 3, 5, 11, 0, 0, 0, 1661, 0, 0), (5, .aload_n 0, 6, 0, 0, 0, 0, 0, 0, 0), (6, .iload_n 1, 7, 1, 0, 0, 0, 0, 0, 0), (7, .invokevirtual 38, 10, 156, 2, 0, 11, 1202, 0, 0), (10, .ifCond .eq 29, 13, 39, 0, 0, 0, 0, 0, 0), (13, .iload_n 2, 14, 2, 0, 0, 0, 0, 0, 0), (14, .i2l, 15, 0, 0, 0, 0, 0, 0, 0), (15, .lconst 0, 16, 0, 0, 0, 0, 0, 0, 0), (16, .ldc2_w 59, 19, 0, 0, 0, 0, 1207, 0, 2), (19, .invokestatic 34, 22, 149, 3, 1, 0, 1194, 0, 0)]),
  (42, [(22, .ifCond .eq 17, 25, 39, 0, 0, 0, 0, 0, 0), (25, .iload_n 3, 26, 3, 0, 0, 0, 0, 0, 0), (26, .i2l, 27, 0, 0, 0, 0, 0, 0, 0), (27, .lconst 0, 28, 0, 0, 0, 0, 0, 0, 0), (28, .iload_n 2, 29, 2, 0, 0, 0, 0, 0, 0), (29, .invokestatic 61, 32, 158, 1, 1, 0, 1208, 0, 0), (32, .i2l, 33, 0, 0, 0, 0, 0, 0, 0), (33, .invokestatic 34, 36, 149, 3, 1, 0, 1194, 0, 0), (36, .ifCond .ne 5, 39, 41, 0, 0, 0, 0, 0, 0), (39, .iconst (-1), 40, 0, 0, 0, 0, 0, -1, 0), (40, .ireturn, 41, 0, 0, 0, 0, 0, 0, 0), (41, .iload_n 2, 42, 2, 0, 0, 0, 0, 0, 0)]),
  (68, [(42, .ifCond .ne 10, 45, 52, 0, 0, 0, 0, 0, 0), (45, .aload_n 0, 46, 0, 0, 0, 0, 0, 0, 0), (46, .getfield 46, 49, 11, 4, 0, 0, 1665, 0, 0), (49, .goto 19, 52, 68, 0, 0, 0, 0, 0, 0), (52, .iload_n 2, 53, 2, 0, 0, 0, 0, 0, 0), (53, .iconst 1, 54, 0, 0, 0, 0, 0, 1, 0), (54, .if_icmp .ne 10, 57, 64, 0, 0, 0, 0, 0, 0), (57, .aload_n 0, 58, 0, 0, 0, 0, 0, 0, 0), (58, .getfield 50, 61, 11, 5, 0, 0, 1666, 0, 0), (61, .goto 7, 64, 68, 0, 0, 0, 0, 0, 0), (64, .aload_n 0, 65, 0, 0, 0, 0, 0, 0, 0), (65, .getfield 53, 68, 11, 6, 0, 0, 1667, 0, 0)]),
  (100000, [(68, .astore 4, 70, 4, 0, 0, 0, 0, 0, 0), (70, .aload 4, 72, 4, 0, 0, 0, 0, 0, 0), (72, .iload_n 1, 73, 1, 0, 0, 0, 0, 0, 0), (73, .iaload, 74, 0, 0, 0, 0, 0, 0, 0), (74, .istore 5, 76, 5, 0, 0, 0, 0, 0, 0), (76, .aload 4, 78, 4, 0, 0, 0, 0, 0, 0), (78, .iload_n 1, 79, 1, 0, 0, 0, 0, 0, 0), (79, .iload_n 3, 80, 3, 0, 0, 0, 0, 0, 0), (80, .iastore, 81, 0, 0, 0, 0, 0, 0, 0), (81, .iload 5, 83, 5, 0, 0, 0, 0, 0, 0), (83, .ireturn, 84, 0, 0, 0, 0, 0, 0, 0)])]
def mmX11_set : am_M := (yX11_set, cX11_set, 6, some .int, 0, 0, 4, 11, [1201, 1199, 1200, 87, 1], tbX11_set)
def tbX11_with : List (Nat × List am_I) := [(16, [(0, .iload_n 2, 1, 2, 0, 0, 0, 0, 0, 0), (1, .ifCond .eq 11, 4, 12, 0, 0, 0, 0, 0, 0), (4, .iload_n 0, 5, 0, 0, 0, 0, 0, 0, 0), (5, .iconst 1, 6, 0, 0, 0, 0, 0, 1, 0), (6, .iload_n 1, 7, 1, 0, 0, 0, 0, 0, 0), (7, .ishl, 8, 0, 0, 0, 0, 0, 0, 0), (8, .ior, 9, 0, 0, 0, 0, 0, 0, 0), (9, .goto 10, 12, 19, 0, 0, 0, 0, 0, 0), (12, .iload_n 0, 13, 0, 0, 0, 0, 0, 0, 0), (13, .iconst 1, 14, 0, 0, 0, 0, 0, 1, 0), (14, .iload_n 1, 15, 1, 0, 0, 0, 0, 0, 0), (15, .ishl, 16, 0, 0, 0, 0, 0, 0, 0)]),
  (100000, [(16, .iconst (-1), 17, 0, 0, 0, 0, 0, -1, 0), (17, .ixor, 18, 0, 0, 0, 0, 0, 0, 0), (18, .iand, 19, 0, 0, 0, 0, 0, 0, 0), (19, .ireturn, 20, 0, 0, 0, 0, 0, 0, 0)])]
def mmX11_with : am_M := (yX11_with, cX11_with, 3, some .int, 0, 0, 3, 11, [1221, 1220, 0, 87, 0], tbX11_with)
def tbX11_link : List (Nat × List am_I) := [(18, [(0, .aload_n 0, 1, 0, 0, 0, 0, 0, 0, 0), (1, .iconst 0, 2, 0, 0, 0, 0, 0, 0, 0), (2, .putfield 3, 5, 11, 0, 0, 0, 1661, 0, 0), (5, .iload_n 1, 6, 1, 0, 0, 0, 0, 0, 0), (6, .i2l, 7, 0, 0, 0, 0, 0, 0, 0), (7, .lconst 0, 8, 0, 0, 0, 0, 0, 0, 0), (8, .lconst 1, 9, 0, 0, 0, 0, 0, 0, 1), (9, .invokestatic 34, 12, 149, 3, 1, 0, 1194, 0, 0), (12, .ifCond .eq 12, 15, 24, 0, 0, 0, 0, 0, 0), (15, .aload_n 0, 16, 0, 0, 0, 0, 0, 0, 0), (16, .iload_n 2, 17, 2, 0, 0, 0, 0, 0, 0), (17, .iload_n 3, 18, 3, 0, 0, 0, 0, 0, 0)]),
  (40, [(18, .invokevirtual 65, 21, 157, 3, 0, 11, 1215, 0, 0), (21, .ifCond .ne 5, 24, 26, 0, 0, 0, 0, 0, 0), (24, .iconst 0, 25, 0, 0, 0, 0, 0, 0, 0), (25, .ireturn, 26, 0, 0, 0, 0, 0, 0, 0), (26, .iload_n 1, 27, 1, 0, 0, 0, 0, 0, 0), (27, .iconst 1, 28, 0, 0, 0, 0, 0, 1, 0), (28, .if_icmp .ne 24, 31, 52, 0, 0, 0, 0, 0, 0), (31, .aload_n 0, 32, 0, 0, 0, 0, 0, 0, 0), (32, .getfield 69, 35, 11, 8, 0, 0, 1669, 0, 0), (35, .iload_n 2, 36, 2, 0, 0, 0, 0, 0, 0), (36, .aload_n 0, 37, 0, 0, 0, 0, 0, 0, 0), (37, .getfield 69, 40, 11, 8, 0, 0, 1669, 0, 0)]),
  (61, [(40, .iload_n 2, 41, 2, 0, 0, 0, 0, 0, 0), (41, .iaload, 42, 0, 0, 0, 0, 0, 0, 0), (42, .iload_n 3, 43, 3, 0, 0, 0, 0, 0, 0), (43, .iload 4, 45, 4, 0, 0, 0, 0, 0, 0), (45, .invokestatic 72, 48, 161, 3, 1, 0, 1219, 0, 0), (48, .iastore, 49, 0, 0, 0, 0, 0, 0, 0), (49, .goto 39, 52, 88, 0, 0, 0, 0, 0, 0), (52, .aload_n 0, 53, 0, 0, 0, 0, 0, 0, 0), (53, .getfield 76, 56, 11, 7, 0, 0, 1668, 0, 0), (56, .iload_n 2, 57, 2, 0, 0, 0, 0, 0, 0), (57, .aload_n 0, 58, 0, 0, 0, 0, 0, 0, 0), (58, .getfield 76, 61, 11, 7, 0, 0, 1668, 0, 0)]),
  (80, [(61, .iload_n 2, 62, 2, 0, 0, 0, 0, 0, 0), (62, .iaload, 63, 0, 0, 0, 0, 0, 0, 0), (63, .iload_n 3, 64, 3, 0, 0, 0, 0, 0, 0), (64, .iload 4, 66, 4, 0, 0, 0, 0, 0, 0), (66, .invokestatic 72, 69, 161, 3, 1, 0, 1219, 0, 0), (69, .iastore, 70, 0, 0, 0, 0, 0, 0, 0), (70, .aload_n 0, 71, 0, 0, 0, 0, 0, 0, 0), (71, .getfield 76, 74, 11, 7, 0, 0, 1668, 0, 0), (74, .iload_n 3, 75, 3, 0, 0, 0, 0, 0, 0), (75, .aload_n 0, 76, 0, 0, 0, 0, 0, 0, 0), (76, .getfield 76, 79, 11, 7, 0, 0, 1668, 0, 0), (79, .iload_n 3, 80, 3, 0, 0, 0, 0, 0, 0)]),
  (100000, [(80, .iaload, 81, 0, 0, 0, 0, 0, 0, 0), (81, .iload_n 2, 82, 2, 0, 0, 0, 0, 0, 0), (82, .iload 4, 84, 4, 0, 0, 0, 0, 0, 0), (84, .invokestatic 72, 87, 161, 3, 1, 0, 1219, 0, 0), (87, .iastore, 88, 0, 0, 0, 0, 0, 0, 0), (88, .iconst 1, 89, 0, 0, 0, 0, 0, 1, 0), (89, .ireturn, 90, 0, 0, 0, 0, 0, 0, 0)])]
def mmX11_link : am_M := (yX11_link, cX11_link, 5, some .boolean, 0, 0, 5, 11, [1214, 1212, 1213, 87, 1], tbX11_link)
def tbX11_beam : List (Nat × List am_I) := [(24, [(0, .aload_n 0, 1, 0, 0, 0, 0, 0, 0, 0), (1, .iconst 0, 2, 0, 0, 0, 0, 0, 0, 0), (2, .putfield 3, 5, 11, 0, 0, 0, 1661, 0, 0), (5, .iload_n 1, 6, 1, 0, 0, 0, 0, 0, 0), (6, .ifCond .ne 45, 9, 51, 0, 0, 0, 0, 0, 0), (9, .iload_n 2, 10, 2, 0, 0, 0, 0, 0, 0), (10, .i2l, 11, 0, 0, 0, 0, 0, 0, 0), (11, .ldc2_w 79, 14, 0, 0, 0, 0, 1226, 0, -999), (14, .ldc2_w 81, 17, 0, 0, 0, 0, 1227, 0, 999), (17, .invokestatic 34, 20, 149, 3, 1, 0, 1194, 0, 0), (20, .ifCond .eq 10, 23, 30, 0, 0, 0, 0, 0, 0), (23, .aload_n 0, 24, 0, 0, 0, 0, 0, 0, 0)]),
  (46, [(24, .getfield 83, 27, 11, 23, 0, 0, 1684, 0, 0), (27, .ifCond .le 5, 30, 32, 0, 0, 0, 0, 0, 0), (30, .iconst (-1), 31, 0, 0, 0, 0, 0, -1, 0), (31, .ireturn, 32, 0, 0, 0, 0, 0, 0, 0), (32, .aload_n 0, 33, 0, 0, 0, 0, 0, 0, 0), (33, .getfield 86, 36, 11, 9, 0, 0, 1670, 0, 0), (36, .istore_n 3, 37, 3, 0, 0, 0, 0, 0, 0), (37, .aload_n 0, 38, 0, 0, 0, 0, 0, 0, 0), (38, .iload_n 2, 39, 2, 0, 0, 0, 0, 0, 0), (39, .putfield 86, 42, 11, 9, 0, 0, 1670, 0, 0), (42, .aload_n 0, 43, 0, 0, 0, 0, 0, 0, 0), (43, .getfield 89, 46, 11, 25, 0, 0, 1686, 0, 0)]),
  (64, [(46, .iconst 0, 47, 0, 0, 0, 0, 0, 0, 0), (47, .iload_n 2, 48, 2, 0, 0, 0, 0, 0, 0), (48, .iastore, 49, 0, 0, 0, 0, 0, 0, 0), (49, .iload_n 3, 50, 3, 0, 0, 0, 0, 0, 0), (50, .ireturn, 51, 0, 0, 0, 0, 0, 0, 0), (51, .iload_n 1, 52, 1, 0, 0, 0, 0, 0, 0), (52, .iconst 1, 53, 0, 0, 0, 0, 0, 1, 0), (53, .if_icmp .ne 31, 56, 84, 0, 0, 0, 0, 0, 0), (56, .iload_n 2, 57, 2, 0, 0, 0, 0, 0, 0), (57, .i2l, 58, 0, 0, 0, 0, 0, 0, 0), (58, .ldc2_w 92, 61, 0, 0, 0, 0, 1228, 0, -99), (61, .ldc2_w 94, 64, 0, 0, 0, 0, 1229, 0, 99)]),
  (84, [(64, .invokestatic 34, 67, 149, 3, 1, 0, 1194, 0, 0), (67, .ifCond .ne 5, 70, 72, 0, 0, 0, 0, 0, 0), (70, .iconst (-1), 71, 0, 0, 0, 0, 0, -1, 0), (71, .ireturn, 72, 0, 0, 0, 0, 0, 0, 0), (72, .aload_n 0, 73, 0, 0, 0, 0, 0, 0, 0), (73, .getfield 96, 76, 11, 10, 0, 0, 1671, 0, 0), (76, .istore_n 3, 77, 3, 0, 0, 0, 0, 0, 0), (77, .aload_n 0, 78, 0, 0, 0, 0, 0, 0, 0), (78, .iload_n 2, 79, 2, 0, 0, 0, 0, 0, 0), (79, .putfield 96, 82, 11, 10, 0, 0, 1671, 0, 0), (82, .iload_n 3, 83, 3, 0, 0, 0, 0, 0, 0), (83, .ireturn, 84, 0, 0, 0, 0, 0, 0, 0)]),
  (105, [(84, .iload_n 1, 85, 1, 0, 0, 0, 0, 0, 0), (85, .i2l, 86, 0, 0, 0, 0, 0, 0, 0), (86, .ldc2_w 59, 89, 0, 0, 0, 0, 1207, 0, 2), (89, .ldc2_w 99, 92, 0, 0, 0, 0, 1230, 0, 3), (92, .invokestatic 34, 95, 149, 3, 1, 0, 1194, 0, 0), (95, .ifCond .eq 32, 98, 127, 0, 0, 0, 0, 0, 0), (98, .iload_n 2, 99, 2, 0, 0, 0, 0, 0, 0), (99, .i2l, 100, 0, 0, 0, 0, 0, 0, 0), (100, .lconst 0, 101, 0, 0, 0, 0, 0, 0, 0), (101, .bipush 10, 103, 0, 0, 0, 0, 0, 10, 0), (103, .iload_n 1, 104, 1, 0, 0, 0, 0, 0, 0), (104, .iconst 2, 105, 0, 0, 0, 0, 0, 2, 0)]),
  (129, [(105, .if_icmp .ne 10, 108, 115, 0, 0, 0, 0, 0, 0), (108, .aload_n 0, 109, 0, 0, 0, 0, 0, 0, 0), (109, .getfield 101, 112, 11, 12, 0, 0, 1673, 0, 0), (112, .goto 7, 115, 119, 0, 0, 0, 0, 0, 0), (115, .aload_n 0, 116, 0, 0, 0, 0, 0, 0, 0), (116, .getfield 104, 119, 11, 11, 0, 0, 1672, 0, 0), (119, .isub, 120, 0, 0, 0, 0, 0, 0, 0), (120, .i2l, 121, 0, 0, 0, 0, 0, 0, 0), (121, .invokestatic 34, 124, 149, 3, 1, 0, 1194, 0, 0), (124, .ifCond .ne 5, 127, 129, 0, 0, 0, 0, 0, 0), (127, .iconst (-1), 128, 0, 0, 0, 0, 0, -1, 0), (128, .ireturn, 129, 0, 0, 0, 0, 0, 0, 0)]),
  (151, [(129, .iload_n 1, 130, 1, 0, 0, 0, 0, 0, 0), (130, .iconst 2, 131, 0, 0, 0, 0, 0, 2, 0), (131, .if_icmp .ne 10, 134, 141, 0, 0, 0, 0, 0, 0), (134, .aload_n 0, 135, 0, 0, 0, 0, 0, 0, 0), (135, .getfield 104, 138, 11, 11, 0, 0, 1672, 0, 0), (138, .goto 7, 141, 145, 0, 0, 0, 0, 0, 0), (141, .aload_n 0, 142, 0, 0, 0, 0, 0, 0, 0), (142, .getfield 101, 145, 11, 12, 0, 0, 1673, 0, 0), (145, .istore_n 3, 146, 3, 0, 0, 0, 0, 0, 0), (146, .iload_n 1, 147, 1, 0, 0, 0, 0, 0, 0), (147, .iconst 2, 148, 0, 0, 0, 0, 0, 2, 0), (148, .if_icmp .ne 11, 151, 159, 0, 0, 0, 0, 0, 0)]),
  (100000, [(151, .aload_n 0, 152, 0, 0, 0, 0, 0, 0, 0), (152, .iload_n 2, 153, 2, 0, 0, 0, 0, 0, 0), (153, .putfield 104, 156, 11, 11, 0, 0, 1672, 0, 0), (156, .goto 8, 159, 164, 0, 0, 0, 0, 0, 0), (159, .aload_n 0, 160, 0, 0, 0, 0, 0, 0, 0), (160, .iload_n 2, 161, 2, 0, 0, 0, 0, 0, 0), (161, .putfield 101, 164, 11, 12, 0, 0, 1673, 0, 0), (164, .iload_n 3, 165, 3, 0, 0, 0, 0, 0, 0), (165, .ireturn, 166, 0, 0, 0, 0, 0, 0, 0)])]
def mmX11_beam : am_M := (yX11_beam, cX11_beam, 4, some .int, 0, 0, 3, 11, [1225, 1223, 1224, 87, 1], tbX11_beam)
def tbX11_sheet : List (Nat × List am_I) := [(23, [(0, .aload_n 0, 1, 0, 0, 0, 0, 0, 0, 0), (1, .iconst 0, 2, 0, 0, 0, 0, 0, 0, 0), (2, .putfield 3, 5, 11, 0, 0, 0, 1661, 0, 0), (5, .iload_n 1, 6, 1, 0, 0, 0, 0, 0, 0), (6, .i2l, 7, 0, 0, 0, 0, 0, 0, 0), (7, .lconst 0, 8, 0, 0, 0, 0, 0, 0, 0), (8, .ldc2_w 99, 11, 0, 0, 0, 0, 1230, 0, 3), (11, .invokestatic 34, 14, 149, 3, 1, 0, 1194, 0, 0), (14, .ifCond .eq 9, 17, 23, 0, 0, 0, 0, 0, 0), (17, .iload_n 2, 18, 2, 0, 0, 0, 0, 0, 0), (18, .bipush 6, 20, 0, 0, 0, 0, 0, 6, 0), (20, .if_icmp .le 5, 23, 25, 0, 0, 0, 0, 0, 0)]),
  (41, [(23, .iconst (-1), 24, 0, 0, 0, 0, 0, -1, 0), (24, .ireturn, 25, 0, 0, 0, 0, 0, 0, 0), (25, .iload_n 1, 26, 1, 0, 0, 0, 0, 0, 0), (26, .iconst 3, 27, 0, 0, 0, 0, 0, 3, 0), (27, .if_icmp .eq 10, 30, 37, 0, 0, 0, 0, 0, 0), (30, .iload_n 2, 31, 2, 0, 0, 0, 0, 0, 0), (31, .ifCond .ge 6, 34, 37, 0, 0, 0, 0, 0, 0), (34, .bipush (-2), 36, 0, 0, 0, 0, 0, -2, 0), (36, .ireturn, 37, 0, 0, 0, 0, 0, 0, 0), (37, .iload_n 3, 38, 3, 0, 0, 0, 0, 0, 0), (38, .istore 5, 40, 5, 0, 0, 0, 0, 0, 0), (40, .iconst 0, 41, 0, 0, 0, 0, 0, 0, 0)]),
  (65, [(41, .istore 6, 43, 6, 0, 0, 0, 0, 0, 0), (43, .iconst 0, 44, 0, 0, 0, 0, 0, 0, 0), (44, .istore 7, 46, 7, 0, 0, 0, 0, 0, 0), (46, .iload 7, 48, 7, 0, 0, 0, 0, 0, 0), (48, .aload_n 0, 49, 0, 0, 0, 0, 0, 0, 0), (49, .getfield 31, 52, 11, 3, 0, 0, 1664, 0, 0), (52, .if_icmp .ge 86, 55, 138, 0, 0, 0, 0, 0, 0), (55, .iload_n 1, 56, 1, 0, 0, 0, 0, 0, 0), (56, .ifCond .ne 9, 59, 65, 0, 0, 0, 0, 0, 0), (59, .iload 5, 61, 5, 0, 0, 0, 0, 0, 0), (61, .i2b, 62, 0, 0, 0, 0, 0, 0, 0), (62, .goto 16, 65, 78, 0, 0, 0, 0, 0, 0)]),
  (87, [(65, .iload_n 1, 66, 1, 0, 0, 0, 0, 0, 0), (66, .iconst 1, 67, 0, 0, 0, 0, 0, 1, 0), (67, .if_icmp .ne 9, 70, 76, 0, 0, 0, 0, 0, 0), (70, .iload 5, 72, 5, 0, 0, 0, 0, 0, 0), (72, .i2s, 73, 0, 0, 0, 0, 0, 0, 0), (73, .goto 5, 76, 78, 0, 0, 0, 0, 0, 0), (76, .iload 5, 78, 5, 0, 0, 0, 0, 0, 0), (78, .istore 8, 80, 8, 0, 0, 0, 0, 0, 0), (80, .aload_n 0, 81, 0, 0, 0, 0, 0, 0, 0), (81, .getfield 46, 84, 11, 4, 0, 0, 1665, 0, 0), (84, .iload 7, 86, 7, 0, 0, 0, 0, 0, 0), (86, .iload_n 1, 87, 1, 0, 0, 0, 0, 0, 0)]),
  (112, [(87, .iconst 3, 88, 0, 0, 0, 0, 0, 3, 0), (88, .if_icmp .eq 9, 91, 97, 0, 0, 0, 0, 0, 0), (91, .iload 7, 93, 7, 0, 0, 0, 0, 0, 0), (93, .iload_n 2, 94, 2, 0, 0, 0, 0, 0, 0), (94, .if_icmp .lt 7, 97, 101, 0, 0, 0, 0, 0, 0), (97, .iconst 0, 98, 0, 0, 0, 0, 0, 0, 0), (98, .goto 14, 101, 112, 0, 0, 0, 0, 0, 0), (101, .iconst 0, 102, 0, 0, 0, 0, 0, 0, 0), (102, .bipush 20, 104, 0, 0, 0, 0, 0, 20, 0), (104, .iload 8, 106, 8, 0, 0, 0, 0, 0, 0), (106, .invokestatic 7, 109, 0, 0, 7, 0, 1235, 0, 0), (109, .invokestatic 13, 112, 0, 0, 6, 0, 1236, 0, 0)]),
  (132, [(112, .iastore, 113, 0, 0, 0, 0, 0, 0, 0), (113, .iload 6, 115, 6, 0, 0, 0, 0, 0, 0), (115, .aload_n 0, 116, 0, 0, 0, 0, 0, 0, 0), (116, .getfield 46, 119, 11, 4, 0, 0, 1665, 0, 0), (119, .iload 7, 121, 7, 0, 0, 0, 0, 0, 0), (121, .iaload, 122, 0, 0, 0, 0, 0, 0, 0), (122, .iadd, 123, 0, 0, 0, 0, 0, 0, 0), (123, .istore 6, 125, 6, 0, 0, 0, 0, 0, 0), (125, .iload 5, 127, 5, 0, 0, 0, 0, 0, 0), (127, .iload 4, 129, 4, 0, 0, 0, 0, 0, 0), (129, .iadd, 130, 0, 0, 0, 0, 0, 0, 0), (130, .istore 5, 132, 5, 0, 0, 0, 0, 0, 0)]),
  (100000, [(132, .iinc 7 1, 135, 7, 0, 0, 0, 0, 1, 0), (135, .goto (-89), 138, 46, 0, 0, 0, 0, 0, 0), (138, .iload_n 1, 139, 1, 0, 0, 0, 0, 0, 0), (139, .iconst 3, 140, 0, 0, 0, 0, 0, 3, 0), (140, .if_icmp .ne 8, 143, 148, 0, 0, 0, 0, 0, 0), (143, .bipush (-3), 145, 0, 0, 0, 0, 0, -3, 0), (145, .goto 5, 148, 150, 0, 0, 0, 0, 0, 0), (148, .iload 6, 150, 6, 0, 0, 0, 0, 0, 0), (150, .ireturn, 151, 0, 0, 0, 0, 0, 0, 0)])]
def mmX11_sheet : am_M := (yX11_sheet, cX11_sheet, 9, some .int, 0, 0, 5, 11, [1234, 1232, 1233, 87, 1], tbX11_sheet)
def tbX11_sign : List (Nat × List am_I) := [(19, [(0, .aload_n 0, 1, 0, 0, 0, 0, 0, 0, 0), (1, .iconst 0, 2, 0, 0, 0, 0, 0, 0, 0), (2, .putfield 3, 5, 11, 0, 0, 0, 1661, 0, 0), (5, .aload_n 0, 6, 0, 0, 0, 0, 0, 0, 0), (6, .getfield 107, 9, 11, 17, 0, 0, 1678, 0, 0), (9, .bipush 56, 11, 0, 0, 0, 0, 0, 56, 0), (11, .if_icmp .le 5, 14, 16, 0, 0, 0, 0, 0, 0), (14, .iconst (-1), 15, 0, 0, 0, 0, 0, -1, 0), (15, .ireturn, 16, 0, 0, 0, 0, 0, 0, 0), (16, .iconst 0, 17, 0, 0, 0, 0, 0, 0, 0), (17, .istore_n 2, 18, 2, 0, 0, 0, 0, 0, 0), (18, .iload_n 2, 19, 2, 0, 0, 0, 0, 0, 0)]),
  (39, [(19, .iconst 4, 20, 0, 0, 0, 0, 0, 4, 0), (20, .if_icmp .ge 33, 23, 53, 0, 0, 0, 0, 0, 0), (23, .aload_n 0, 24, 0, 0, 0, 0, 0, 0, 0), (24, .getfield 110, 27, 11, 16, 0, 0, 1677, 0, 0), (27, .aload_n 0, 28, 0, 0, 0, 0, 0, 0, 0), (28, .getfield 107, 31, 11, 17, 0, 0, 1678, 0, 0), (31, .iload_n 2, 32, 2, 0, 0, 0, 0, 0, 0), (32, .iadd, 33, 0, 0, 0, 0, 0, 0, 0), (33, .iload_n 1, 34, 1, 0, 0, 0, 0, 0, 0), (34, .bipush 24, 36, 0, 0, 0, 0, 0, 24, 0), (36, .bipush 8, 38, 0, 0, 0, 0, 0, 8, 0), (38, .iload_n 2, 39, 2, 0, 0, 0, 0, 0, 0)]),
  (59, [(39, .imul, 40, 0, 0, 0, 0, 0, 0, 0), (40, .isub, 41, 0, 0, 0, 0, 0, 0, 0), (41, .ishr, 42, 0, 0, 0, 0, 0, 0, 0), (42, .sipush 255, 45, 0, 0, 0, 0, 0, 255, 0), (45, .iand, 46, 0, 0, 0, 0, 0, 0, 0), (46, .iastore, 47, 0, 0, 0, 0, 0, 0, 0), (47, .iinc 2 1, 50, 2, 0, 0, 0, 0, 1, 0), (50, .goto (-32), 53, 18, 0, 0, 0, 0, 0, 0), (53, .aload_n 0, 54, 0, 0, 0, 0, 0, 0, 0), (54, .dup, 55, 0, 0, 0, 0, 0, 0, 0), (55, .getfield 107, 58, 11, 17, 0, 0, 1678, 0, 0), (58, .iconst 4, 59, 0, 0, 0, 0, 0, 4, 0)]),
  (100000, [(59, .iadd, 60, 0, 0, 0, 0, 0, 0, 0), (60, .putfield 107, 63, 11, 17, 0, 0, 1678, 0, 0), (63, .aload_n 0, 64, 0, 0, 0, 0, 0, 0, 0), (64, .getfield 107, 67, 11, 17, 0, 0, 1678, 0, 0), (67, .ireturn, 68, 0, 0, 0, 0, 0, 0, 0)])]
def mmX11_sign : am_M := (yX11_sign, cX11_sign, 3, some .int, 0, 0, 2, 11, [1240, 1238, 1239, 87, 1], tbX11_sign)
def tbX11_end : List (Nat × List am_I) := [(20, [(0, .aload_n 0, 1, 0, 0, 0, 0, 0, 0, 0), (1, .iconst 0, 2, 0, 0, 0, 0, 0, 0, 0), (2, .putfield 3, 5, 11, 0, 0, 0, 1661, 0, 0), (5, .iload_n 1, 6, 1, 0, 0, 0, 0, 0, 0), (6, .i2l, 7, 0, 0, 0, 0, 0, 0, 0), (7, .lconst 0, 8, 0, 0, 0, 0, 0, 0, 0), (8, .aload_n 0, 9, 0, 0, 0, 0, 0, 0, 0), (9, .getfield 107, 12, 11, 17, 0, 0, 1678, 0, 0), (12, .i2l, 13, 0, 0, 0, 0, 0, 0, 0), (13, .invokestatic 34, 16, 149, 3, 1, 0, 1194, 0, 0), (16, .ifCond .ne 5, 19, 21, 0, 0, 0, 0, 0, 0), (19, .iconst 0, 20, 0, 0, 0, 0, 0, 0, 0)]),
  (100000, [(20, .ireturn, 21, 0, 0, 0, 0, 0, 0, 0), (21, .aload_n 0, 22, 0, 0, 0, 0, 0, 0, 0), (22, .iload_n 1, 23, 1, 0, 0, 0, 0, 0, 0), (23, .putfield 107, 26, 11, 17, 0, 0, 1678, 0, 0), (26, .iconst 1, 27, 0, 0, 0, 0, 0, 1, 0), (27, .ireturn, 28, 0, 0, 0, 0, 0, 0, 0)])]
def mmX11_end : am_M := (yX11_end, cX11_end, 2, some .boolean, 0, 0, 2, 11, [1244, 1242, 1243, 87, 1], tbX11_end)
def tbX11_isDigit : List (Nat × List am_I) := [(24, [(0, .aload_n 0, 1, 0, 0, 0, 0, 0, 0, 0), (1, .getfield 113, 4, 11, 18, 0, 0, 1679, 0, 0), (4, .aload_n 0, 5, 0, 0, 0, 0, 0, 0, 0), (5, .getfield 116, 8, 11, 19, 0, 0, 1680, 0, 0), (8, .if_icmp .ge 29, 11, 37, 0, 0, 0, 0, 0, 0), (11, .aload_n 0, 12, 0, 0, 0, 0, 0, 0, 0), (12, .getfield 110, 15, 11, 16, 0, 0, 1677, 0, 0), (15, .aload_n 0, 16, 0, 0, 0, 0, 0, 0, 0), (16, .getfield 113, 19, 11, 18, 0, 0, 1679, 0, 0), (19, .iaload, 20, 0, 0, 0, 0, 0, 0, 0), (20, .i2l, 21, 0, 0, 0, 0, 0, 0, 0), (21, .ldc2_w 119, 24, 0, 0, 0, 0, 1297, 0, 48)]),
  (100000, [(24, .ldc2_w 121, 27, 0, 0, 0, 0, 1298, 0, 57), (27, .invokestatic 34, 30, 149, 3, 1, 0, 1194, 0, 0), (30, .ifCond .eq 7, 33, 37, 0, 0, 0, 0, 0, 0), (33, .iconst 1, 34, 0, 0, 0, 0, 0, 1, 0), (34, .goto 4, 37, 38, 0, 0, 0, 0, 0, 0), (37, .iconst 0, 38, 0, 0, 0, 0, 0, 0, 0), (38, .ireturn, 39, 0, 0, 0, 0, 0, 0, 0)])]
def mmX11_isDigit : am_M := (yX11_isDigit, cX11_isDigit, 1, some .boolean, 0, 0, 1, 11, [1296, 1295, 36, 87, 1], tbX11_isDigit)
def tbX11_among : List (Nat × List am_I) := [(22, [(0, .iconst 0, 1, 0, 0, 0, 0, 0, 0, 0), (1, .istore_n 2, 2, 2, 0, 0, 0, 0, 0, 0), (2, .iload_n 2, 3, 2, 0, 0, 0, 0, 0, 0), (3, .aload_n 1, 4, 1, 0, 0, 0, 0, 0, 0), (4, .invokevirtual 123, 7, 0, 0, 13, 0, 1268, 0, 0), (7, .if_icmp .ge 39, 10, 46, 0, 0, 0, 0, 0, 0), (10, .aload_n 0, 11, 0, 0, 0, 0, 0, 0, 0), (11, .getfield 113, 14, 11, 18, 0, 0, 1679, 0, 0), (14, .aload_n 0, 15, 0, 0, 0, 0, 0, 0, 0), (15, .getfield 116, 18, 11, 19, 0, 0, 1680, 0, 0), (18, .if_icmp .ge 28, 21, 46, 0, 0, 0, 0, 0, 0), (21, .aload_n 1, 22, 1, 0, 0, 0, 0, 0, 0)]),
  (46, [(22, .iload_n 2, 23, 2, 0, 0, 0, 0, 0, 0), (23, .invokevirtual 129, 26, 0, 0, 14, 0, 1269, 0, 0), (26, .aload_n 0, 27, 0, 0, 0, 0, 0, 0, 0), (27, .getfield 110, 30, 11, 16, 0, 0, 1677, 0, 0), (30, .aload_n 0, 31, 0, 0, 0, 0, 0, 0, 0), (31, .getfield 113, 34, 11, 18, 0, 0, 1679, 0, 0), (34, .iaload, 35, 0, 0, 0, 0, 0, 0, 0), (35, .if_icmp .ne 5, 38, 40, 0, 0, 0, 0, 0, 0), (38, .iload_n 2, 39, 2, 0, 0, 0, 0, 0, 0), (39, .ireturn, 40, 0, 0, 0, 0, 0, 0, 0), (40, .iinc 2 1, 43, 2, 0, 0, 0, 0, 1, 0), (43, .goto (-41), 46, 2, 0, 0, 0, 0, 0, 0)]),
  (100000, [(46, .iconst (-1), 47, 0, 0, 0, 0, 0, -1, 0), (47, .ireturn, 48, 0, 0, 0, 0, 0, 0, 0)])]
def mmX11_among : am_M := (yX11_among, cX11_among, 3, some .int, 0, 0, 2, 11, [1267, 1266, 34, 87, 1], tbX11_among)
def tbX11_marks : List (Nat × List am_I) := [(21, [(0, .aload_n 0, 1, 0, 0, 0, 0, 0, 0, 0), (1, .getfield 133, 4, 11, 13, 0, 0, 1674, 0, 0), (4, .sipush 624, 7, 0, 0, 0, 0, 0, 624, 0), (7, .aload_n 0, 8, 0, 0, 0, 0, 0, 0, 0), (8, .getfield 136, 11, 11, 14, 0, 0, 1675, 0, 0), (11, .bipush 13, 13, 0, 0, 0, 0, 0, 13, 0), (13, .iaload, 14, 0, 0, 0, 0, 0, 0, 0), (14, .iadd, 15, 0, 0, 0, 0, 0, 0, 0), (15, .iload_n 1, 16, 1, 0, 0, 0, 0, 0, 0), (16, .iastore, 17, 0, 0, 0, 0, 0, 0, 0), (17, .aload_n 0, 18, 0, 0, 0, 0, 0, 0, 0), (18, .getfield 136, 21, 11, 14, 0, 0, 1675, 0, 0)]),
  (100000, [(21, .bipush 13, 23, 0, 0, 0, 0, 0, 13, 0), (23, .dup2, 24, 0, 0, 0, 0, 0, 0, 0), (24, .iaload, 25, 0, 0, 0, 0, 0, 0, 0), (25, .iconst 1, 26, 0, 0, 0, 0, 0, 1, 0), (26, .iadd, 27, 0, 0, 0, 0, 0, 0, 0), (27, .iastore, 28, 0, 0, 0, 0, 0, 0, 0), (28, .return_, 29, 0, 0, 0, 0, 0, 0, 0)])]
def mmX11_marks : am_M := (yX11_marks, cX11_marks, 2, none, 0, 0, 2, 11, [1302, 1301, 37, 87, 1], tbX11_marks)
def tbX11_thing : List (Nat × List am_I) := [(20, [(0, .aload_n 0, 1, 0, 0, 0, 0, 0, 0, 0), (1, .invokevirtual 139, 4, 167, 1, 0, 11, 1293, 0, 0), (4, .ifCond .eq 60, 7, 64, 0, 0, 0, 0, 0, 0), (7, .iconst 0, 8, 0, 0, 0, 0, 0, 0, 0), (8, .istore_n 1, 9, 1, 0, 0, 0, 0, 0, 0), (9, .iconst 0, 10, 0, 0, 0, 0, 0, 0, 0), (10, .istore_n 2, 11, 2, 0, 0, 0, 0, 0, 0), (11, .iload_n 2, 12, 2, 0, 0, 0, 0, 0, 0), (12, .iconst 3, 13, 0, 0, 0, 0, 0, 3, 0), (13, .if_icmp .ge 44, 16, 57, 0, 0, 0, 0, 0, 0), (16, .aload_n 0, 17, 0, 0, 0, 0, 0, 0, 0), (17, .invokevirtual 139, 20, 167, 1, 0, 11, 1293, 0, 0)]),
  (40, [(20, .ifCond .eq 37, 23, 57, 0, 0, 0, 0, 0, 0), (23, .bipush 10, 25, 0, 0, 0, 0, 0, 10, 0), (25, .iload_n 1, 26, 1, 0, 0, 0, 0, 0, 0), (26, .imul, 27, 0, 0, 0, 0, 0, 0, 0), (27, .aload_n 0, 28, 0, 0, 0, 0, 0, 0, 0), (28, .getfield 110, 31, 11, 16, 0, 0, 1677, 0, 0), (31, .aload_n 0, 32, 0, 0, 0, 0, 0, 0, 0), (32, .getfield 113, 35, 11, 18, 0, 0, 1679, 0, 0), (35, .iaload, 36, 0, 0, 0, 0, 0, 0, 0), (36, .iadd, 37, 0, 0, 0, 0, 0, 0, 0), (37, .bipush 48, 39, 0, 0, 0, 0, 0, 48, 0), (39, .isub, 40, 0, 0, 0, 0, 0, 0, 0)]),
  (62, [(40, .istore_n 1, 41, 1, 0, 0, 0, 0, 0, 0), (41, .aload_n 0, 42, 0, 0, 0, 0, 0, 0, 0), (42, .dup, 43, 0, 0, 0, 0, 0, 0, 0), (43, .getfield 113, 46, 11, 18, 0, 0, 1679, 0, 0), (46, .iconst 1, 47, 0, 0, 0, 0, 0, 1, 0), (47, .iadd, 48, 0, 0, 0, 0, 0, 0, 0), (48, .putfield 113, 51, 11, 18, 0, 0, 1679, 0, 0), (51, .iinc 2 1, 54, 2, 0, 0, 0, 0, 1, 0), (54, .goto (-43), 57, 11, 0, 0, 0, 0, 0, 0), (57, .aload_n 0, 58, 0, 0, 0, 0, 0, 0, 0), (58, .iload_n 1, 59, 1, 0, 0, 0, 0, 0, 0), (59, .invokevirtual 143, 62, 169, 2, 0, 11, 1299, 0, 0)]),
  (82, [(62, .iconst 1, 63, 0, 0, 0, 0, 0, 1, 0), (63, .ireturn, 64, 0, 0, 0, 0, 0, 0, 0), (64, .aload_n 0, 65, 0, 0, 0, 0, 0, 0, 0), (65, .aload_n 0, 66, 0, 0, 0, 0, 0, 0, 0), (66, .getfield 147, 69, 11, 21, 0, 0, 1682, 0, 0), (69, .invokevirtual 151, 72, 168, 2, 0, 11, 1264, 0, 0), (72, .istore_n 1, 73, 1, 0, 0, 0, 0, 0, 0), (73, .iload_n 1, 74, 1, 0, 0, 0, 0, 0, 0), (74, .ifCond .lt 24, 77, 98, 0, 0, 0, 0, 0, 0), (77, .aload_n 0, 78, 0, 0, 0, 0, 0, 0, 0), (78, .sipush 1000, 81, 0, 0, 0, 0, 0, 1000, 0), (81, .iload_n 1, 82, 1, 0, 0, 0, 0, 0, 0)]),
  (101, [(82, .iadd, 83, 0, 0, 0, 0, 0, 0, 0), (83, .invokevirtual 143, 86, 169, 2, 0, 11, 1299, 0, 0), (86, .aload_n 0, 87, 0, 0, 0, 0, 0, 0, 0), (87, .dup, 88, 0, 0, 0, 0, 0, 0, 0), (88, .getfield 113, 91, 11, 18, 0, 0, 1679, 0, 0), (91, .iconst 1, 92, 0, 0, 0, 0, 0, 1, 0), (92, .iadd, 93, 0, 0, 0, 0, 0, 0, 0), (93, .putfield 113, 96, 11, 18, 0, 0, 1679, 0, 0), (96, .iconst 1, 97, 0, 0, 0, 0, 0, 1, 0), (97, .ireturn, 98, 0, 0, 0, 0, 0, 0, 0), (98, .aload_n 0, 99, 0, 0, 0, 0, 0, 0, 0), (99, .ldc 155, 101, 0, 1000002, 1, 0, 0, 0, 0)]),
  (123, [(101, .invokevirtual 151, 104, 168, 2, 0, 11, 1264, 0, 0), (104, .ifCond .lt 11, 107, 115, 0, 0, 0, 0, 0, 0), (107, .aload_n 0, 108, 0, 0, 0, 0, 0, 0, 0), (108, .getfield 157, 111, 11, 20, 0, 0, 1681, 0, 0), (111, .iconst 5, 112, 0, 0, 0, 0, 0, 5, 0), (112, .if_icmp .ne 5, 115, 117, 0, 0, 0, 0, 0, 0), (115, .iconst 0, 116, 0, 0, 0, 0, 0, 0, 0), (116, .ireturn, 117, 0, 0, 0, 0, 0, 0, 0), (117, .aload_n 0, 118, 0, 0, 0, 0, 0, 0, 0), (118, .dup, 119, 0, 0, 0, 0, 0, 0, 0), (119, .getfield 113, 122, 11, 18, 0, 0, 1679, 0, 0), (122, .iconst 1, 123, 0, 0, 0, 0, 0, 1, 0)]),
  (145, [(123, .iadd, 124, 0, 0, 0, 0, 0, 0, 0), (124, .putfield 113, 127, 11, 18, 0, 0, 1679, 0, 0), (127, .aload_n 0, 128, 0, 0, 0, 0, 0, 0, 0), (128, .dup, 129, 0, 0, 0, 0, 0, 0, 0), (129, .getfield 157, 132, 11, 20, 0, 0, 1681, 0, 0), (132, .iconst 1, 133, 0, 0, 0, 0, 0, 1, 0), (133, .iadd, 134, 0, 0, 0, 0, 0, 0, 0), (134, .putfield 157, 137, 11, 20, 0, 0, 1681, 0, 0), (137, .aload_n 0, 138, 0, 0, 0, 0, 0, 0, 0), (138, .iconst 0, 139, 0, 0, 0, 0, 0, 0, 0), (139, .invokevirtual 160, 142, 172, 2, 0, 11, 1255, 0, 0), (142, .ifCond .eq 12, 145, 154, 0, 0, 0, 0, 0, 0)]),
  (166, [(145, .aload_n 0, 146, 0, 0, 0, 0, 0, 0, 0), (146, .ldc 163, 148, 0, 1000003, 1, 0, 0, 0, 0), (148, .invokevirtual 151, 151, 168, 2, 0, 11, 1264, 0, 0), (151, .ifCond .ge 5, 154, 156, 0, 0, 0, 0, 0, 0), (154, .iconst 0, 155, 0, 0, 0, 0, 0, 0, 0), (155, .ireturn, 156, 0, 0, 0, 0, 0, 0, 0), (156, .aload_n 0, 157, 0, 0, 0, 0, 0, 0, 0), (157, .dup, 158, 0, 0, 0, 0, 0, 0, 0), (158, .getfield 113, 161, 11, 18, 0, 0, 1679, 0, 0), (161, .iconst 1, 162, 0, 0, 0, 0, 0, 1, 0), (162, .iadd, 163, 0, 0, 0, 0, 0, 0, 0), (163, .putfield 113, 166, 11, 18, 0, 0, 1679, 0, 0)]),
  (100000, [(166, .aload_n 0, 167, 0, 0, 0, 0, 0, 0, 0), (167, .dup, 168, 0, 0, 0, 0, 0, 0, 0), (168, .getfield 157, 171, 11, 20, 0, 0, 1681, 0, 0), (171, .iconst 1, 172, 0, 0, 0, 0, 0, 1, 0), (172, .isub, 173, 0, 0, 0, 0, 0, 0, 0), (173, .putfield 157, 176, 11, 20, 0, 0, 1681, 0, 0), (176, .iconst 1, 177, 0, 0, 0, 0, 0, 1, 0), (177, .ireturn, 178, 0, 0, 0, 0, 0, 0, 0)])]
def mmX11_thing : am_M := (yX11_thing, cX11_thing, 3, some .boolean, 0, 0, 1, 11, [1292, 1291, 35, 87, 1], tbX11_thing)
def tbX11_ahead : List (Nat × List am_I) := [(21, [(0, .aload_n 0, 1, 0, 0, 0, 0, 0, 0, 0), (1, .ldc 165, 3, 0, 1000004, 1, 0, 0, 0, 0), (3, .invokevirtual 151, 6, 168, 2, 0, 11, 1264, 0, 0), (6, .istore_n 1, 7, 1, 0, 0, 0, 0, 0, 0), (7, .iload_n 1, 8, 1, 0, 0, 0, 0, 0, 0), (8, .ifCond .ge 8, 11, 16, 0, 0, 0, 0, 0, 0), (11, .aload_n 0, 12, 0, 0, 0, 0, 0, 0, 0), (12, .invokevirtual 167, 15, 170, 1, 0, 11, 1289, 0, 0), (15, .ireturn, 16, 0, 0, 0, 0, 0, 0, 0), (16, .aload_n 0, 17, 0, 0, 0, 0, 0, 0, 0), (17, .dup, 18, 0, 0, 0, 0, 0, 0, 0), (18, .getfield 113, 21, 11, 18, 0, 0, 1679, 0, 0)]),
  (43, [(21, .iconst 1, 22, 0, 0, 0, 0, 0, 1, 0), (22, .iadd, 23, 0, 0, 0, 0, 0, 0, 0), (23, .putfield 113, 26, 11, 18, 0, 0, 1679, 0, 0), (26, .aload_n 0, 27, 0, 0, 0, 0, 0, 0, 0), (27, .invokevirtual 170, 30, 171, 1, 0, 11, 1259, 0, 0), (30, .istore_n 2, 31, 2, 0, 0, 0, 0, 0, 0), (31, .iload_n 2, 32, 2, 0, 0, 0, 0, 0, 0), (32, .ifCond .eq 22, 35, 54, 0, 0, 0, 0, 0, 0), (35, .aload_n 0, 36, 0, 0, 0, 0, 0, 0, 0), (36, .sipush 2000, 39, 0, 0, 0, 0, 0, 2000, 0), (39, .iload_n 1, 40, 1, 0, 0, 0, 0, 0, 0), (40, .ifCond .ne 8, 43, 48, 0, 0, 0, 0, 0, 0)]),
  (100000, [(43, .bipush 33, 45, 0, 0, 0, 0, 0, 33, 0), (45, .goto 5, 48, 50, 0, 0, 0, 0, 0, 0), (48, .bipush 126, 50, 0, 0, 0, 0, 0, 126, 0), (50, .iadd, 51, 0, 0, 0, 0, 0, 0, 0), (51, .invokevirtual 143, 54, 169, 2, 0, 11, 1299, 0, 0), (54, .iload_n 2, 55, 2, 0, 0, 0, 0, 0, 0), (55, .ireturn, 56, 0, 0, 0, 0, 0, 0, 0)])]
def mmX11_ahead : am_M := (yX11_ahead, cX11_ahead, 3, some .boolean, 0, 0, 1, 11, [1262, 1261, 33, 87, 1], tbX11_ahead)
def tbX11_ranked : List (Nat × List am_I) := [(21, [(0, .iload_n 1, 1, 1, 0, 0, 0, 0, 0, 0), (1, .iconst 5, 2, 0, 0, 0, 0, 0, 5, 0), (2, .if_icmp .ne 8, 5, 10, 0, 0, 0, 0, 0, 0), (5, .aload_n 0, 6, 0, 0, 0, 0, 0, 0, 0), (6, .invokevirtual 170, 9, 171, 1, 0, 11, 1259, 0, 0), (9, .ireturn, 10, 0, 0, 0, 0, 0, 0, 0), (10, .iload_n 1, 11, 1, 0, 0, 0, 0, 0, 0), (11, .ifCond .ne 8, 14, 19, 0, 0, 0, 0, 0, 0), (14, .ldc 173, 16, 0, 1000005, 1, 0, 0, 0, 0), (16, .goto 35, 19, 51, 0, 0, 0, 0, 0, 0), (19, .iload_n 1, 20, 1, 0, 0, 0, 0, 0, 0), (20, .iconst 1, 21, 0, 0, 0, 0, 0, 1, 0)]),
  (46, [(21, .if_icmp .ne 8, 24, 29, 0, 0, 0, 0, 0, 0), (24, .ldc 175, 26, 0, 1000006, 1, 0, 0, 0, 0), (26, .goto 25, 29, 51, 0, 0, 0, 0, 0, 0), (29, .iload_n 1, 30, 1, 0, 0, 0, 0, 0, 0), (30, .iconst 2, 31, 0, 0, 0, 0, 0, 2, 0), (31, .if_icmp .ne 8, 34, 39, 0, 0, 0, 0, 0, 0), (34, .ldc 177, 36, 0, 1000007, 1, 0, 0, 0, 0), (36, .goto 15, 39, 51, 0, 0, 0, 0, 0, 0), (39, .iload_n 1, 40, 1, 0, 0, 0, 0, 0, 0), (40, .iconst 3, 41, 0, 0, 0, 0, 0, 3, 0), (41, .if_icmp .ne 8, 44, 49, 0, 0, 0, 0, 0, 0), (44, .ldc 179, 46, 0, 1000008, 1, 0, 0, 0, 0)]),
  (64, [(46, .goto 5, 49, 51, 0, 0, 0, 0, 0, 0), (49, .ldc 181, 51, 0, 1000009, 1, 0, 0, 0, 0), (51, .astore_n 2, 52, 2, 0, 0, 0, 0, 0, 0), (52, .aload_n 0, 53, 0, 0, 0, 0, 0, 0, 0), (53, .iload_n 1, 54, 1, 0, 0, 0, 0, 0, 0), (54, .iconst 1, 55, 0, 0, 0, 0, 0, 1, 0), (55, .iadd, 56, 0, 0, 0, 0, 0, 0, 0), (56, .invokevirtual 160, 59, 172, 2, 0, 11, 1255, 0, 0), (59, .istore_n 3, 60, 3, 0, 0, 0, 0, 0, 0), (60, .iconst 1, 61, 0, 0, 0, 0, 0, 1, 0), (61, .istore 4, 63, 4, 0, 0, 0, 0, 0, 0), (63, .iload_n 3, 64, 3, 0, 0, 0, 0, 0, 0)]),
  (89, [(64, .ifCond .eq 74, 67, 138, 0, 0, 0, 0, 0, 0), (67, .iload 4, 69, 4, 0, 0, 0, 0, 0, 0), (69, .ifCond .eq 69, 72, 138, 0, 0, 0, 0, 0, 0), (72, .aload_n 0, 73, 0, 0, 0, 0, 0, 0, 0), (73, .aload_n 2, 74, 2, 0, 0, 0, 0, 0, 0), (74, .invokevirtual 151, 77, 168, 2, 0, 11, 1264, 0, 0), (77, .ifCond .lt 61, 80, 138, 0, 0, 0, 0, 0, 0), (80, .aload_n 0, 81, 0, 0, 0, 0, 0, 0, 0), (81, .getfield 110, 84, 11, 16, 0, 0, 1677, 0, 0), (84, .aload_n 0, 85, 0, 0, 0, 0, 0, 0, 0), (85, .getfield 113, 88, 11, 18, 0, 0, 1679, 0, 0), (88, .iaload, 89, 0, 0, 0, 0, 0, 0, 0)]),
  (108, [(89, .istore 5, 91, 5, 0, 0, 0, 0, 0, 0), (91, .aload_n 0, 92, 0, 0, 0, 0, 0, 0, 0), (92, .dup, 93, 0, 0, 0, 0, 0, 0, 0), (93, .getfield 113, 96, 11, 18, 0, 0, 1679, 0, 0), (96, .iconst 1, 97, 0, 0, 0, 0, 0, 1, 0), (97, .iadd, 98, 0, 0, 0, 0, 0, 0, 0), (98, .putfield 113, 101, 11, 18, 0, 0, 1679, 0, 0), (101, .aload_n 0, 102, 0, 0, 0, 0, 0, 0, 0), (102, .iload_n 1, 103, 1, 0, 0, 0, 0, 0, 0), (103, .iconst 1, 104, 0, 0, 0, 0, 0, 1, 0), (104, .iadd, 105, 0, 0, 0, 0, 0, 0, 0), (105, .invokevirtual 160, 108, 172, 2, 0, 11, 1255, 0, 0)]),
  (129, [(108, .istore_n 3, 109, 3, 0, 0, 0, 0, 0, 0), (109, .iload_n 3, 110, 3, 0, 0, 0, 0, 0, 0), (110, .ifCond .eq 13, 113, 123, 0, 0, 0, 0, 0, 0), (113, .aload_n 0, 114, 0, 0, 0, 0, 0, 0, 0), (114, .sipush 2000, 117, 0, 0, 0, 0, 0, 2000, 0), (117, .iload 5, 119, 5, 0, 0, 0, 0, 0, 0), (119, .iadd, 120, 0, 0, 0, 0, 0, 0, 0), (120, .invokevirtual 143, 123, 169, 2, 0, 11, 1299, 0, 0), (123, .iload_n 1, 124, 1, 0, 0, 0, 0, 0, 0), (124, .iconst 2, 125, 0, 0, 0, 0, 0, 2, 0), (125, .if_icmp .eq 7, 128, 132, 0, 0, 0, 0, 0, 0), (128, .iconst 1, 129, 0, 0, 0, 0, 0, 1, 0)]),
  (100000, [(129, .goto 4, 132, 133, 0, 0, 0, 0, 0, 0), (132, .iconst 0, 133, 0, 0, 0, 0, 0, 0, 0), (133, .istore 4, 135, 4, 0, 0, 0, 0, 0, 0), (135, .goto (-72), 138, 63, 0, 0, 0, 0, 0, 0), (138, .iload_n 3, 139, 3, 0, 0, 0, 0, 0, 0), (139, .ireturn, 140, 0, 0, 0, 0, 0, 0, 0)])]
def mmX11_ranked : am_M := (yX11_ranked, cX11_ranked, 6, some .boolean, 0, 0, 2, 11, [1258, 1257, 32, 87, 1], tbX11_ranked)
def tbX11_reads : List (Nat × List am_I) := [(20, [(0, .aload_n 0, 1, 0, 0, 0, 0, 0, 0, 0), (1, .getfield 107, 4, 11, 17, 0, 0, 1678, 0, 0), (4, .istore_n 3, 5, 3, 0, 0, 0, 0, 0, 0), (5, .aload_n 0, 6, 0, 0, 0, 0, 0, 0, 0), (6, .iconst 0, 7, 0, 0, 0, 0, 0, 0, 0), (7, .putfield 107, 10, 11, 17, 0, 0, 1678, 0, 0), (10, .aload_n 0, 11, 0, 0, 0, 0, 0, 0, 0), (11, .iconst 0, 12, 0, 0, 0, 0, 0, 0, 0), (12, .putfield 113, 15, 11, 18, 0, 0, 1679, 0, 0), (15, .aload_n 0, 16, 0, 0, 0, 0, 0, 0, 0), (16, .iconst 0, 17, 0, 0, 0, 0, 0, 0, 0), (17, .putfield 157, 20, 11, 20, 0, 0, 1681, 0, 0)]),
  (42, [(20, .aload_n 0, 21, 0, 0, 0, 0, 0, 0, 0), (21, .iload_n 3, 22, 3, 0, 0, 0, 0, 0, 0), (22, .bipush 40, 24, 0, 0, 0, 0, 0, 40, 0), (24, .invokestatic 7, 27, 0, 0, 7, 0, 1235, 0, 0), (27, .putfield 116, 30, 11, 19, 0, 0, 1680, 0, 0), (30, .aload_n 0, 31, 0, 0, 0, 0, 0, 0, 0), (31, .aload_n 2, 32, 2, 0, 0, 0, 0, 0, 0), (32, .putfield 147, 35, 11, 21, 2, 0, 1682, 0, 0), (35, .aload_n 0, 36, 0, 0, 0, 0, 0, 0, 0), (36, .getfield 136, 39, 11, 14, 0, 0, 1675, 0, 0), (39, .bipush 13, 41, 0, 0, 0, 0, 0, 13, 0), (41, .iconst 0, 42, 0, 0, 0, 0, 0, 0, 0)]),
  (63, [(42, .iastore, 43, 0, 0, 0, 0, 0, 0, 0), (43, .iload_n 1, 44, 1, 0, 0, 0, 0, 0, 0), (44, .ifCond .ge 6, 47, 50, 0, 0, 0, 0, 0, 0), (47, .bipush (-100), 49, 0, 0, 0, 0, 0, -100, 0), (49, .ireturn, 50, 0, 0, 0, 0, 0, 0, 0), (50, .iload_n 3, 51, 3, 0, 0, 0, 0, 0, 0), (51, .ifCond .eq 11, 54, 62, 0, 0, 0, 0, 0, 0), (54, .aload_n 0, 55, 0, 0, 0, 0, 0, 0, 0), (55, .iconst 0, 56, 0, 0, 0, 0, 0, 0, 0), (56, .invokevirtual 160, 59, 172, 2, 0, 11, 1255, 0, 0), (59, .ifCond .eq 7, 62, 66, 0, 0, 0, 0, 0, 0), (62, .iconst 1, 63, 0, 0, 0, 0, 0, 1, 0)]),
  (89, [(63, .goto 4, 66, 67, 0, 0, 0, 0, 0, 0), (66, .iconst 0, 67, 0, 0, 0, 0, 0, 0, 0), (67, .istore 4, 69, 4, 0, 0, 0, 0, 0, 0), (69, .iload 4, 71, 4, 0, 0, 0, 0, 0, 0), (71, .ifCond .eq 18, 74, 89, 0, 0, 0, 0, 0, 0), (74, .aload_n 0, 75, 0, 0, 0, 0, 0, 0, 0), (75, .getfield 113, 78, 11, 18, 0, 0, 1679, 0, 0), (78, .aload_n 0, 79, 0, 0, 0, 0, 0, 0, 0), (79, .getfield 116, 82, 11, 19, 0, 0, 1680, 0, 0), (82, .if_icmp .ne 7, 85, 89, 0, 0, 0, 0, 0, 0), (85, .iconst 1, 86, 0, 0, 0, 0, 0, 1, 0), (86, .goto 4, 89, 90, 0, 0, 0, 0, 0, 0)]),
  (114, [(89, .iconst 0, 90, 0, 0, 0, 0, 0, 0, 0), (90, .istore 5, 92, 5, 0, 0, 0, 0, 0, 0), (92, .iload_n 3, 93, 3, 0, 0, 0, 0, 0, 0), (93, .bipush 40, 95, 0, 0, 0, 0, 0, 40, 0), (95, .if_icmp .le 20, 98, 115, 0, 0, 0, 0, 0, 0), (98, .iload 5, 100, 5, 0, 0, 0, 0, 0, 0), (100, .ifCond .ne 12, 103, 112, 0, 0, 0, 0, 0, 0), (103, .aload_n 0, 104, 0, 0, 0, 0, 0, 0, 0), (104, .getfield 113, 107, 11, 18, 0, 0, 1679, 0, 0), (107, .bipush 40, 109, 0, 0, 0, 0, 0, 40, 0), (109, .if_icmp .lt 6, 112, 115, 0, 0, 0, 0, 0, 0), (112, .bipush (-41), 114, 0, 0, 0, 0, 0, -41, 0)]),
  (133, [(114, .ireturn, 115, 0, 0, 0, 0, 0, 0, 0), (115, .iload 5, 117, 5, 0, 0, 0, 0, 0, 0), (117, .ifCond .ne 10, 120, 127, 0, 0, 0, 0, 0, 0), (120, .iconst (-1), 121, 0, 0, 0, 0, 0, -1, 0), (121, .aload_n 0, 122, 0, 0, 0, 0, 0, 0, 0), (122, .getfield 113, 125, 11, 18, 0, 0, 1679, 0, 0), (125, .isub, 126, 0, 0, 0, 0, 0, 0, 0), (126, .ireturn, 127, 0, 0, 0, 0, 0, 0, 0), (127, .aload_n 0, 128, 0, 0, 0, 0, 0, 0, 0), (128, .getfield 136, 131, 11, 14, 0, 0, 1675, 0, 0), (131, .iload_n 1, 132, 1, 0, 0, 0, 0, 0, 0), (132, .aload_n 0, 133, 0, 0, 0, 0, 0, 0, 0)]),
  (156, [(133, .getfield 136, 136, 11, 14, 0, 0, 1675, 0, 0), (136, .bipush 13, 138, 0, 0, 0, 0, 0, 13, 0), (138, .iaload, 139, 0, 0, 0, 0, 0, 0, 0), (139, .iastore, 140, 0, 0, 0, 0, 0, 0, 0), (140, .iconst 0, 141, 0, 0, 0, 0, 0, 0, 0), (141, .istore 6, 143, 6, 0, 0, 0, 0, 0, 0), (143, .iload 6, 145, 6, 0, 0, 0, 0, 0, 0), (145, .bipush 48, 147, 0, 0, 0, 0, 0, 48, 0), (147, .if_icmp .ge 32, 150, 179, 0, 0, 0, 0, 0, 0), (150, .aload_n 0, 151, 0, 0, 0, 0, 0, 0, 0), (151, .getfield 133, 154, 11, 13, 0, 0, 1674, 0, 0), (154, .bipush 48, 156, 0, 0, 0, 0, 0, 48, 0)]),
  (176, [(156, .iload_n 1, 157, 1, 0, 0, 0, 0, 0, 0), (157, .imul, 158, 0, 0, 0, 0, 0, 0, 0), (158, .iload 6, 160, 6, 0, 0, 0, 0, 0, 0), (160, .iadd, 161, 0, 0, 0, 0, 0, 0, 0), (161, .aload_n 0, 162, 0, 0, 0, 0, 0, 0, 0), (162, .getfield 133, 165, 11, 13, 0, 0, 1674, 0, 0), (165, .sipush 624, 168, 0, 0, 0, 0, 0, 624, 0), (168, .iload 6, 170, 6, 0, 0, 0, 0, 0, 0), (170, .iadd, 171, 0, 0, 0, 0, 0, 0, 0), (171, .iaload, 172, 0, 0, 0, 0, 0, 0, 0), (172, .iastore, 173, 0, 0, 0, 0, 0, 0, 0), (173, .iinc 6 1, 176, 6, 0, 0, 0, 0, 1, 0)]),
  (100000, [(176, .goto (-33), 179, 143, 0, 0, 0, 0, 0, 0), (179, .iconst 0, 180, 0, 0, 0, 0, 0, 0, 0), (180, .ireturn, 181, 0, 0, 0, 0, 0, 0, 0)])]
def mmX11_reads : am_M := (yX11_reads, cX11_reads, 7, some .int, 0, 0, 3, 11, [1254, 1253, 31, 87, 1], tbX11_reads)
def tbX11_rule : List (Nat × List am_I) := [(22, [(0, .aload_n 0, 1, 0, 0, 0, 0, 0, 0, 0), (1, .iconst 0, 2, 0, 0, 0, 0, 0, 0, 0), (2, .putfield 3, 5, 11, 0, 0, 0, 1661, 0, 0), (5, .aload_n 0, 6, 0, 0, 0, 0, 0, 0, 0), (6, .iload_n 1, 7, 1, 0, 0, 0, 0, 0, 0), (7, .i2l, 8, 0, 0, 0, 0, 0, 0, 0), (8, .lconst 0, 9, 0, 0, 0, 0, 0, 0, 0), (9, .ldc2_w 183, 12, 0, 0, 0, 0, 1249, 0, 11), (12, .invokestatic 34, 15, 149, 3, 1, 0, 1194, 0, 0), (15, .ifCond .eq 7, 18, 22, 0, 0, 0, 0, 0, 0), (18, .iload_n 1, 19, 1, 0, 0, 0, 0, 0, 0), (19, .goto 4, 22, 23, 0, 0, 0, 0, 0, 0)]),
  (100000, [(22, .iconst (-1), 23, 0, 0, 0, 0, 0, -1, 0), (23, .ldc 185, 25, 0, 1000010, 1, 0, 0, 0, 0), (25, .invokevirtual 187, 28, 173, 3, 0, 11, 1251, 0, 0), (28, .ireturn, 29, 0, 0, 0, 0, 0, 0, 0)])]
def mmX11_rule : am_M := (yX11_rule, cX11_rule, 2, some .int, 0, 0, 2, 11, [1248, 1246, 1247, 87, 1], tbX11_rule)
def tbX11_pays : List (Nat × List am_I) := [(100000, [(0, .aload_n 0, 1, 0, 0, 0, 0, 0, 0, 0), (1, .iconst 0, 2, 0, 0, 0, 0, 0, 0, 0), (2, .putfield 3, 5, 11, 0, 0, 0, 1661, 0, 0), (5, .aload_n 0, 6, 0, 0, 0, 0, 0, 0, 0), (6, .bipush 12, 8, 0, 0, 0, 0, 0, 12, 0), (8, .ldc 191, 10, 0, 1000011, 1, 0, 0, 0, 0), (10, .invokevirtual 187, 13, 173, 3, 0, 11, 1251, 0, 0), (13, .ireturn, 14, 0, 0, 0, 0, 0, 0, 0)])]
def mmX11_pays : am_M := (yX11_pays, cX11_pays, 1, some .int, 0, 0, 1, 11, [1313, 1311, 1312, 87, 1], tbX11_pays)
def tbX11_acted : List (Nat × List am_I) := [(126, [(0, .iload_n 0, 1, 0, 0, 0, 0, 0, 0, 0), (1, .tableswitch 198 38 62 #[181, 198, 198, 198, 123, 115, 198, 119, 198, 127, 198, 198, 198, 198, 198, 198, 198, 198, 198, 198, 198, 198, 139, 167, 153], 116, 0, 0, 0, 0, 0, 0, 0), (116, .iload_n 1, 117, 1, 0, 0, 0, 0, 0, 0), (117, .iload_n 2, 118, 2, 0, 0, 0, 0, 0, 0), (118, .iadd, 119, 0, 0, 0, 0, 0, 0, 0), (119, .ireturn, 120, 0, 0, 0, 0, 0, 0, 0), (120, .iload_n 1, 121, 1, 0, 0, 0, 0, 0, 0), (121, .iload_n 2, 122, 2, 0, 0, 0, 0, 0, 0), (122, .isub, 123, 0, 0, 0, 0, 0, 0, 0), (123, .ireturn, 124, 0, 0, 0, 0, 0, 0, 0), (124, .iload_n 1, 125, 1, 0, 0, 0, 0, 0, 0), (125, .iload_n 2, 126, 2, 0, 0, 0, 0, 0, 0)]),
  (142, [(126, .imul, 127, 0, 0, 0, 0, 0, 0, 0), (127, .ireturn, 128, 0, 0, 0, 0, 0, 0, 0), (128, .iload_n 2, 129, 2, 0, 0, 0, 0, 0, 0), (129, .ifCond .ne 7, 132, 136, 0, 0, 0, 0, 0, 0), (132, .iconst 0, 133, 0, 0, 0, 0, 0, 0, 0), (133, .goto 6, 136, 139, 0, 0, 0, 0, 0, 0), (136, .iload_n 1, 137, 1, 0, 0, 0, 0, 0, 0), (137, .iload_n 2, 138, 2, 0, 0, 0, 0, 0, 0), (138, .idiv, 139, 0, 0, 0, 0, 0, 0, 0), (139, .ireturn, 140, 0, 0, 0, 0, 0, 0, 0), (140, .iload_n 1, 141, 1, 0, 0, 0, 0, 0, 0), (141, .iload_n 2, 142, 2, 0, 0, 0, 0, 0, 0)]),
  (164, [(142, .if_icmp .ge 7, 145, 149, 0, 0, 0, 0, 0, 0), (145, .iconst 1, 146, 0, 0, 0, 0, 0, 1, 0), (146, .goto 4, 149, 150, 0, 0, 0, 0, 0, 0), (149, .iconst 0, 150, 0, 0, 0, 0, 0, 0, 0), (150, .invokestatic 193, 153, 151, 1, 1, 0, 1357, 0, 0), (153, .ireturn, 154, 0, 0, 0, 0, 0, 0, 0), (154, .iload_n 1, 155, 1, 0, 0, 0, 0, 0, 0), (155, .iload_n 2, 156, 2, 0, 0, 0, 0, 0, 0), (156, .if_icmp .le 7, 159, 163, 0, 0, 0, 0, 0, 0), (159, .iconst 1, 160, 0, 0, 0, 0, 0, 1, 0), (160, .goto 4, 163, 164, 0, 0, 0, 0, 0, 0), (163, .iconst 0, 164, 0, 0, 0, 0, 0, 0, 0)]),
  (186, [(164, .invokestatic 193, 167, 151, 1, 1, 0, 1357, 0, 0), (167, .ireturn, 168, 0, 0, 0, 0, 0, 0, 0), (168, .iload_n 1, 169, 1, 0, 0, 0, 0, 0, 0), (169, .iload_n 2, 170, 2, 0, 0, 0, 0, 0, 0), (170, .if_icmp .ne 7, 173, 177, 0, 0, 0, 0, 0, 0), (173, .iconst 1, 174, 0, 0, 0, 0, 0, 1, 0), (174, .goto 4, 177, 178, 0, 0, 0, 0, 0, 0), (177, .iconst 0, 178, 0, 0, 0, 0, 0, 0, 0), (178, .invokestatic 193, 181, 151, 1, 1, 0, 1357, 0, 0), (181, .ireturn, 182, 0, 0, 0, 0, 0, 0, 0), (182, .iload_n 1, 183, 1, 0, 0, 0, 0, 0, 0), (183, .ifCond .eq 11, 186, 194, 0, 0, 0, 0, 0, 0)]),
  (208, [(186, .iload_n 2, 187, 2, 0, 0, 0, 0, 0, 0), (187, .ifCond .eq 7, 190, 194, 0, 0, 0, 0, 0, 0), (190, .iconst 1, 191, 0, 0, 0, 0, 0, 1, 0), (191, .goto 4, 194, 195, 0, 0, 0, 0, 0, 0), (194, .iconst 0, 195, 0, 0, 0, 0, 0, 0, 0), (195, .invokestatic 193, 198, 151, 1, 1, 0, 1357, 0, 0), (198, .ireturn, 199, 0, 0, 0, 0, 0, 0, 0), (199, .iload_n 1, 200, 1, 0, 0, 0, 0, 0, 0), (200, .ifCond .ne 7, 203, 207, 0, 0, 0, 0, 0, 0), (203, .iload_n 2, 204, 2, 0, 0, 0, 0, 0, 0), (204, .ifCond .eq 7, 207, 211, 0, 0, 0, 0, 0, 0), (207, .iconst 1, 208, 0, 0, 0, 0, 0, 1, 0)]),
  (100000, [(208, .goto 4, 211, 212, 0, 0, 0, 0, 0, 0), (211, .iconst 0, 212, 0, 0, 0, 0, 0, 0, 0), (212, .invokestatic 193, 215, 151, 1, 1, 0, 1357, 0, 0), (215, .ireturn, 216, 0, 0, 0, 0, 0, 0, 0)])]
def mmX11_acted : am_M := (yX11_acted, cX11_acted, 3, some .int, 0, 0, 3, 11, [1362, 1361, 0, 87, 0], tbX11_acted)
def tbX11_worked : List (Nat × List am_I) := [(16, [(0, .aload_n 0, 1, 0, 0, 0, 0, 0, 0, 0), (1, .getfield 136, 4, 11, 14, 0, 0, 1675, 0, 0), (4, .iload_n 1, 5, 1, 0, 0, 0, 0, 0, 0), (5, .iaload, 6, 0, 0, 0, 0, 0, 0, 0), (6, .ifCond .ne 5, 9, 11, 0, 0, 0, 0, 0, 0), (9, .iconst 0, 10, 0, 0, 0, 0, 0, 0, 0), (10, .ireturn, 11, 0, 0, 0, 0, 0, 0, 0), (11, .iconst 0, 12, 0, 0, 0, 0, 0, 0, 0), (12, .istore_n 2, 13, 2, 0, 0, 0, 0, 0, 0), (13, .iconst 0, 14, 0, 0, 0, 0, 0, 0, 0), (14, .istore_n 3, 15, 3, 0, 0, 0, 0, 0, 0), (15, .iload_n 3, 16, 3, 0, 0, 0, 0, 0, 0)]),
  (35, [(16, .aload_n 0, 17, 0, 0, 0, 0, 0, 0, 0), (17, .getfield 136, 20, 11, 14, 0, 0, 1675, 0, 0), (20, .iload_n 1, 21, 1, 0, 0, 0, 0, 0, 0), (21, .iaload, 22, 0, 0, 0, 0, 0, 0, 0), (22, .if_icmp .ge 166, 25, 188, 0, 0, 0, 0, 0, 0), (25, .aload_n 0, 26, 0, 0, 0, 0, 0, 0, 0), (26, .getfield 133, 29, 11, 13, 0, 0, 1674, 0, 0), (29, .bipush 48, 31, 0, 0, 0, 0, 0, 48, 0), (31, .iload_n 1, 32, 1, 0, 0, 0, 0, 0, 0), (32, .imul, 33, 0, 0, 0, 0, 0, 0, 0), (33, .iload_n 3, 34, 3, 0, 0, 0, 0, 0, 0), (34, .iadd, 35, 0, 0, 0, 0, 0, 0, 0)]),
  (61, [(35, .iaload, 36, 0, 0, 0, 0, 0, 0, 0), (36, .istore 4, 38, 4, 0, 0, 0, 0, 0, 0), (38, .iload 4, 40, 4, 0, 0, 0, 0, 0, 0), (40, .sipush 2000, 43, 0, 0, 0, 0, 0, 2000, 0), (43, .if_icmp .ge 39, 46, 82, 0, 0, 0, 0, 0, 0), (46, .aload_n 0, 47, 0, 0, 0, 0, 0, 0, 0), (47, .getfield 197, 50, 11, 15, 0, 0, 1676, 0, 0), (50, .iload_n 2, 51, 2, 0, 0, 0, 0, 0, 0), (51, .iload 4, 53, 4, 0, 0, 0, 0, 0, 0), (53, .sipush 1000, 56, 0, 0, 0, 0, 0, 1000, 0), (56, .if_icmp .ge 8, 59, 64, 0, 0, 0, 0, 0, 0), (59, .iload 4, 61, 4, 0, 0, 0, 0, 0, 0)]),
  (87, [(61, .goto 14, 64, 75, 0, 0, 0, 0, 0, 0), (64, .aload_n 0, 65, 0, 0, 0, 0, 0, 0, 0), (65, .getfield 200, 68, 11, 22, 0, 0, 1683, 0, 0), (68, .iload 4, 70, 4, 0, 0, 0, 0, 0, 0), (70, .sipush 1000, 73, 0, 0, 0, 0, 0, 1000, 0), (73, .isub, 74, 0, 0, 0, 0, 0, 0, 0), (74, .iaload, 75, 0, 0, 0, 0, 0, 0, 0), (75, .iastore, 76, 0, 0, 0, 0, 0, 0, 0), (76, .iinc 2 1, 79, 2, 0, 0, 0, 0, 1, 0), (79, .goto 103, 82, 182, 0, 0, 0, 0, 0, 0), (82, .iload 4, 84, 4, 0, 0, 0, 0, 0, 0), (84, .sipush 2033, 87, 0, 0, 0, 0, 0, 2033, 0)]),
  (105, [(87, .if_icmp .ne 33, 90, 120, 0, 0, 0, 0, 0, 0), (90, .aload_n 0, 91, 0, 0, 0, 0, 0, 0, 0), (91, .getfield 197, 94, 11, 15, 0, 0, 1676, 0, 0), (94, .iload_n 2, 95, 2, 0, 0, 0, 0, 0, 0), (95, .iconst 1, 96, 0, 0, 0, 0, 0, 1, 0), (96, .isub, 97, 0, 0, 0, 0, 0, 0, 0), (97, .aload_n 0, 98, 0, 0, 0, 0, 0, 0, 0), (98, .getfield 197, 101, 11, 15, 0, 0, 1676, 0, 0), (101, .iload_n 2, 102, 2, 0, 0, 0, 0, 0, 0), (102, .iconst 1, 103, 0, 0, 0, 0, 0, 1, 0), (103, .isub, 104, 0, 0, 0, 0, 0, 0, 0), (104, .iaload, 105, 0, 0, 0, 0, 0, 0, 0)]),
  (132, [(105, .ifCond .ne 7, 108, 112, 0, 0, 0, 0, 0, 0), (108, .iconst 1, 109, 0, 0, 0, 0, 0, 1, 0), (109, .goto 4, 112, 113, 0, 0, 0, 0, 0, 0), (112, .iconst 0, 113, 0, 0, 0, 0, 0, 0, 0), (113, .invokestatic 193, 116, 151, 1, 1, 0, 1357, 0, 0), (116, .iastore, 117, 0, 0, 0, 0, 0, 0, 0), (117, .goto 65, 120, 182, 0, 0, 0, 0, 0, 0), (120, .iload 4, 122, 4, 0, 0, 0, 0, 0, 0), (122, .sipush 2126, 125, 0, 0, 0, 0, 0, 2126, 0), (125, .if_icmp .ne 23, 128, 148, 0, 0, 0, 0, 0, 0), (128, .aload_n 0, 129, 0, 0, 0, 0, 0, 0, 0), (129, .getfield 197, 132, 11, 15, 0, 0, 1676, 0, 0)]),
  (148, [(132, .iload_n 2, 133, 2, 0, 0, 0, 0, 0, 0), (133, .iconst 1, 134, 0, 0, 0, 0, 0, 1, 0), (134, .isub, 135, 0, 0, 0, 0, 0, 0, 0), (135, .aload_n 0, 136, 0, 0, 0, 0, 0, 0, 0), (136, .getfield 197, 139, 11, 15, 0, 0, 1676, 0, 0), (139, .iload_n 2, 140, 2, 0, 0, 0, 0, 0, 0), (140, .iconst 1, 141, 0, 0, 0, 0, 0, 1, 0), (141, .isub, 142, 0, 0, 0, 0, 0, 0, 0), (142, .iaload, 143, 0, 0, 0, 0, 0, 0, 0), (143, .ineg, 144, 0, 0, 0, 0, 0, 0, 0), (144, .iastore, 145, 0, 0, 0, 0, 0, 0, 0), (145, .goto 37, 148, 182, 0, 0, 0, 0, 0, 0)]),
  (169, [(148, .iinc 2 (-1), 151, 2, 0, 0, 0, 0, -1, 0), (151, .aload_n 0, 152, 0, 0, 0, 0, 0, 0, 0), (152, .getfield 197, 155, 11, 15, 0, 0, 1676, 0, 0), (155, .iload_n 2, 156, 2, 0, 0, 0, 0, 0, 0), (156, .iconst 1, 157, 0, 0, 0, 0, 0, 1, 0), (157, .isub, 158, 0, 0, 0, 0, 0, 0, 0), (158, .iload 4, 160, 4, 0, 0, 0, 0, 0, 0), (160, .sipush 2000, 163, 0, 0, 0, 0, 0, 2000, 0), (163, .isub, 164, 0, 0, 0, 0, 0, 0, 0), (164, .aload_n 0, 165, 0, 0, 0, 0, 0, 0, 0), (165, .getfield 197, 168, 11, 15, 0, 0, 1676, 0, 0), (168, .iload_n 2, 169, 2, 0, 0, 0, 0, 0, 0)]),
  (189, [(169, .iconst 1, 170, 0, 0, 0, 0, 0, 1, 0), (170, .isub, 171, 0, 0, 0, 0, 0, 0, 0), (171, .iaload, 172, 0, 0, 0, 0, 0, 0, 0), (172, .aload_n 0, 173, 0, 0, 0, 0, 0, 0, 0), (173, .getfield 197, 176, 11, 15, 0, 0, 1676, 0, 0), (176, .iload_n 2, 177, 2, 0, 0, 0, 0, 0, 0), (177, .iaload, 178, 0, 0, 0, 0, 0, 0, 0), (178, .invokestatic 203, 181, 176, 3, 1, 0, 1360, 0, 0), (181, .iastore, 182, 0, 0, 0, 0, 0, 0, 0), (182, .iinc 3 1, 185, 3, 0, 0, 0, 0, 1, 0), (185, .goto (-170), 188, 15, 0, 0, 0, 0, 0, 0), (188, .aload_n 0, 189, 0, 0, 0, 0, 0, 0, 0)]),
  (100000, [(189, .getfield 197, 192, 11, 15, 0, 0, 1676, 0, 0), (192, .iconst 0, 193, 0, 0, 0, 0, 0, 0, 0), (193, .iaload, 194, 0, 0, 0, 0, 0, 0, 0), (194, .ireturn, 195, 0, 0, 0, 0, 0, 0, 0)])]
def mmX11_worked : am_M := (yX11_worked, cX11_worked, 5, some .int, 0, 0, 2, 11, [1356, 1355, 45, 87, 1], tbX11_worked)
def tbX11_indexOf : List (Nat × List am_I) := [(100000, [(0, .iload_n 0, 1, 0, 0, 0, 0, 0, 0, 0), (1, .bipush 6, 3, 0, 0, 0, 0, 0, 6, 0), (3, .imul, 4, 0, 0, 0, 0, 0, 0, 0), (4, .iload_n 1, 5, 1, 0, 0, 0, 0, 0, 0), (5, .iadd, 6, 0, 0, 0, 0, 0, 0, 0), (6, .sipush 200, 9, 0, 0, 0, 0, 0, 200, 0), (9, .imul, 10, 0, 0, 0, 0, 0, 0, 0), (10, .iload_n 2, 11, 2, 0, 0, 0, 0, 0, 0), (11, .iadd, 12, 0, 0, 0, 0, 0, 0, 0), (12, .ireturn, 13, 0, 0, 0, 0, 0, 0, 0)])]
def mmX11_indexOf : am_M := (yX11_indexOf, cX11_indexOf, 3, some .int, 0, 0, 3, 11, [1352, 1351, 0, 87, 0], tbX11_indexOf)
def tbX11_wasOf : List (Nat × List am_I) := [(100000, [(0, .iload_n 3, 1, 3, 0, 0, 0, 0, 0, 0), (1, .ifCond .ge 7, 4, 8, 0, 0, 0, 0, 0, 0), (4, .iconst 0, 5, 0, 0, 0, 0, 0, 0, 0), (5, .goto 14, 8, 19, 0, 0, 0, 0, 0, 0), (8, .aload_n 0, 9, 0, 0, 0, 0, 0, 0, 0), (9, .getfield 207, 12, 11, 26, 0, 0, 1687, 0, 0), (12, .iload_n 1, 13, 1, 0, 0, 0, 0, 0, 0), (13, .iload_n 2, 14, 2, 0, 0, 0, 0, 0, 0), (14, .iload_n 3, 15, 3, 0, 0, 0, 0, 0, 0), (15, .invokestatic 210, 18, 178, 3, 1, 0, 1350, 0, 0), (18, .iaload, 19, 0, 0, 0, 0, 0, 0, 0), (19, .ireturn, 20, 0, 0, 0, 0, 0, 0, 0)])]
def mmX11_wasOf : am_M := (yX11_wasOf, cX11_wasOf, 4, some .int, 0, 0, 4, 11, [1349, 1348, 44, 87, 1], tbX11_wasOf)
def tbX11_placeAt : List (Nat × List am_I) := [(100000, [(0, .iload_n 1, 1, 1, 0, 0, 0, 0, 0, 0), (1, .ifCond .ge 10, 4, 11, 0, 0, 0, 0, 0, 0), (4, .aload_n 0, 5, 0, 0, 0, 0, 0, 0, 0), (5, .getfield 86, 8, 11, 9, 0, 0, 1670, 0, 0), (8, .goto 9, 11, 17, 0, 0, 0, 0, 0, 0), (11, .aload_n 0, 12, 0, 0, 0, 0, 0, 0, 0), (12, .getfield 89, 15, 11, 25, 0, 0, 1686, 0, 0), (15, .iload_n 1, 16, 1, 0, 0, 0, 0, 0, 0), (16, .iaload, 17, 0, 0, 0, 0, 0, 0, 0), (17, .ireturn, 18, 0, 0, 0, 0, 0, 0, 0)])]
def mmX11_placeAt : am_M := (yX11_placeAt, cX11_placeAt, 2, some .int, 0, 0, 2, 11, [1334, 1333, 41, 87, 1], tbX11_placeAt)
def tbX11_lateOf : List (Nat × List am_I) := [(100000, [(0, .iconst 1, 1, 0, 0, 0, 0, 0, 1, 0), (1, .aload_n 0, 2, 0, 0, 0, 0, 0, 0, 0), (2, .getfield 46, 5, 11, 4, 0, 0, 1665, 0, 0), (5, .iload_n 1, 6, 1, 0, 0, 0, 0, 0, 0), (6, .iaload, 7, 0, 0, 0, 0, 0, 0, 0), (7, .invokestatic 13, 10, 0, 0, 6, 0, 1236, 0, 0), (10, .ireturn, 11, 0, 0, 0, 0, 0, 0, 0)])]
def mmX11_lateOf : am_M := (yX11_lateOf, cX11_lateOf, 2, some .int, 0, 0, 2, 11, [1345, 1344, 43, 87, 1], tbX11_lateOf)
def tbX11_heardBy : List (Nat × List am_I) := [(20, [(0, .iconst 0, 1, 0, 0, 0, 0, 0, 0, 0), (1, .istore_n 3, 2, 3, 0, 0, 0, 0, 0, 0), (2, .iconst 0, 3, 0, 0, 0, 0, 0, 0, 0), (3, .istore 4, 5, 4, 0, 0, 0, 0, 0, 0), (5, .iload 4, 7, 4, 0, 0, 0, 0, 0, 0), (7, .aload_n 0, 8, 0, 0, 0, 0, 0, 0, 0), (8, .getfield 31, 11, 11, 3, 0, 0, 1664, 0, 0), (11, .if_icmp .ge 44, 14, 55, 0, 0, 0, 0, 0, 0), (14, .iload_n 3, 15, 3, 0, 0, 0, 0, 0, 0), (15, .aload_n 0, 16, 0, 0, 0, 0, 0, 0, 0), (16, .getfield 76, 19, 11, 7, 0, 0, 1668, 0, 0), (19, .iload_n 1, 20, 1, 0, 0, 0, 0, 0, 0)]),
  (40, [(20, .iaload, 21, 0, 0, 0, 0, 0, 0, 0), (21, .iload 4, 23, 4, 0, 0, 0, 0, 0, 0), (23, .invokestatic 213, 26, 150, 2, 1, 0, 1339, 0, 0), (26, .ifCond .eq 20, 29, 46, 0, 0, 0, 0, 0, 0), (29, .aload_n 0, 30, 0, 0, 0, 0, 0, 0, 0), (30, .iconst 1, 31, 0, 0, 0, 0, 0, 1, 0), (31, .iload 4, 33, 4, 0, 0, 0, 0, 0, 0), (33, .iload_n 2, 34, 2, 0, 0, 0, 0, 0, 0), (34, .aload_n 0, 35, 0, 0, 0, 0, 0, 0, 0), (35, .iload_n 1, 36, 1, 0, 0, 0, 0, 0, 0), (36, .invokevirtual 216, 39, 181, 2, 0, 11, 1342, 0, 0), (39, .isub, 40, 0, 0, 0, 0, 0, 0, 0)]),
  (100000, [(40, .invokevirtual 219, 43, 179, 4, 0, 11, 1346, 0, 0), (43, .goto 4, 46, 47, 0, 0, 0, 0, 0, 0), (46, .iconst 0, 47, 0, 0, 0, 0, 0, 0, 0), (47, .iadd, 48, 0, 0, 0, 0, 0, 0, 0), (48, .istore_n 3, 49, 3, 0, 0, 0, 0, 0, 0), (49, .iinc 4 1, 52, 4, 0, 0, 0, 0, 1, 0), (52, .goto (-47), 55, 5, 0, 0, 0, 0, 0, 0), (55, .iload_n 3, 56, 3, 0, 0, 0, 0, 0, 0), (56, .ireturn, 57, 0, 0, 0, 0, 0, 0, 0)])]
def mmX11_heardBy : am_M := (yX11_heardBy, cX11_heardBy, 5, some .int, 0, 0, 3, 11, [1338, 1337, 42, 87, 1], tbX11_heardBy)
def tbX11_looks : List (Nat × List am_I) := [(18, [(0, .aload_n 0, 1, 0, 0, 0, 0, 0, 0, 0), (1, .iload_n 2, 2, 2, 0, 0, 0, 0, 0, 0), (2, .aload_n 0, 3, 0, 0, 0, 0, 0, 0, 0), (3, .getfield 50, 6, 11, 5, 0, 0, 1666, 0, 0), (6, .iload_n 1, 7, 1, 0, 0, 0, 0, 0, 0), (7, .iaload, 8, 0, 0, 0, 0, 0, 0, 0), (8, .isub, 9, 0, 0, 0, 0, 0, 0, 0), (9, .invokevirtual 222, 12, 180, 2, 0, 11, 1331, 0, 0), (12, .istore_n 3, 13, 3, 0, 0, 0, 0, 0, 0), (13, .aload_n 0, 14, 0, 0, 0, 0, 0, 0, 0), (14, .getfield 200, 17, 11, 22, 0, 0, 1683, 0, 0), (17, .iconst 0, 18, 0, 0, 0, 0, 0, 0, 0)]),
  (36, [(18, .iload_n 2, 19, 2, 0, 0, 0, 0, 0, 0), (19, .iastore, 20, 0, 0, 0, 0, 0, 0, 0), (20, .aload_n 0, 21, 0, 0, 0, 0, 0, 0, 0), (21, .getfield 200, 24, 11, 22, 0, 0, 1683, 0, 0), (24, .iconst 1, 25, 0, 0, 0, 0, 0, 1, 0), (25, .aload_n 0, 26, 0, 0, 0, 0, 0, 0, 0), (26, .getfield 96, 29, 11, 10, 0, 0, 1671, 0, 0), (29, .iastore, 30, 0, 0, 0, 0, 0, 0, 0), (30, .aload_n 0, 31, 0, 0, 0, 0, 0, 0, 0), (31, .getfield 200, 34, 11, 22, 0, 0, 1683, 0, 0), (34, .iconst 2, 35, 0, 0, 0, 0, 0, 2, 0), (35, .iload_n 3, 36, 3, 0, 0, 0, 0, 0, 0)]),
  (52, [(36, .iastore, 37, 0, 0, 0, 0, 0, 0, 0), (37, .aload_n 0, 38, 0, 0, 0, 0, 0, 0, 0), (38, .getfield 200, 41, 11, 22, 0, 0, 1683, 0, 0), (41, .iconst 3, 42, 0, 0, 0, 0, 0, 3, 0), (42, .iload_n 3, 43, 3, 0, 0, 0, 0, 0, 0), (43, .aload_n 0, 44, 0, 0, 0, 0, 0, 0, 0), (44, .iload_n 2, 45, 2, 0, 0, 0, 0, 0, 0), (45, .aload_n 0, 46, 0, 0, 0, 0, 0, 0, 0), (46, .getfield 50, 49, 11, 5, 0, 0, 1666, 0, 0), (49, .iload_n 1, 50, 1, 0, 0, 0, 0, 0, 0), (50, .iaload, 51, 0, 0, 0, 0, 0, 0, 0), (51, .isub, 52, 0, 0, 0, 0, 0, 0, 0)]),
  (70, [(52, .iconst 1, 53, 0, 0, 0, 0, 0, 1, 0), (53, .isub, 54, 0, 0, 0, 0, 0, 0, 0), (54, .invokevirtual 222, 57, 180, 2, 0, 11, 1331, 0, 0), (57, .isub, 58, 0, 0, 0, 0, 0, 0, 0), (58, .iastore, 59, 0, 0, 0, 0, 0, 0, 0), (59, .aload_n 0, 60, 0, 0, 0, 0, 0, 0, 0), (60, .getfield 200, 63, 11, 22, 0, 0, 1683, 0, 0), (63, .iconst 4, 64, 0, 0, 0, 0, 0, 4, 0), (64, .aload_n 0, 65, 0, 0, 0, 0, 0, 0, 0), (65, .iload_n 1, 66, 1, 0, 0, 0, 0, 0, 0), (66, .iload_n 2, 67, 2, 0, 0, 0, 0, 0, 0), (67, .invokevirtual 225, 70, 182, 3, 0, 11, 1335, 0, 0)]),
  (86, [(70, .iastore, 71, 0, 0, 0, 0, 0, 0, 0), (71, .aload_n 0, 72, 0, 0, 0, 0, 0, 0, 0), (72, .getfield 200, 75, 11, 22, 0, 0, 1683, 0, 0), (75, .iconst 5, 76, 0, 0, 0, 0, 0, 5, 0), (76, .aload_n 0, 77, 0, 0, 0, 0, 0, 0, 0), (77, .iconst 0, 78, 0, 0, 0, 0, 0, 0, 0), (78, .iload_n 1, 79, 1, 0, 0, 0, 0, 0, 0), (79, .iload_n 2, 80, 2, 0, 0, 0, 0, 0, 0), (80, .iconst 1, 81, 0, 0, 0, 0, 0, 1, 0), (81, .isub, 82, 0, 0, 0, 0, 0, 0, 0), (82, .invokevirtual 219, 85, 179, 4, 0, 11, 1346, 0, 0), (85, .iastore, 86, 0, 0, 0, 0, 0, 0, 0)]),
  (100000, [(86, .return_, 87, 0, 0, 0, 0, 0, 0, 0)])]
def mmX11_looks : am_M := (yX11_looks, cX11_looks, 4, none, 0, 0, 3, 11, [1330, 1329, 40, 87, 1], tbX11_looks)
def tbX11_doesNow : List (Nat × List am_I) := [(16, [(0, .aload_n 0, 1, 0, 0, 0, 0, 0, 0, 0), (1, .iload_n 1, 2, 1, 0, 0, 0, 0, 0, 0), (2, .iload_n 3, 3, 3, 0, 0, 0, 0, 0, 0), (3, .invokevirtual 228, 6, 183, 3, 0, 11, 1327, 0, 0), (6, .iload_n 2, 7, 2, 0, 0, 0, 0, 0, 0), (7, .iconst 1, 8, 0, 0, 0, 0, 0, 1, 0), (8, .if_icmp .ne 18, 11, 26, 0, 0, 0, 0, 0, 0), (11, .aload_n 0, 12, 0, 0, 0, 0, 0, 0, 0), (12, .iconst 2, 13, 0, 0, 0, 0, 0, 2, 0), (13, .iload_n 1, 14, 1, 0, 0, 0, 0, 0, 0), (14, .imul, 15, 0, 0, 0, 0, 0, 0, 0), (15, .iconst 1, 16, 0, 0, 0, 0, 0, 1, 0)]),
  (37, [(16, .iadd, 17, 0, 0, 0, 0, 0, 0, 0), (17, .invokevirtual 232, 20, 177, 2, 0, 11, 1353, 0, 0), (20, .bipush 99, 22, 0, 0, 0, 0, 0, 99, 0), (22, .invokestatic 235, 25, 152, 2, 1, 0, 1363, 0, 0), (25, .ireturn, 26, 0, 0, 0, 0, 0, 0, 0), (26, .aload_n 0, 27, 0, 0, 0, 0, 0, 0, 0), (27, .aload_n 0, 28, 0, 0, 0, 0, 0, 0, 0), (28, .getfield 238, 31, 11, 27, 0, 0, 1688, 0, 0), (31, .iload_n 1, 32, 1, 0, 0, 0, 0, 0, 0), (32, .iaload, 33, 0, 0, 0, 0, 0, 0, 0), (33, .ifCond .lt 12, 36, 45, 0, 0, 0, 0, 0, 0), (36, .aload_n 0, 37, 0, 0, 0, 0, 0, 0, 0)]),
  (100000, [(37, .getfield 238, 40, 11, 27, 0, 0, 1688, 0, 0), (40, .iload_n 1, 41, 1, 0, 0, 0, 0, 0, 0), (41, .iaload, 42, 0, 0, 0, 0, 0, 0, 0), (42, .goto 6, 45, 48, 0, 0, 0, 0, 0, 0), (45, .iconst 2, 46, 0, 0, 0, 0, 0, 2, 0), (46, .iload_n 1, 47, 1, 0, 0, 0, 0, 0, 0), (47, .imul, 48, 0, 0, 0, 0, 0, 0, 0), (48, .invokevirtual 232, 51, 177, 2, 0, 11, 1353, 0, 0), (51, .bipush 9, 53, 0, 0, 0, 0, 0, 9, 0), (53, .invokestatic 235, 56, 152, 2, 1, 0, 1363, 0, 0), (56, .ireturn, 57, 0, 0, 0, 0, 0, 0, 0)])]
def mmX11_doesNow : am_M := (yX11_doesNow, cX11_doesNow, 4, some .int, 0, 0, 4, 11, [1326, 1325, 39, 87, 1], tbX11_doesNow)
def tbX11_draws : List (Nat × List am_I) := [(22, [(0, .aload_n 0, 1, 0, 0, 0, 0, 0, 0, 0), (1, .aload_n 0, 2, 0, 0, 0, 0, 0, 0, 0), (2, .getfield 241, 5, 11, 24, 0, 0, 1685, 0, 0), (5, .ldc 244, 7, 0, 0, 0, 0, 1383, 1103515245, 0), (7, .imul, 8, 0, 0, 0, 0, 0, 0, 0), (8, .sipush 12345, 11, 0, 0, 0, 0, 0, 12345, 0), (11, .iadd, 12, 0, 0, 0, 0, 0, 0, 0), (12, .putfield 241, 15, 11, 24, 0, 0, 1685, 0, 0), (15, .aload_n 0, 16, 0, 0, 0, 0, 0, 0, 0), (16, .getfield 241, 19, 11, 24, 0, 0, 1685, 0, 0), (19, .bipush 16, 21, 0, 0, 0, 0, 0, 16, 0), (21, .iushr, 22, 0, 0, 0, 0, 0, 0, 0)]),
  (100000, [(22, .iload_n 1, 23, 1, 0, 0, 0, 0, 0, 0), (23, .irem, 24, 0, 0, 0, 0, 0, 0, 0), (24, .ireturn, 25, 0, 0, 0, 0, 0, 0, 0)])]
def mmX11_draws : am_M := (yX11_draws, cX11_draws, 2, some .int, 0, 0, 2, 11, [1382, 1381, 48, 87, 1], tbX11_draws)
def tbX11_blows : List (Nat × List am_I) := [(23, [(0, .aload_n 0, 1, 0, 0, 0, 0, 0, 0, 0), (1, .getfield 104, 4, 11, 11, 0, 0, 1672, 0, 0), (4, .ifCond .ne 12, 7, 16, 0, 0, 0, 0, 0, 0), (7, .aload_n 0, 8, 0, 0, 0, 0, 0, 0, 0), (8, .getfield 101, 11, 11, 12, 0, 0, 1673, 0, 0), (11, .ifCond .ne 5, 14, 16, 0, 0, 0, 0, 0, 0), (14, .iconst 0, 15, 0, 0, 0, 0, 0, 0, 0), (15, .ireturn, 16, 0, 0, 0, 0, 0, 0, 0), (16, .aload_n 0, 17, 0, 0, 0, 0, 0, 0, 0), (17, .bipush 10, 19, 0, 0, 0, 0, 0, 10, 0), (19, .invokevirtual 245, 22, 185, 2, 0, 11, 1379, 0, 0), (22, .istore_n 1, 23, 1, 0, 0, 0, 0, 0, 0)]),
  (46, [(23, .iload_n 1, 24, 1, 0, 0, 0, 0, 0, 0), (24, .aload_n 0, 25, 0, 0, 0, 0, 0, 0, 0), (25, .getfield 104, 28, 11, 11, 0, 0, 1672, 0, 0), (28, .if_icmp .ge 7, 31, 35, 0, 0, 0, 0, 0, 0), (31, .iconst (-1), 32, 0, 0, 0, 0, 0, -1, 0), (32, .goto 22, 35, 54, 0, 0, 0, 0, 0, 0), (35, .iload_n 1, 36, 1, 0, 0, 0, 0, 0, 0), (36, .bipush 10, 38, 0, 0, 0, 0, 0, 10, 0), (38, .aload_n 0, 39, 0, 0, 0, 0, 0, 0, 0), (39, .getfield 101, 42, 11, 12, 0, 0, 1673, 0, 0), (42, .isub, 43, 0, 0, 0, 0, 0, 0, 0), (43, .if_icmp .lt 7, 46, 50, 0, 0, 0, 0, 0, 0)]),
  (100000, [(46, .iconst 1, 47, 0, 0, 0, 0, 0, 1, 0), (47, .goto 4, 50, 51, 0, 0, 0, 0, 0, 0), (50, .iconst 0, 51, 0, 0, 0, 0, 0, 0, 0), (51, .invokestatic 193, 54, 151, 1, 1, 0, 1357, 0, 0), (54, .ireturn, 55, 0, 0, 0, 0, 0, 0, 0)])]
def mmX11_blows : am_M := (yX11_blows, cX11_blows, 2, some .int, 0, 0, 1, 11, [1378, 1377, 47, 87, 1], tbX11_blows)
def tbX11_passes : List (Nat × List am_I) := [(16, [(0, .iconst 0, 1, 0, 0, 0, 0, 0, 0, 0), (1, .istore_n 1, 2, 1, 0, 0, 0, 0, 0, 0), (2, .iconst 0, 3, 0, 0, 0, 0, 0, 0, 0), (3, .istore_n 2, 4, 2, 0, 0, 0, 0, 0, 0), (4, .iload_n 2, 5, 2, 0, 0, 0, 0, 0, 0), (5, .aload_n 0, 6, 0, 0, 0, 0, 0, 0, 0), (6, .getfield 31, 9, 11, 3, 0, 0, 1664, 0, 0), (9, .if_icmp .ge 103, 12, 112, 0, 0, 0, 0, 0, 0), (12, .aload_n 0, 13, 0, 0, 0, 0, 0, 0, 0), (13, .iload_n 2, 14, 2, 0, 0, 0, 0, 0, 0), (14, .iconst 0, 15, 0, 0, 0, 0, 0, 0, 0), (15, .aload_n 0, 16, 0, 0, 0, 0, 0, 0, 0)]),
  (38, [(16, .getfield 83, 19, 11, 23, 0, 0, 1684, 0, 0), (19, .invokevirtual 248, 22, 184, 4, 0, 11, 1323, 0, 0), (22, .istore_n 3, 23, 3, 0, 0, 0, 0, 0, 0), (23, .aload_n 0, 24, 0, 0, 0, 0, 0, 0, 0), (24, .getfield 207, 27, 11, 26, 0, 0, 1687, 0, 0), (27, .iconst 0, 28, 0, 0, 0, 0, 0, 0, 0), (28, .iload_n 2, 29, 2, 0, 0, 0, 0, 0, 0), (29, .aload_n 0, 30, 0, 0, 0, 0, 0, 0, 0), (30, .getfield 83, 33, 11, 23, 0, 0, 1684, 0, 0), (33, .invokestatic 210, 36, 178, 3, 1, 0, 1350, 0, 0), (36, .iload_n 3, 37, 3, 0, 0, 0, 0, 0, 0), (37, .iastore, 38, 0, 0, 0, 0, 0, 0, 0)]),
  (58, [(38, .aload_n 0, 39, 0, 0, 0, 0, 0, 0, 0), (39, .getfield 207, 42, 11, 26, 0, 0, 1687, 0, 0), (42, .iconst 1, 43, 0, 0, 0, 0, 0, 1, 0), (43, .iload_n 2, 44, 2, 0, 0, 0, 0, 0, 0), (44, .aload_n 0, 45, 0, 0, 0, 0, 0, 0, 0), (45, .getfield 83, 48, 11, 23, 0, 0, 1684, 0, 0), (48, .invokestatic 210, 51, 178, 3, 1, 0, 1350, 0, 0), (51, .aload_n 0, 52, 0, 0, 0, 0, 0, 0, 0), (52, .iload_n 2, 53, 2, 0, 0, 0, 0, 0, 0), (53, .iconst 1, 54, 0, 0, 0, 0, 0, 1, 0), (54, .aload_n 0, 55, 0, 0, 0, 0, 0, 0, 0), (55, .getfield 83, 58, 11, 23, 0, 0, 1684, 0, 0)]),
  (80, [(58, .invokevirtual 248, 61, 184, 4, 0, 11, 1323, 0, 0), (61, .iastore, 62, 0, 0, 0, 0, 0, 0, 0), (62, .aload_n 0, 63, 0, 0, 0, 0, 0, 0, 0), (63, .getfield 207, 66, 11, 26, 0, 0, 1687, 0, 0), (66, .iconst 2, 67, 0, 0, 0, 0, 0, 2, 0), (67, .iload_n 2, 68, 2, 0, 0, 0, 0, 0, 0), (68, .aload_n 0, 69, 0, 0, 0, 0, 0, 0, 0), (69, .getfield 83, 72, 11, 23, 0, 0, 1684, 0, 0), (72, .invokestatic 210, 75, 178, 3, 1, 0, 1350, 0, 0), (75, .aload_n 0, 76, 0, 0, 0, 0, 0, 0, 0), (76, .getfield 200, 79, 11, 22, 0, 0, 1683, 0, 0), (79, .iconst 4, 80, 0, 0, 0, 0, 0, 4, 0)]),
  (100, [(80, .iaload, 81, 0, 0, 0, 0, 0, 0, 0), (81, .iastore, 82, 0, 0, 0, 0, 0, 0, 0), (82, .aload_n 0, 83, 0, 0, 0, 0, 0, 0, 0), (83, .getfield 207, 86, 11, 26, 0, 0, 1687, 0, 0), (86, .iconst 3, 87, 0, 0, 0, 0, 0, 3, 0), (87, .iload_n 2, 88, 2, 0, 0, 0, 0, 0, 0), (88, .aload_n 0, 89, 0, 0, 0, 0, 0, 0, 0), (89, .getfield 83, 92, 11, 23, 0, 0, 1684, 0, 0), (92, .invokestatic 210, 95, 178, 3, 1, 0, 1350, 0, 0), (95, .aload_n 0, 96, 0, 0, 0, 0, 0, 0, 0), (96, .getfield 200, 99, 11, 22, 0, 0, 1683, 0, 0), (99, .iconst 2, 100, 0, 0, 0, 0, 0, 2, 0)]),
  (120, [(100, .iaload, 101, 0, 0, 0, 0, 0, 0, 0), (101, .iastore, 102, 0, 0, 0, 0, 0, 0, 0), (102, .iload_n 1, 103, 1, 0, 0, 0, 0, 0, 0), (103, .iload_n 3, 104, 3, 0, 0, 0, 0, 0, 0), (104, .iadd, 105, 0, 0, 0, 0, 0, 0, 0), (105, .istore_n 1, 106, 1, 0, 0, 0, 0, 0, 0), (106, .iinc 2 1, 109, 2, 0, 0, 0, 0, 1, 0), (109, .goto (-105), 112, 4, 0, 0, 0, 0, 0, 0), (112, .aload_n 0, 113, 0, 0, 0, 0, 0, 0, 0), (113, .getfield 89, 116, 11, 25, 0, 0, 1686, 0, 0), (116, .aload_n 0, 117, 0, 0, 0, 0, 0, 0, 0), (117, .getfield 83, 120, 11, 23, 0, 0, 1684, 0, 0)]),
  (138, [(120, .iconst 1, 121, 0, 0, 0, 0, 0, 1, 0), (121, .iadd, 122, 0, 0, 0, 0, 0, 0, 0), (122, .aload_n 0, 123, 0, 0, 0, 0, 0, 0, 0), (123, .getfield 89, 126, 11, 25, 0, 0, 1686, 0, 0), (126, .aload_n 0, 127, 0, 0, 0, 0, 0, 0, 0), (127, .getfield 83, 130, 11, 23, 0, 0, 1684, 0, 0), (130, .iaload, 131, 0, 0, 0, 0, 0, 0, 0), (131, .iload_n 1, 132, 1, 0, 0, 0, 0, 0, 0), (132, .iadd, 133, 0, 0, 0, 0, 0, 0, 0), (133, .aload_n 0, 134, 0, 0, 0, 0, 0, 0, 0), (134, .invokevirtual 251, 137, 186, 1, 0, 11, 1375, 0, 0), (137, .iadd, 138, 0, 0, 0, 0, 0, 0, 0)]),
  (100000, [(138, .sipush 999, 141, 0, 0, 0, 0, 0, 999, 0), (141, .invokestatic 235, 144, 152, 2, 1, 0, 1363, 0, 0), (144, .iastore, 145, 0, 0, 0, 0, 0, 0, 0), (145, .aload_n 0, 146, 0, 0, 0, 0, 0, 0, 0), (146, .dup, 147, 0, 0, 0, 0, 0, 0, 0), (147, .getfield 83, 150, 11, 23, 0, 0, 1684, 0, 0), (150, .iconst 1, 151, 0, 0, 0, 0, 0, 1, 0), (151, .iadd, 152, 0, 0, 0, 0, 0, 0, 0), (152, .putfield 83, 155, 11, 23, 0, 0, 1684, 0, 0), (155, .return_, 156, 0, 0, 0, 0, 0, 0, 0)])]
def mmX11_passes : am_M := (yX11_passes, cX11_passes, 4, none, 0, 0, 1, 11, [1374, 1373, 46, 87, 1], tbX11_passes)
def tbX11_does : List (Nat × List am_I) := [(20, [(0, .aload_n 0, 1, 0, 0, 0, 0, 0, 0, 0), (1, .iconst 0, 2, 0, 0, 0, 0, 0, 0, 0), (2, .putfield 3, 5, 11, 0, 0, 0, 1661, 0, 0), (5, .aload_n 0, 6, 0, 0, 0, 0, 0, 0, 0), (6, .iload_n 1, 7, 1, 0, 0, 0, 0, 0, 0), (7, .invokevirtual 38, 10, 156, 2, 0, 11, 1202, 0, 0), (10, .ifCond .eq 13, 13, 23, 0, 0, 0, 0, 0, 0), (13, .iload_n 2, 14, 2, 0, 0, 0, 0, 0, 0), (14, .i2l, 15, 0, 0, 0, 0, 0, 0, 0), (15, .lconst 0, 16, 0, 0, 0, 0, 0, 0, 0), (16, .lconst 1, 17, 0, 0, 0, 0, 0, 0, 1), (17, .invokestatic 34, 20, 149, 3, 1, 0, 1194, 0, 0)]),
  (100000, [(20, .ifCond .ne 8, 23, 28, 0, 0, 0, 0, 0, 0), (23, .aload_n 0, 24, 0, 0, 0, 0, 0, 0, 0), (24, .invokevirtual 254, 27, 148, 1, 0, 11, 1319, 0, 0), (27, .ireturn, 28, 0, 0, 0, 0, 0, 0, 0), (28, .aload_n 0, 29, 0, 0, 0, 0, 0, 0, 0), (29, .iload_n 1, 30, 1, 0, 0, 0, 0, 0, 0), (30, .iload_n 2, 31, 2, 0, 0, 0, 0, 0, 0), (31, .aload_n 0, 32, 0, 0, 0, 0, 0, 0, 0), (32, .getfield 83, 35, 11, 23, 0, 0, 1684, 0, 0), (35, .invokevirtual 248, 38, 184, 4, 0, 11, 1323, 0, 0), (38, .ireturn, 39, 0, 0, 0, 0, 0, 0, 0)])]
def mmX11_does : am_M := (yX11_does, cX11_does, 3, some .int, 0, 0, 3, 11, [1318, 1316, 1317, 87, 1], tbX11_does)
def tbX11_go : List (Nat × List am_I) := [(22, [(0, .aload_n 0, 1, 0, 0, 0, 0, 0, 0, 0), (1, .iconst 0, 2, 0, 0, 0, 0, 0, 0, 0), (2, .putfield 3, 5, 11, 0, 0, 0, 1661, 0, 0), (5, .iload_n 1, 6, 1, 0, 0, 0, 0, 0, 0), (6, .i2l, 7, 0, 0, 0, 0, 0, 0, 0), (7, .lconst 0, 8, 0, 0, 0, 0, 0, 0, 0), (8, .ldc2_w 257, 11, 0, 0, 0, 0, 1370, 0, 199), (11, .invokestatic 34, 14, 149, 3, 1, 0, 1194, 0, 0), (14, .ifCond .ne 8, 17, 22, 0, 0, 0, 0, 0, 0), (17, .aload_n 0, 18, 0, 0, 0, 0, 0, 0, 0), (18, .invokevirtual 254, 21, 148, 1, 0, 11, 1319, 0, 0), (21, .ireturn, 22, 0, 0, 0, 0, 0, 0, 0)]),
  (46, [(22, .iconst 0, 23, 0, 0, 0, 0, 0, 0, 0), (23, .istore_n 2, 24, 2, 0, 0, 0, 0, 0, 0), (24, .iload_n 2, 25, 2, 0, 0, 0, 0, 0, 0), (25, .iload_n 1, 26, 1, 0, 0, 0, 0, 0, 0), (26, .if_icmp .ge 23, 29, 49, 0, 0, 0, 0, 0, 0), (29, .aload_n 0, 30, 0, 0, 0, 0, 0, 0, 0), (30, .getfield 83, 33, 11, 23, 0, 0, 1684, 0, 0), (33, .sipush 199, 36, 0, 0, 0, 0, 0, 199, 0), (36, .if_icmp .ge 13, 39, 49, 0, 0, 0, 0, 0, 0), (39, .aload_n 0, 40, 0, 0, 0, 0, 0, 0, 0), (40, .invokevirtual 259, 43, 187, 1, 0, 11, 1371, 0, 0), (43, .iinc 2 1, 46, 2, 0, 0, 0, 0, 1, 0)]),
  (100000, [(46, .goto (-22), 49, 24, 0, 0, 0, 0, 0, 0), (49, .aload_n 0, 50, 0, 0, 0, 0, 0, 0, 0), (50, .getfield 89, 53, 11, 25, 0, 0, 1686, 0, 0), (53, .aload_n 0, 54, 0, 0, 0, 0, 0, 0, 0), (54, .getfield 83, 57, 11, 23, 0, 0, 1684, 0, 0), (57, .iaload, 58, 0, 0, 0, 0, 0, 0, 0), (58, .ireturn, 59, 0, 0, 0, 0, 0, 0, 0)])]
def mmX11_go : am_M := (yX11_go, cX11_go, 3, some .int, 0, 0, 2, 11, [1369, 1367, 1368, 87, 1], tbX11_go)
def tbX11_begins : List (Nat × List am_I) := [(18, [(0, .aload_n 0, 1, 0, 0, 0, 0, 0, 0, 0), (1, .iconst 0, 2, 0, 0, 0, 0, 0, 0, 0), (2, .putfield 83, 5, 11, 23, 0, 0, 1684, 0, 0), (5, .aload_n 0, 6, 0, 0, 0, 0, 0, 0, 0), (6, .getfield 89, 9, 11, 25, 0, 0, 1686, 0, 0), (9, .iconst 0, 10, 0, 0, 0, 0, 0, 0, 0), (10, .aload_n 0, 11, 0, 0, 0, 0, 0, 0, 0), (11, .getfield 86, 14, 11, 9, 0, 0, 1670, 0, 0), (14, .iastore, 15, 0, 0, 0, 0, 0, 0, 0), (15, .iconst 0, 16, 0, 0, 0, 0, 0, 0, 0), (16, .istore_n 1, 17, 1, 0, 0, 0, 0, 0, 0), (17, .iload_n 1, 18, 1, 0, 0, 0, 0, 0, 0)]),
  (100000, [(18, .aload_n 0, 19, 0, 0, 0, 0, 0, 0, 0), (19, .getfield 207, 22, 11, 26, 0, 0, 1687, 0, 0), (22, .arraylength, 23, 0, 0, 0, 0, 0, 0, 0), (23, .if_icmp .ge 16, 26, 39, 0, 0, 0, 0, 0, 0), (26, .aload_n 0, 27, 0, 0, 0, 0, 0, 0, 0), (27, .getfield 207, 30, 11, 26, 0, 0, 1687, 0, 0), (30, .iload_n 1, 31, 1, 0, 0, 0, 0, 0, 0), (31, .iconst 0, 32, 0, 0, 0, 0, 0, 0, 0), (32, .iastore, 33, 0, 0, 0, 0, 0, 0, 0), (33, .iinc 1 1, 36, 1, 0, 0, 0, 0, 1, 0), (36, .goto (-19), 39, 17, 0, 0, 0, 0, 0, 0), (39, .return_, 40, 0, 0, 0, 0, 0, 0, 0)])]
def mmX11_begins : am_M := (yX11_begins, cX11_begins, 2, none, 0, 0, 1, 11, [1391, 1390, 49, 87, 1], tbX11_begins)
def tbX11_begin : List (Nat × List am_I) := [(100000, [(0, .aload_n 0, 1, 0, 0, 0, 0, 0, 0, 0), (1, .iconst 0, 2, 0, 0, 0, 0, 0, 0, 0), (2, .putfield 3, 5, 11, 0, 0, 0, 1661, 0, 0), (5, .aload_n 0, 6, 0, 0, 0, 0, 0, 0, 0), (6, .invokevirtual 263, 9, 190, 1, 0, 11, 1388, 0, 0), (9, .iconst 1, 10, 0, 0, 0, 0, 0, 1, 0), (10, .ireturn, 11, 0, 0, 0, 0, 0, 0, 0)])]
def mmX11_begin : am_M := (yX11_begin, cX11_begin, 1, some .boolean, 0, 0, 1, 11, [1387, 1385, 1386, 87, 1], tbX11_begin)
def tbX11_place : List (Nat × List am_I) := [(20, [(0, .aload_n 0, 1, 0, 0, 0, 0, 0, 0, 0), (1, .iconst 0, 2, 0, 0, 0, 0, 0, 0, 0), (2, .putfield 3, 5, 11, 0, 0, 0, 1661, 0, 0), (5, .iload_n 1, 6, 1, 0, 0, 0, 0, 0, 0), (6, .i2l, 7, 0, 0, 0, 0, 0, 0, 0), (7, .lconst 0, 8, 0, 0, 0, 0, 0, 0, 0), (8, .aload_n 0, 9, 0, 0, 0, 0, 0, 0, 0), (9, .getfield 83, 12, 11, 23, 0, 0, 1684, 0, 0), (12, .i2l, 13, 0, 0, 0, 0, 0, 0, 0), (13, .invokestatic 34, 16, 149, 3, 1, 0, 1194, 0, 0), (16, .ifCond .ne 8, 19, 24, 0, 0, 0, 0, 0, 0), (19, .aload_n 0, 20, 0, 0, 0, 0, 0, 0, 0)]),
  (100000, [(20, .invokevirtual 254, 23, 148, 1, 0, 11, 1319, 0, 0), (23, .ireturn, 24, 0, 0, 0, 0, 0, 0, 0), (24, .aload_n 0, 25, 0, 0, 0, 0, 0, 0, 0), (25, .getfield 89, 28, 11, 25, 0, 0, 1686, 0, 0), (28, .iload_n 1, 29, 1, 0, 0, 0, 0, 0, 0), (29, .iaload, 30, 0, 0, 0, 0, 0, 0, 0), (30, .ireturn, 31, 0, 0, 0, 0, 0, 0, 0)])]
def mmX11_place : am_M := (yX11_place, cX11_place, 2, some .int, 0, 0, 2, 11, [1395, 1393, 1394, 87, 1], tbX11_place)
def tbX11_was : List (Nat × List am_I) := [(20, [(0, .aload_n 0, 1, 0, 0, 0, 0, 0, 0, 0), (1, .iconst 0, 2, 0, 0, 0, 0, 0, 0, 0), (2, .putfield 3, 5, 11, 0, 0, 0, 1661, 0, 0), (5, .aload_n 0, 6, 0, 0, 0, 0, 0, 0, 0), (6, .iload_n 1, 7, 1, 0, 0, 0, 0, 0, 0), (7, .invokevirtual 38, 10, 156, 2, 0, 11, 1202, 0, 0), (10, .ifCond .eq 31, 13, 41, 0, 0, 0, 0, 0, 0), (13, .iload_n 2, 14, 2, 0, 0, 0, 0, 0, 0), (14, .i2l, 15, 0, 0, 0, 0, 0, 0, 0), (15, .lconst 0, 16, 0, 0, 0, 0, 0, 0, 0), (16, .aload_n 0, 17, 0, 0, 0, 0, 0, 0, 0), (17, .getfield 83, 20, 11, 23, 0, 0, 1684, 0, 0)]),
  (42, [(20, .iconst 1, 21, 0, 0, 0, 0, 0, 1, 0), (21, .isub, 22, 0, 0, 0, 0, 0, 0, 0), (22, .i2l, 23, 0, 0, 0, 0, 0, 0, 0), (23, .invokestatic 34, 26, 149, 3, 1, 0, 1194, 0, 0), (26, .ifCond .eq 15, 29, 41, 0, 0, 0, 0, 0, 0), (29, .iload_n 3, 30, 3, 0, 0, 0, 0, 0, 0), (30, .i2l, 31, 0, 0, 0, 0, 0, 0, 0), (31, .lconst 0, 32, 0, 0, 0, 0, 0, 0, 0), (32, .ldc2_w 99, 35, 0, 0, 0, 0, 1230, 0, 3), (35, .invokestatic 34, 38, 149, 3, 1, 0, 1194, 0, 0), (38, .ifCond .ne 8, 41, 46, 0, 0, 0, 0, 0, 0), (41, .aload_n 0, 42, 0, 0, 0, 0, 0, 0, 0)]),
  (100000, [(42, .invokevirtual 254, 45, 148, 1, 0, 11, 1319, 0, 0), (45, .ireturn, 46, 0, 0, 0, 0, 0, 0, 0), (46, .aload_n 0, 47, 0, 0, 0, 0, 0, 0, 0), (47, .getfield 207, 50, 11, 26, 0, 0, 1687, 0, 0), (50, .iload_n 3, 51, 3, 0, 0, 0, 0, 0, 0), (51, .iload_n 1, 52, 1, 0, 0, 0, 0, 0, 0), (52, .iload_n 2, 53, 2, 0, 0, 0, 0, 0, 0), (53, .invokestatic 210, 56, 178, 3, 1, 0, 1350, 0, 0), (56, .iaload, 57, 0, 0, 0, 0, 0, 0, 0), (57, .ireturn, 58, 0, 0, 0, 0, 0, 0, 0)])]
def mmX11_was : am_M := (yX11_was, cX11_was, 4, some .int, 0, 0, 4, 11, [1399, 1397, 1398, 87, 1], tbX11_was)
def tbX11_costNow : List (Nat × List am_I) := [(18, [(0, .iconst 0, 1, 0, 0, 0, 0, 0, 0, 0), (1, .istore_n 1, 2, 1, 0, 0, 0, 0, 0, 0), (2, .iconst 1, 3, 0, 0, 0, 0, 0, 1, 0), (3, .istore_n 2, 4, 2, 0, 0, 0, 0, 0, 0), (4, .iload_n 2, 5, 2, 0, 0, 0, 0, 0, 0), (5, .aload_n 0, 6, 0, 0, 0, 0, 0, 0, 0), (6, .getfield 83, 9, 11, 23, 0, 0, 1684, 0, 0), (9, .if_icmp .gt 26, 12, 35, 0, 0, 0, 0, 0, 0), (12, .iload_n 1, 13, 1, 0, 0, 0, 0, 0, 0), (13, .aload_n 0, 14, 0, 0, 0, 0, 0, 0, 0), (14, .getfield 89, 17, 11, 25, 0, 0, 1686, 0, 0), (17, .iload_n 2, 18, 2, 0, 0, 0, 0, 0, 0)]),
  (100000, [(18, .iaload, 19, 0, 0, 0, 0, 0, 0, 0), (19, .aload_n 0, 20, 0, 0, 0, 0, 0, 0, 0), (20, .getfield 96, 23, 11, 10, 0, 0, 1671, 0, 0), (23, .isub, 24, 0, 0, 0, 0, 0, 0, 0), (24, .invokestatic 266, 27, 0, 0, 8, 0, 1404, 0, 0), (27, .iadd, 28, 0, 0, 0, 0, 0, 0, 0), (28, .istore_n 1, 29, 1, 0, 0, 0, 0, 0, 0), (29, .iinc 2 1, 32, 2, 0, 0, 0, 0, 1, 0), (32, .goto (-28), 35, 4, 0, 0, 0, 0, 0, 0), (35, .iload_n 1, 36, 1, 0, 0, 0, 0, 0, 0), (36, .ireturn, 37, 0, 0, 0, 0, 0, 0, 0)])]
def mmX11_costNow : am_M := (yX11_costNow, cX11_costNow, 3, some .int, 0, 0, 1, 11, [1413, 1412, 51, 87, 1], tbX11_costNow)
def tbX11_cost : List (Nat × List am_I) := [(18, [(0, .aload_n 0, 1, 0, 0, 0, 0, 0, 0, 0), (1, .iconst 0, 2, 0, 0, 0, 0, 0, 0, 0), (2, .putfield 3, 5, 11, 0, 0, 0, 1661, 0, 0), (5, .aload_n 0, 6, 0, 0, 0, 0, 0, 0, 0), (6, .getfield 83, 9, 11, 23, 0, 0, 1684, 0, 0), (9, .iconst 1, 10, 0, 0, 0, 0, 0, 1, 0), (10, .iadd, 11, 0, 0, 0, 0, 0, 0, 0), (11, .istore_n 1, 12, 1, 0, 0, 0, 0, 0, 0), (12, .iconst 0, 13, 0, 0, 0, 0, 0, 0, 0), (13, .istore_n 2, 14, 2, 0, 0, 0, 0, 0, 0), (14, .aload_n 0, 15, 0, 0, 0, 0, 0, 0, 0), (15, .getfield 83, 18, 11, 23, 0, 0, 1684, 0, 0)]),
  (38, [(18, .istore_n 3, 19, 3, 0, 0, 0, 0, 0, 0), (19, .iload_n 3, 20, 3, 0, 0, 0, 0, 0, 0), (20, .ifCond .lt 54, 23, 74, 0, 0, 0, 0, 0, 0), (23, .aload_n 0, 24, 0, 0, 0, 0, 0, 0, 0), (24, .getfield 89, 27, 11, 25, 0, 0, 1686, 0, 0), (27, .iload_n 3, 28, 3, 0, 0, 0, 0, 0, 0), (28, .iaload, 29, 0, 0, 0, 0, 0, 0, 0), (29, .aload_n 0, 30, 0, 0, 0, 0, 0, 0, 0), (30, .getfield 96, 33, 11, 10, 0, 0, 1671, 0, 0), (33, .if_icmp .ne 14, 36, 47, 0, 0, 0, 0, 0, 0), (36, .iload_n 1, 37, 1, 0, 0, 0, 0, 0, 0), (37, .iload_n 3, 38, 3, 0, 0, 0, 0, 0, 0)]),
  (56, [(38, .iconst 1, 39, 0, 0, 0, 0, 0, 1, 0), (39, .iadd, 40, 0, 0, 0, 0, 0, 0, 0), (40, .if_icmp .ne 7, 43, 47, 0, 0, 0, 0, 0, 0), (43, .iload_n 3, 44, 3, 0, 0, 0, 0, 0, 0), (44, .goto 4, 47, 48, 0, 0, 0, 0, 0, 0), (47, .iload_n 1, 48, 1, 0, 0, 0, 0, 0, 0), (48, .istore_n 1, 49, 1, 0, 0, 0, 0, 0, 0), (49, .iload_n 2, 50, 2, 0, 0, 0, 0, 0, 0), (50, .aload_n 0, 51, 0, 0, 0, 0, 0, 0, 0), (51, .getfield 89, 54, 11, 25, 0, 0, 1686, 0, 0), (54, .iload_n 3, 55, 3, 0, 0, 0, 0, 0, 0), (55, .iaload, 56, 0, 0, 0, 0, 0, 0, 0)]),
  (80, [(56, .aload_n 0, 57, 0, 0, 0, 0, 0, 0, 0), (57, .getfield 96, 60, 11, 10, 0, 0, 1671, 0, 0), (60, .isub, 61, 0, 0, 0, 0, 0, 0, 0), (61, .invokestatic 266, 64, 0, 0, 8, 0, 1404, 0, 0), (64, .invokestatic 13, 67, 0, 0, 6, 0, 1236, 0, 0), (67, .istore_n 2, 68, 2, 0, 0, 0, 0, 0, 0), (68, .iinc 3 (-1), 71, 3, 0, 0, 0, 0, -1, 0), (71, .goto (-52), 74, 19, 0, 0, 0, 0, 0, 0), (74, .aload_n 0, 75, 0, 0, 0, 0, 0, 0, 0), (75, .iconst 0, 76, 0, 0, 0, 0, 0, 0, 0), (76, .putfield 20, 79, 11, 1, 0, 0, 1662, 0, 0), (79, .aload_n 0, 80, 0, 0, 0, 0, 0, 0, 0)]),
  (102, [(80, .iload_n 1, 81, 1, 0, 0, 0, 0, 0, 0), (81, .aload_n 0, 82, 0, 0, 0, 0, 0, 0, 0), (82, .getfield 83, 85, 11, 23, 0, 0, 1684, 0, 0), (85, .if_icmp .le 9, 88, 94, 0, 0, 0, 0, 0, 0), (88, .ldc2_w 269, 91, 0, 0, 0, 0, 1405, 0, -1), (91, .goto 5, 94, 96, 0, 0, 0, 0, 0, 0), (94, .iload_n 1, 95, 1, 0, 0, 0, 0, 0, 0), (95, .i2l, 96, 0, 0, 0, 0, 0, 0, 0), (96, .invokevirtual 27, 99, 153, 2, 0, 11, 1406, 0, 0), (99, .aload_n 0, 100, 0, 0, 0, 0, 0, 0, 0), (100, .iload_n 2, 101, 2, 0, 0, 0, 0, 0, 0), (101, .i2l, 102, 0, 0, 0, 0, 0, 0, 0)]),
  (100000, [(102, .invokevirtual 27, 105, 153, 2, 0, 11, 1406, 0, 0), (105, .aload_n 0, 106, 0, 0, 0, 0, 0, 0, 0), (106, .invokevirtual 271, 109, 194, 1, 0, 11, 1410, 0, 0), (109, .ireturn, 110, 0, 0, 0, 0, 0, 0, 0)])]
def mmX11_cost : am_M := (yX11_cost, cX11_cost, 4, some .int, 0, 0, 1, 11, [1403, 1401, 1402, 87, 1], tbX11_cost)
def tbX11_crossed : List (Nat × List am_I) := [(18, [(0, .aload_n 0, 1, 0, 0, 0, 0, 0, 0, 0), (1, .iconst 0, 2, 0, 0, 0, 0, 0, 0, 0), (2, .putfield 3, 5, 11, 0, 0, 0, 1661, 0, 0), (5, .iconst 0, 6, 0, 0, 0, 0, 0, 0, 0), (6, .istore_n 1, 7, 1, 0, 0, 0, 0, 0, 0), (7, .iconst 0, 8, 0, 0, 0, 0, 0, 0, 0), (8, .istore_n 2, 9, 2, 0, 0, 0, 0, 0, 0), (9, .iload_n 2, 10, 2, 0, 0, 0, 0, 0, 0), (10, .aload_n 0, 11, 0, 0, 0, 0, 0, 0, 0), (11, .getfield 31, 14, 11, 3, 0, 0, 1664, 0, 0), (14, .if_icmp .ge 145, 17, 159, 0, 0, 0, 0, 0, 0), (17, .iconst 0, 18, 0, 0, 0, 0, 0, 0, 0)]),
  (40, [(18, .istore_n 3, 19, 3, 0, 0, 0, 0, 0, 0), (19, .iload_n 3, 20, 3, 0, 0, 0, 0, 0, 0), (20, .aload_n 0, 21, 0, 0, 0, 0, 0, 0, 0), (21, .getfield 31, 24, 11, 3, 0, 0, 1664, 0, 0), (24, .if_icmp .ge 129, 27, 153, 0, 0, 0, 0, 0, 0), (27, .iconst 0, 28, 0, 0, 0, 0, 0, 0, 0), (28, .istore 4, 30, 4, 0, 0, 0, 0, 0, 0), (30, .iload 4, 32, 4, 0, 0, 0, 0, 0, 0), (32, .aload_n 0, 33, 0, 0, 0, 0, 0, 0, 0), (33, .getfield 83, 36, 11, 23, 0, 0, 1684, 0, 0), (36, .if_icmp .ge 111, 39, 147, 0, 0, 0, 0, 0, 0), (39, .aload_n 0, 40, 0, 0, 0, 0, 0, 0, 0)]),
  (62, [(40, .getfield 76, 43, 11, 7, 0, 0, 1668, 0, 0), (43, .iload_n 2, 44, 2, 0, 0, 0, 0, 0, 0), (44, .iaload, 45, 0, 0, 0, 0, 0, 0, 0), (45, .iload_n 3, 46, 3, 0, 0, 0, 0, 0, 0), (46, .invokestatic 213, 49, 150, 2, 1, 0, 1339, 0, 0), (49, .ifCond .eq 98, 52, 147, 0, 0, 0, 0, 0, 0), (52, .iconst 0, 53, 0, 0, 0, 0, 0, 0, 0), (53, .istore 5, 55, 5, 0, 0, 0, 0, 0, 0), (55, .iload 5, 57, 5, 0, 0, 0, 0, 0, 0), (57, .aload_n 0, 58, 0, 0, 0, 0, 0, 0, 0), (58, .iload_n 3, 59, 3, 0, 0, 0, 0, 0, 0), (59, .invokevirtual 216, 62, 181, 2, 0, 11, 1342, 0, 0)]),
  (85, [(62, .if_icmp .ge 79, 65, 141, 0, 0, 0, 0, 0, 0), (65, .iload 4, 67, 4, 0, 0, 0, 0, 0, 0), (67, .iload 5, 69, 5, 0, 0, 0, 0, 0, 0), (69, .iadd, 70, 0, 0, 0, 0, 0, 0, 0), (70, .aload_n 0, 71, 0, 0, 0, 0, 0, 0, 0), (71, .getfield 83, 74, 11, 23, 0, 0, 1684, 0, 0), (74, .if_icmp .ge 67, 77, 141, 0, 0, 0, 0, 0, 0), (77, .aload_n 0, 78, 0, 0, 0, 0, 0, 0, 0), (78, .iconst 1, 79, 0, 0, 0, 0, 0, 1, 0), (79, .iload_n 2, 80, 2, 0, 0, 0, 0, 0, 0), (80, .iload 4, 82, 4, 0, 0, 0, 0, 0, 0), (82, .invokevirtual 219, 85, 179, 4, 0, 11, 1346, 0, 0)]),
  (107, [(85, .ifCond .eq 21, 88, 106, 0, 0, 0, 0, 0, 0), (88, .aload_n 0, 89, 0, 0, 0, 0, 0, 0, 0), (89, .iconst 1, 90, 0, 0, 0, 0, 0, 1, 0), (90, .iload_n 3, 91, 3, 0, 0, 0, 0, 0, 0), (91, .iload 4, 93, 4, 0, 0, 0, 0, 0, 0), (93, .iload 5, 95, 5, 0, 0, 0, 0, 0, 0), (95, .iadd, 96, 0, 0, 0, 0, 0, 0, 0), (96, .invokevirtual 219, 99, 179, 4, 0, 11, 1346, 0, 0), (99, .ifCond .eq 7, 102, 106, 0, 0, 0, 0, 0, 0), (102, .iconst 1, 103, 0, 0, 0, 0, 0, 1, 0), (103, .goto 4, 106, 107, 0, 0, 0, 0, 0, 0), (106, .iconst 0, 107, 0, 0, 0, 0, 0, 0, 0)]),
  (130, [(107, .istore 6, 109, 6, 0, 0, 0, 0, 0, 0), (109, .iload_n 1, 110, 1, 0, 0, 0, 0, 0, 0), (110, .iload 6, 112, 6, 0, 0, 0, 0, 0, 0), (112, .ifCond .eq 17, 115, 129, 0, 0, 0, 0, 0, 0), (115, .iload 5, 117, 5, 0, 0, 0, 0, 0, 0), (117, .ifCond .gt 8, 120, 125, 0, 0, 0, 0, 0, 0), (120, .iload_n 2, 121, 2, 0, 0, 0, 0, 0, 0), (121, .iload_n 3, 122, 3, 0, 0, 0, 0, 0, 0), (122, .if_icmp .ge 7, 125, 129, 0, 0, 0, 0, 0, 0), (125, .iconst 1, 126, 0, 0, 0, 0, 0, 1, 0), (126, .goto 4, 129, 130, 0, 0, 0, 0, 0, 0), (129, .iconst 0, 130, 0, 0, 0, 0, 0, 0, 0)]),
  (160, [(130, .invokestatic 193, 133, 151, 1, 1, 0, 1357, 0, 0), (133, .iadd, 134, 0, 0, 0, 0, 0, 0, 0), (134, .istore_n 1, 135, 1, 0, 0, 0, 0, 0, 0), (135, .iinc 5 1, 138, 5, 0, 0, 0, 0, 1, 0), (138, .goto (-83), 141, 55, 0, 0, 0, 0, 0, 0), (141, .iinc 4 1, 144, 4, 0, 0, 0, 0, 1, 0), (144, .goto (-114), 147, 30, 0, 0, 0, 0, 0, 0), (147, .iinc 3 1, 150, 3, 0, 0, 0, 0, 1, 0), (150, .goto (-131), 153, 19, 0, 0, 0, 0, 0, 0), (153, .iinc 2 1, 156, 2, 0, 0, 0, 0, 1, 0), (156, .goto (-147), 159, 9, 0, 0, 0, 0, 0, 0), (159, .iload_n 1, 160, 1, 0, 0, 0, 0, 0, 0)]),
  (100000, [(160, .ireturn, 161, 0, 0, 0, 0, 0, 0, 0)])]
def mmX11_crossed : am_M := (yX11_crossed, cX11_crossed, 7, some .int, 0, 0, 1, 11, [1417, 1415, 1416, 87, 1], tbX11_crossed)
def tbX11_by : List (Nat × List am_I) := [(20, [(0, .aload_n 0, 1, 0, 0, 0, 0, 0, 0, 0), (1, .iconst 0, 2, 0, 0, 0, 0, 0, 0, 0), (2, .putfield 3, 5, 11, 0, 0, 0, 1661, 0, 0), (5, .aload_n 0, 6, 0, 0, 0, 0, 0, 0, 0), (6, .iload_n 1, 7, 1, 0, 0, 0, 0, 0, 0), (7, .iload_n 2, 8, 2, 0, 0, 0, 0, 0, 0), (8, .invokevirtual 65, 11, 157, 3, 0, 11, 1215, 0, 0), (11, .ifCond .eq 15, 14, 26, 0, 0, 0, 0, 0, 0), (14, .iload_n 3, 15, 3, 0, 0, 0, 0, 0, 0), (15, .i2l, 16, 0, 0, 0, 0, 0, 0, 0), (16, .lconst 0, 17, 0, 0, 0, 0, 0, 0, 0), (17, .ldc2_w 257, 20, 0, 0, 0, 0, 1370, 0, 199)]),
  (42, [(20, .invokestatic 34, 23, 149, 3, 1, 0, 1194, 0, 0), (23, .ifCond .ne 5, 26, 28, 0, 0, 0, 0, 0, 0), (26, .iconst (-1), 27, 0, 0, 0, 0, 0, -1, 0), (27, .ireturn, 28, 0, 0, 0, 0, 0, 0, 0), (28, .iload_n 3, 29, 3, 0, 0, 0, 0, 0, 0), (29, .aload_n 0, 30, 0, 0, 0, 0, 0, 0, 0), (30, .iload_n 2, 31, 2, 0, 0, 0, 0, 0, 0), (31, .invokevirtual 216, 34, 181, 2, 0, 11, 1342, 0, 0), (34, .isub, 35, 0, 0, 0, 0, 0, 0, 0), (35, .istore 4, 37, 4, 0, 0, 0, 0, 0, 0), (37, .iload 4, 39, 4, 0, 0, 0, 0, 0, 0), (39, .ifCond .lt 16, 42, 55, 0, 0, 0, 0, 0, 0)]),
  (100000, [(42, .aload_n 0, 43, 0, 0, 0, 0, 0, 0, 0), (43, .getfield 76, 46, 11, 7, 0, 0, 1668, 0, 0), (46, .iload_n 1, 47, 1, 0, 0, 0, 0, 0, 0), (47, .iaload, 48, 0, 0, 0, 0, 0, 0, 0), (48, .iload_n 2, 49, 2, 0, 0, 0, 0, 0, 0), (49, .invokestatic 213, 52, 150, 2, 1, 0, 1339, 0, 0), (52, .ifCond .ne 8, 55, 60, 0, 0, 0, 0, 0, 0), (55, .bipush (-2), 57, 0, 0, 0, 0, 0, -2, 0), (57, .goto 5, 60, 62, 0, 0, 0, 0, 0, 0), (60, .iload 4, 62, 4, 0, 0, 0, 0, 0, 0), (62, .ireturn, 63, 0, 0, 0, 0, 0, 0, 0)])]
def mmX11_by : am_M := (yX11_by, cX11_by, 5, some .int, 0, 0, 4, 11, [1421, 1419, 1420, 87, 1], tbX11_by)
def tbX11_putsBy : List (Nat × List am_I) := [(20, [(0, .iconst 0, 1, 0, 0, 0, 0, 0, 0, 0), (1, .istore_n 1, 2, 1, 0, 0, 0, 0, 0, 0), (2, .iload_n 1, 3, 1, 0, 0, 0, 0, 0, 0), (3, .aload_n 0, 4, 0, 0, 0, 0, 0, 0, 0), (4, .getfield 207, 7, 11, 26, 0, 0, 1687, 0, 0), (7, .arraylength, 8, 0, 0, 0, 0, 0, 0, 0), (8, .if_icmp .ge 21, 11, 29, 0, 0, 0, 0, 0, 0), (11, .aload_n 0, 12, 0, 0, 0, 0, 0, 0, 0), (12, .getfield 274, 15, 11, 28, 0, 0, 1689, 0, 0), (15, .iload_n 1, 16, 1, 0, 0, 0, 0, 0, 0), (16, .aload_n 0, 17, 0, 0, 0, 0, 0, 0, 0), (17, .getfield 207, 20, 11, 26, 0, 0, 1687, 0, 0)]),
  (42, [(20, .iload_n 1, 21, 1, 0, 0, 0, 0, 0, 0), (21, .iaload, 22, 0, 0, 0, 0, 0, 0, 0), (22, .iastore, 23, 0, 0, 0, 0, 0, 0, 0), (23, .iinc 1 1, 26, 1, 0, 0, 0, 0, 1, 0), (26, .goto (-24), 29, 2, 0, 0, 0, 0, 0, 0), (29, .iconst 0, 30, 0, 0, 0, 0, 0, 0, 0), (30, .istore_n 1, 31, 1, 0, 0, 0, 0, 0, 0), (31, .iload_n 1, 32, 1, 0, 0, 0, 0, 0, 0), (32, .sipush 200, 35, 0, 0, 0, 0, 0, 200, 0), (35, .if_icmp .gt 21, 38, 56, 0, 0, 0, 0, 0, 0), (38, .aload_n 0, 39, 0, 0, 0, 0, 0, 0, 0), (39, .getfield 277, 42, 11, 29, 0, 0, 1690, 0, 0)]),
  (64, [(42, .iload_n 1, 43, 1, 0, 0, 0, 0, 0, 0), (43, .aload_n 0, 44, 0, 0, 0, 0, 0, 0, 0), (44, .getfield 89, 47, 11, 25, 0, 0, 1686, 0, 0), (47, .iload_n 1, 48, 1, 0, 0, 0, 0, 0, 0), (48, .iaload, 49, 0, 0, 0, 0, 0, 0, 0), (49, .iastore, 50, 0, 0, 0, 0, 0, 0, 0), (50, .iinc 1 1, 53, 1, 0, 0, 0, 0, 1, 0), (53, .goto (-22), 56, 31, 0, 0, 0, 0, 0, 0), (56, .aload_n 0, 57, 0, 0, 0, 0, 0, 0, 0), (57, .aload_n 0, 58, 0, 0, 0, 0, 0, 0, 0), (58, .getfield 83, 61, 11, 23, 0, 0, 1684, 0, 0), (61, .putfield 280, 64, 11, 30, 0, 0, 1691, 0, 0)]),
  (100000, [(64, .aload_n 0, 65, 0, 0, 0, 0, 0, 0, 0), (65, .aload_n 0, 66, 0, 0, 0, 0, 0, 0, 0), (66, .getfield 241, 69, 11, 24, 0, 0, 1685, 0, 0), (69, .putfield 283, 72, 11, 31, 0, 0, 1692, 0, 0), (72, .return_, 73, 0, 0, 0, 0, 0, 0, 0)])]
def mmX11_putsBy : am_M := (yX11_putsBy, cX11_putsBy, 2, none, 0, 0, 1, 11, [1433, 1432, 53, 87, 1], tbX11_putsBy)
def tbX11_takesBack : List (Nat × List am_I) := [(20, [(0, .iconst 0, 1, 0, 0, 0, 0, 0, 0, 0), (1, .istore_n 1, 2, 1, 0, 0, 0, 0, 0, 0), (2, .iload_n 1, 3, 1, 0, 0, 0, 0, 0, 0), (3, .aload_n 0, 4, 0, 0, 0, 0, 0, 0, 0), (4, .getfield 207, 7, 11, 26, 0, 0, 1687, 0, 0), (7, .arraylength, 8, 0, 0, 0, 0, 0, 0, 0), (8, .if_icmp .ge 21, 11, 29, 0, 0, 0, 0, 0, 0), (11, .aload_n 0, 12, 0, 0, 0, 0, 0, 0, 0), (12, .getfield 207, 15, 11, 26, 0, 0, 1687, 0, 0), (15, .iload_n 1, 16, 1, 0, 0, 0, 0, 0, 0), (16, .aload_n 0, 17, 0, 0, 0, 0, 0, 0, 0), (17, .getfield 274, 20, 11, 28, 0, 0, 1689, 0, 0)]),
  (42, [(20, .iload_n 1, 21, 1, 0, 0, 0, 0, 0, 0), (21, .iaload, 22, 0, 0, 0, 0, 0, 0, 0), (22, .iastore, 23, 0, 0, 0, 0, 0, 0, 0), (23, .iinc 1 1, 26, 1, 0, 0, 0, 0, 1, 0), (26, .goto (-24), 29, 2, 0, 0, 0, 0, 0, 0), (29, .iconst 0, 30, 0, 0, 0, 0, 0, 0, 0), (30, .istore_n 1, 31, 1, 0, 0, 0, 0, 0, 0), (31, .iload_n 1, 32, 1, 0, 0, 0, 0, 0, 0), (32, .sipush 200, 35, 0, 0, 0, 0, 0, 200, 0), (35, .if_icmp .gt 21, 38, 56, 0, 0, 0, 0, 0, 0), (38, .aload_n 0, 39, 0, 0, 0, 0, 0, 0, 0), (39, .getfield 89, 42, 11, 25, 0, 0, 1686, 0, 0)]),
  (64, [(42, .iload_n 1, 43, 1, 0, 0, 0, 0, 0, 0), (43, .aload_n 0, 44, 0, 0, 0, 0, 0, 0, 0), (44, .getfield 277, 47, 11, 29, 0, 0, 1690, 0, 0), (47, .iload_n 1, 48, 1, 0, 0, 0, 0, 0, 0), (48, .iaload, 49, 0, 0, 0, 0, 0, 0, 0), (49, .iastore, 50, 0, 0, 0, 0, 0, 0, 0), (50, .iinc 1 1, 53, 1, 0, 0, 0, 0, 1, 0), (53, .goto (-22), 56, 31, 0, 0, 0, 0, 0, 0), (56, .aload_n 0, 57, 0, 0, 0, 0, 0, 0, 0), (57, .aload_n 0, 58, 0, 0, 0, 0, 0, 0, 0), (58, .getfield 280, 61, 11, 30, 0, 0, 1691, 0, 0), (61, .putfield 83, 64, 11, 23, 0, 0, 1684, 0, 0)]),
  (100000, [(64, .aload_n 0, 65, 0, 0, 0, 0, 0, 0, 0), (65, .aload_n 0, 66, 0, 0, 0, 0, 0, 0, 0), (66, .getfield 283, 69, 11, 31, 0, 0, 1692, 0, 0), (69, .putfield 241, 72, 11, 24, 0, 0, 1685, 0, 0), (72, .return_, 73, 0, 0, 0, 0, 0, 0, 0)])]
def mmX11_takesBack : am_M := (yX11_takesBack, cX11_takesBack, 2, none, 0, 0, 1, 11, [1437, 1436, 54, 87, 1], tbX11_takesBack)
def tbX11_costs : List (Nat × List am_I) := [(20, [(0, .aload_n 0, 1, 0, 0, 0, 0, 0, 0, 0), (1, .invokevirtual 286, 4, 198, 1, 0, 11, 1430, 0, 0), (4, .aload_n 0, 5, 0, 0, 0, 0, 0, 0, 0), (5, .invokevirtual 263, 8, 190, 1, 0, 11, 1388, 0, 0), (8, .aload_n 0, 9, 0, 0, 0, 0, 0, 0, 0), (9, .iload_n 2, 10, 2, 0, 0, 0, 0, 0, 0), (10, .putfield 241, 13, 11, 24, 0, 0, 1685, 0, 0), (13, .iconst 0, 14, 0, 0, 0, 0, 0, 0, 0), (14, .istore_n 3, 15, 3, 0, 0, 0, 0, 0, 0), (15, .iload_n 3, 16, 3, 0, 0, 0, 0, 0, 0), (16, .iload_n 1, 17, 1, 0, 0, 0, 0, 0, 0), (17, .if_icmp .ge 13, 20, 30, 0, 0, 0, 0, 0, 0)]),
  (44, [(20, .aload_n 0, 21, 0, 0, 0, 0, 0, 0, 0), (21, .invokevirtual 259, 24, 187, 1, 0, 11, 1371, 0, 0), (24, .iinc 3 1, 27, 3, 0, 0, 0, 0, 1, 0), (27, .goto (-12), 30, 15, 0, 0, 0, 0, 0, 0), (30, .aload_n 0, 31, 0, 0, 0, 0, 0, 0, 0), (31, .invokevirtual 271, 34, 194, 1, 0, 11, 1410, 0, 0), (34, .istore_n 3, 35, 3, 0, 0, 0, 0, 0, 0), (35, .aload_n 0, 36, 0, 0, 0, 0, 0, 0, 0), (36, .aload_n 0, 37, 0, 0, 0, 0, 0, 0, 0), (37, .getfield 89, 40, 11, 25, 0, 0, 1686, 0, 0), (40, .aload_n 0, 41, 0, 0, 0, 0, 0, 0, 0), (41, .getfield 83, 44, 11, 23, 0, 0, 1684, 0, 0)]),
  (100000, [(44, .iaload, 45, 0, 0, 0, 0, 0, 0, 0), (45, .putfield 289, 48, 11, 32, 0, 0, 1693, 0, 0), (48, .aload_n 0, 49, 0, 0, 0, 0, 0, 0, 0), (49, .invokevirtual 292, 52, 199, 1, 0, 11, 1434, 0, 0), (52, .iload_n 3, 53, 3, 0, 0, 0, 0, 0, 0), (53, .ireturn, 54, 0, 0, 0, 0, 0, 0, 0)])]
def mmX11_costs : am_M := (yX11_costs, cX11_costs, 4, some .int, 0, 0, 3, 11, [1429, 1428, 52, 87, 1], tbX11_costs)
def tbX11_would : List (Nat × List am_I) := [(20, [(0, .aload_n 0, 1, 0, 0, 0, 0, 0, 0, 0), (1, .iconst 0, 2, 0, 0, 0, 0, 0, 0, 0), (2, .putfield 3, 5, 11, 0, 0, 0, 1661, 0, 0), (5, .iload_n 1, 6, 1, 0, 0, 0, 0, 0, 0), (6, .i2l, 7, 0, 0, 0, 0, 0, 0, 0), (7, .lconst 1, 8, 0, 0, 0, 0, 0, 0, 1), (8, .ldc2_w 257, 11, 0, 0, 0, 0, 1370, 0, 199), (11, .invokestatic 34, 14, 149, 3, 1, 0, 1194, 0, 0), (14, .ifCond .ne 5, 17, 19, 0, 0, 0, 0, 0, 0), (17, .iconst (-1), 18, 0, 0, 0, 0, 0, -1, 0), (18, .ireturn, 19, 0, 0, 0, 0, 0, 0, 0), (19, .aload_n 0, 20, 0, 0, 0, 0, 0, 0, 0)]),
  (40, [(20, .iload_n 1, 21, 1, 0, 0, 0, 0, 0, 0), (21, .iload_n 2, 22, 2, 0, 0, 0, 0, 0, 0), (22, .invokevirtual 295, 25, 200, 3, 0, 11, 1426, 0, 0), (25, .istore_n 3, 26, 3, 0, 0, 0, 0, 0, 0), (26, .aload_n 0, 27, 0, 0, 0, 0, 0, 0, 0), (27, .iconst 0, 28, 0, 0, 0, 0, 0, 0, 0), (28, .putfield 20, 31, 11, 1, 0, 0, 1662, 0, 0), (31, .aload_n 0, 32, 0, 0, 0, 0, 0, 0, 0), (32, .aload_n 0, 33, 0, 0, 0, 0, 0, 0, 0), (33, .getfield 289, 36, 11, 32, 0, 0, 1693, 0, 0), (36, .i2l, 37, 0, 0, 0, 0, 0, 0, 0), (37, .invokevirtual 27, 40, 153, 2, 0, 11, 1406, 0, 0)]),
  (100000, [(40, .iload_n 3, 41, 3, 0, 0, 0, 0, 0, 0), (41, .ireturn, 42, 0, 0, 0, 0, 0, 0, 0)])]
def mmX11_would : am_M := (yX11_would, cX11_would, 4, some .int, 0, 0, 3, 11, [1425, 1423, 1424, 87, 1], tbX11_would)
def tbX11_rules : List (Nat × List am_I) := [(22, [(0, .aload_n 0, 1, 0, 0, 0, 0, 0, 0, 0), (1, .iconst 0, 2, 0, 0, 0, 0, 0, 0, 0), (2, .putfield 3, 5, 11, 0, 0, 0, 1661, 0, 0), (5, .aload_n 0, 6, 0, 0, 0, 0, 0, 0, 0), (6, .iload_n 1, 7, 1, 0, 0, 0, 0, 0, 0), (7, .invokevirtual 38, 10, 156, 2, 0, 11, 1202, 0, 0), (10, .ifCond .eq 41, 13, 51, 0, 0, 0, 0, 0, 0), (13, .iload_n 2, 14, 2, 0, 0, 0, 0, 0, 0), (14, .i2l, 15, 0, 0, 0, 0, 0, 0, 0), (15, .lconst 0, 16, 0, 0, 0, 0, 0, 0, 0), (16, .ldc2_w 183, 19, 0, 0, 0, 0, 1249, 0, 11), (19, .invokestatic 34, 22, 149, 3, 1, 0, 1194, 0, 0)]),
  (45, [(22, .ifCond .eq 29, 25, 51, 0, 0, 0, 0, 0, 0), (25, .iload_n 3, 26, 3, 0, 0, 0, 0, 0, 0), (26, .i2l, 27, 0, 0, 0, 0, 0, 0, 0), (27, .iload_n 2, 28, 2, 0, 0, 0, 0, 0, 0), (28, .i2l, 29, 0, 0, 0, 0, 0, 0, 0), (29, .ldc2_w 183, 32, 0, 0, 0, 0, 1249, 0, 11), (32, .invokestatic 34, 35, 149, 3, 1, 0, 1194, 0, 0), (35, .ifCond .eq 16, 38, 51, 0, 0, 0, 0, 0, 0), (38, .iload 4, 40, 4, 0, 0, 0, 0, 0, 0), (40, .i2l, 41, 0, 0, 0, 0, 0, 0, 0), (41, .lconst 1, 42, 0, 0, 0, 0, 0, 0, 1), (42, .ldc2_w 257, 45, 0, 0, 0, 0, 1370, 0, 199)]),
  (66, [(45, .invokestatic 34, 48, 149, 3, 1, 0, 1194, 0, 0), (48, .ifCond .ne 5, 51, 53, 0, 0, 0, 0, 0, 0), (51, .iconst (-1), 52, 0, 0, 0, 0, 0, -1, 0), (52, .ireturn, 53, 0, 0, 0, 0, 0, 0, 0), (53, .bipush (-2), 55, 0, 0, 0, 0, 0, -2, 0), (55, .istore 5, 57, 5, 0, 0, 0, 0, 0, 0), (57, .iconst 0, 58, 0, 0, 0, 0, 0, 0, 0), (58, .istore 6, 60, 6, 0, 0, 0, 0, 0, 0), (60, .iload_n 2, 61, 2, 0, 0, 0, 0, 0, 0), (61, .istore 7, 63, 7, 0, 0, 0, 0, 0, 0), (63, .iload 7, 65, 7, 0, 0, 0, 0, 0, 0), (65, .iload_n 3, 66, 3, 0, 0, 0, 0, 0, 0)]),
  (90, [(66, .if_icmp .gt 74, 69, 140, 0, 0, 0, 0, 0, 0), (69, .iload 7, 71, 7, 0, 0, 0, 0, 0, 0), (71, .iconst 2, 72, 0, 0, 0, 0, 0, 2, 0), (72, .irem, 73, 0, 0, 0, 0, 0, 0, 0), (73, .iconst 1, 74, 0, 0, 0, 0, 0, 1, 0), (74, .if_icmp .eq 60, 77, 134, 0, 0, 0, 0, 0, 0), (77, .aload_n 0, 78, 0, 0, 0, 0, 0, 0, 0), (78, .getfield 136, 81, 11, 14, 0, 0, 1675, 0, 0), (81, .iload 7, 83, 7, 0, 0, 0, 0, 0, 0), (83, .iaload, 84, 0, 0, 0, 0, 0, 0, 0), (84, .ifCond .ne 6, 87, 90, 0, 0, 0, 0, 0, 0), (87, .goto 47, 90, 134, 0, 0, 0, 0, 0, 0)]),
  (111, [(90, .aload_n 0, 91, 0, 0, 0, 0, 0, 0, 0), (91, .getfield 238, 94, 11, 27, 0, 0, 1688, 0, 0), (94, .iload_n 1, 95, 1, 0, 0, 0, 0, 0, 0), (95, .iload 7, 97, 7, 0, 0, 0, 0, 0, 0), (97, .iastore, 98, 0, 0, 0, 0, 0, 0, 0), (98, .aload_n 0, 99, 0, 0, 0, 0, 0, 0, 0), (99, .iload 4, 101, 4, 0, 0, 0, 0, 0, 0), (101, .iconst 1, 102, 0, 0, 0, 0, 0, 1, 0), (102, .invokevirtual 295, 105, 200, 3, 0, 11, 1426, 0, 0), (105, .istore 8, 107, 8, 0, 0, 0, 0, 0, 0), (107, .aload_n 0, 108, 0, 0, 0, 0, 0, 0, 0), (108, .getfield 238, 111, 11, 27, 0, 0, 1688, 0, 0)]),
  (134, [(111, .iload_n 1, 112, 1, 0, 0, 0, 0, 0, 0), (112, .iconst (-1), 113, 0, 0, 0, 0, 0, -1, 0), (113, .iastore, 114, 0, 0, 0, 0, 0, 0, 0), (114, .iload 5, 116, 5, 0, 0, 0, 0, 0, 0), (116, .ifCond .lt 10, 119, 126, 0, 0, 0, 0, 0, 0), (119, .iload 8, 121, 8, 0, 0, 0, 0, 0, 0), (121, .iload 6, 123, 6, 0, 0, 0, 0, 0, 0), (123, .if_icmp .ge 11, 126, 134, 0, 0, 0, 0, 0, 0), (126, .iload 7, 128, 7, 0, 0, 0, 0, 0, 0), (128, .istore 5, 130, 5, 0, 0, 0, 0, 0, 0), (130, .iload 8, 132, 8, 0, 0, 0, 0, 0, 0), (132, .istore 6, 134, 6, 0, 0, 0, 0, 0, 0)]),
  (159, [(134, .iinc 7 1, 137, 7, 0, 0, 0, 0, 1, 0), (137, .goto (-74), 140, 63, 0, 0, 0, 0, 0, 0), (140, .iload 5, 142, 5, 0, 0, 0, 0, 0, 0), (142, .ifCond .lt 15, 145, 157, 0, 0, 0, 0, 0, 0), (145, .aload_n 0, 146, 0, 0, 0, 0, 0, 0, 0), (146, .iconst 0, 147, 0, 0, 0, 0, 0, 0, 0), (147, .putfield 20, 150, 11, 1, 0, 0, 1662, 0, 0), (150, .aload_n 0, 151, 0, 0, 0, 0, 0, 0, 0), (151, .iload 6, 153, 6, 0, 0, 0, 0, 0, 0), (153, .i2l, 154, 0, 0, 0, 0, 0, 0, 0), (154, .invokevirtual 27, 157, 153, 2, 0, 11, 1406, 0, 0), (157, .iload 5, 159, 5, 0, 0, 0, 0, 0, 0)]),
  (100000, [(159, .ireturn, 160, 0, 0, 0, 0, 0, 0, 0)])]
def mmX11_rules : am_M := (yX11_rules, cX11_rules, 9, some .int, 0, 0, 5, 11, [1441, 1439, 1440, 87, 1], tbX11_rules)
def tbX11_pair : List (Nat × List am_I) := [(20, [(0, .aload_n 0, 1, 0, 0, 0, 0, 0, 0, 0), (1, .iconst 0, 2, 0, 0, 0, 0, 0, 0, 0), (2, .putfield 3, 5, 11, 0, 0, 0, 1661, 0, 0), (5, .aload_n 0, 6, 0, 0, 0, 0, 0, 0, 0), (6, .iload_n 1, 7, 1, 0, 0, 0, 0, 0, 0), (7, .iload_n 2, 8, 2, 0, 0, 0, 0, 0, 0), (8, .invokevirtual 65, 11, 157, 3, 0, 11, 1215, 0, 0), (11, .ifCond .eq 15, 14, 26, 0, 0, 0, 0, 0, 0), (14, .iload_n 3, 15, 3, 0, 0, 0, 0, 0, 0), (15, .i2l, 16, 0, 0, 0, 0, 0, 0, 0), (16, .lconst 1, 17, 0, 0, 0, 0, 0, 0, 1), (17, .ldc2_w 257, 20, 0, 0, 0, 0, 1370, 0, 199)]),
  (40, [(20, .invokestatic 34, 23, 149, 3, 1, 0, 1194, 0, 0), (23, .ifCond .ne 5, 26, 28, 0, 0, 0, 0, 0, 0), (26, .iconst (-1), 27, 0, 0, 0, 0, 0, -1, 0), (27, .ireturn, 28, 0, 0, 0, 0, 0, 0, 0), (28, .iconst (-1), 29, 0, 0, 0, 0, 0, -1, 0), (29, .istore 4, 31, 4, 0, 0, 0, 0, 0, 0), (31, .iconst 0, 32, 0, 0, 0, 0, 0, 0, 0), (32, .istore 5, 34, 5, 0, 0, 0, 0, 0, 0), (34, .iconst 0, 35, 0, 0, 0, 0, 0, 0, 0), (35, .istore 6, 37, 6, 0, 0, 0, 0, 0, 0), (37, .iconst 0, 38, 0, 0, 0, 0, 0, 0, 0), (38, .istore 7, 40, 7, 0, 0, 0, 0, 0, 0)]),
  (64, [(40, .iload 7, 42, 7, 0, 0, 0, 0, 0, 0), (42, .bipush 12, 44, 0, 0, 0, 0, 0, 12, 0), (44, .if_icmp .ge 110, 47, 154, 0, 0, 0, 0, 0, 0), (47, .iconst 0, 48, 0, 0, 0, 0, 0, 0, 0), (48, .istore 8, 50, 8, 0, 0, 0, 0, 0, 0), (50, .iload 8, 52, 8, 0, 0, 0, 0, 0, 0), (52, .bipush 12, 54, 0, 0, 0, 0, 0, 12, 0), (54, .if_icmp .ge 94, 57, 148, 0, 0, 0, 0, 0, 0), (57, .aload_n 0, 58, 0, 0, 0, 0, 0, 0, 0), (58, .getfield 136, 61, 11, 14, 0, 0, 1675, 0, 0), (61, .iload 7, 63, 7, 0, 0, 0, 0, 0, 0), (63, .iaload, 64, 0, 0, 0, 0, 0, 0, 0)]),
  (88, [(64, .ifCond .eq 78, 67, 142, 0, 0, 0, 0, 0, 0), (67, .aload_n 0, 68, 0, 0, 0, 0, 0, 0, 0), (68, .getfield 136, 71, 11, 14, 0, 0, 1675, 0, 0), (71, .iload 8, 73, 8, 0, 0, 0, 0, 0, 0), (73, .iaload, 74, 0, 0, 0, 0, 0, 0, 0), (74, .ifCond .ne 6, 77, 80, 0, 0, 0, 0, 0, 0), (77, .goto 65, 80, 142, 0, 0, 0, 0, 0, 0), (80, .aload_n 0, 81, 0, 0, 0, 0, 0, 0, 0), (81, .getfield 238, 84, 11, 27, 0, 0, 1688, 0, 0), (84, .iload_n 1, 85, 1, 0, 0, 0, 0, 0, 0), (85, .iload 7, 87, 7, 0, 0, 0, 0, 0, 0), (87, .iastore, 88, 0, 0, 0, 0, 0, 0, 0)]),
  (108, [(88, .aload_n 0, 89, 0, 0, 0, 0, 0, 0, 0), (89, .getfield 238, 92, 11, 27, 0, 0, 1688, 0, 0), (92, .iload_n 2, 93, 2, 0, 0, 0, 0, 0, 0), (93, .iload 8, 95, 8, 0, 0, 0, 0, 0, 0), (95, .iastore, 96, 0, 0, 0, 0, 0, 0, 0), (96, .aload_n 0, 97, 0, 0, 0, 0, 0, 0, 0), (97, .iload_n 3, 98, 3, 0, 0, 0, 0, 0, 0), (98, .iconst 1, 99, 0, 0, 0, 0, 0, 1, 0), (99, .invokevirtual 295, 102, 200, 3, 0, 11, 1426, 0, 0), (102, .istore 9, 104, 9, 0, 0, 0, 0, 0, 0), (104, .aload_n 0, 105, 0, 0, 0, 0, 0, 0, 0), (105, .getfield 238, 108, 11, 27, 0, 0, 1688, 0, 0)]),
  (127, [(108, .iload_n 1, 109, 1, 0, 0, 0, 0, 0, 0), (109, .iconst (-1), 110, 0, 0, 0, 0, 0, -1, 0), (110, .iastore, 111, 0, 0, 0, 0, 0, 0, 0), (111, .aload_n 0, 112, 0, 0, 0, 0, 0, 0, 0), (112, .getfield 238, 115, 11, 27, 0, 0, 1688, 0, 0), (115, .iload_n 2, 116, 2, 0, 0, 0, 0, 0, 0), (116, .iconst (-1), 117, 0, 0, 0, 0, 0, -1, 0), (117, .iastore, 118, 0, 0, 0, 0, 0, 0, 0), (118, .iload 4, 120, 4, 0, 0, 0, 0, 0, 0), (120, .ifCond .lt 10, 123, 130, 0, 0, 0, 0, 0, 0), (123, .iload 9, 125, 9, 0, 0, 0, 0, 0, 0), (125, .iload 4, 127, 4, 0, 0, 0, 0, 0, 0)]),
  (156, [(127, .if_icmp .ge 15, 130, 142, 0, 0, 0, 0, 0, 0), (130, .iload 9, 132, 9, 0, 0, 0, 0, 0, 0), (132, .istore 4, 134, 4, 0, 0, 0, 0, 0, 0), (134, .iload 7, 136, 7, 0, 0, 0, 0, 0, 0), (136, .istore 5, 138, 5, 0, 0, 0, 0, 0, 0), (138, .iload 8, 140, 8, 0, 0, 0, 0, 0, 0), (140, .istore 6, 142, 6, 0, 0, 0, 0, 0, 0), (142, .iinc 8 2, 145, 8, 0, 0, 0, 0, 2, 0), (145, .goto (-95), 148, 50, 0, 0, 0, 0, 0, 0), (148, .iinc 7 2, 151, 7, 0, 0, 0, 0, 2, 0), (151, .goto (-111), 154, 40, 0, 0, 0, 0, 0, 0), (154, .iload 4, 156, 4, 0, 0, 0, 0, 0, 0)]),
  (177, [(156, .ifCond .ge 6, 159, 162, 0, 0, 0, 0, 0, 0), (159, .bipush (-2), 161, 0, 0, 0, 0, 0, -2, 0), (161, .ireturn, 162, 0, 0, 0, 0, 0, 0, 0), (162, .aload_n 0, 163, 0, 0, 0, 0, 0, 0, 0), (163, .iconst 0, 164, 0, 0, 0, 0, 0, 0, 0), (164, .putfield 20, 167, 11, 1, 0, 0, 1662, 0, 0), (167, .aload_n 0, 168, 0, 0, 0, 0, 0, 0, 0), (168, .iload 5, 170, 5, 0, 0, 0, 0, 0, 0), (170, .i2l, 171, 0, 0, 0, 0, 0, 0, 0), (171, .invokevirtual 27, 174, 153, 2, 0, 11, 1406, 0, 0), (174, .aload_n 0, 175, 0, 0, 0, 0, 0, 0, 0), (175, .iload 6, 177, 6, 0, 0, 0, 0, 0, 0)]),
  (100000, [(177, .i2l, 178, 0, 0, 0, 0, 0, 0, 0), (178, .invokevirtual 27, 181, 153, 2, 0, 11, 1406, 0, 0), (181, .iload 4, 183, 4, 0, 0, 0, 0, 0, 0), (183, .ireturn, 184, 0, 0, 0, 0, 0, 0, 0)])]
def mmX11_pair : am_M := (yX11_pair, cX11_pair, 10, some .int, 0, 0, 4, 11, [1445, 1443, 1444, 87, 1], tbX11_pair)
def tbX11_echo : List (Nat × List am_I) := [(18, [(0, .aload_n 0, 1, 0, 0, 0, 0, 0, 0, 0), (1, .iconst 0, 2, 0, 0, 0, 0, 0, 0, 0), (2, .putfield 3, 5, 11, 0, 0, 0, 1661, 0, 0), (5, .aload_n 0, 6, 0, 0, 0, 0, 0, 0, 0), (6, .iload_n 1, 7, 1, 0, 0, 0, 0, 0, 0), (7, .invokevirtual 38, 10, 156, 2, 0, 11, 1202, 0, 0), (10, .ifCond .ne 5, 13, 15, 0, 0, 0, 0, 0, 0), (13, .iconst (-1), 14, 0, 0, 0, 0, 0, -1, 0), (14, .ireturn, 15, 0, 0, 0, 0, 0, 0, 0), (15, .iconst 0, 16, 0, 0, 0, 0, 0, 0, 0), (16, .istore_n 2, 17, 2, 0, 0, 0, 0, 0, 0), (17, .iconst 0, 18, 0, 0, 0, 0, 0, 0, 0)]),
  (37, [(18, .istore_n 3, 19, 3, 0, 0, 0, 0, 0, 0), (19, .iconst 0, 20, 0, 0, 0, 0, 0, 0, 0), (20, .istore 4, 22, 4, 0, 0, 0, 0, 0, 0), (22, .iconst 0, 23, 0, 0, 0, 0, 0, 0, 0), (23, .istore 5, 25, 5, 0, 0, 0, 0, 0, 0), (25, .iload 5, 27, 5, 0, 0, 0, 0, 0, 0), (27, .aload_n 0, 28, 0, 0, 0, 0, 0, 0, 0), (28, .getfield 83, 31, 11, 23, 0, 0, 1684, 0, 0), (31, .if_icmp .ge 73, 34, 104, 0, 0, 0, 0, 0, 0), (34, .aload_n 0, 35, 0, 0, 0, 0, 0, 0, 0), (35, .iconst 1, 36, 0, 0, 0, 0, 0, 1, 0), (36, .iload_n 1, 37, 1, 0, 0, 0, 0, 0, 0)]),
  (62, [(37, .iload 5, 39, 5, 0, 0, 0, 0, 0, 0), (39, .invokevirtual 219, 42, 179, 4, 0, 11, 1346, 0, 0), (42, .istore 6, 44, 6, 0, 0, 0, 0, 0, 0), (44, .iload 6, 46, 6, 0, 0, 0, 0, 0, 0), (46, .ifCond .eq 20, 49, 66, 0, 0, 0, 0, 0, 0), (49, .iload 6, 51, 6, 0, 0, 0, 0, 0, 0), (51, .aload_n 0, 52, 0, 0, 0, 0, 0, 0, 0), (52, .iconst 2, 53, 0, 0, 0, 0, 0, 2, 0), (53, .iload_n 1, 54, 1, 0, 0, 0, 0, 0, 0), (54, .iload 5, 56, 5, 0, 0, 0, 0, 0, 0), (56, .invokevirtual 219, 59, 179, 4, 0, 11, 1346, 0, 0), (59, .if_icmp .ne 7, 62, 66, 0, 0, 0, 0, 0, 0)]),
  (83, [(62, .iconst 1, 63, 0, 0, 0, 0, 0, 1, 0), (63, .goto 4, 66, 67, 0, 0, 0, 0, 0, 0), (66, .iconst 0, 67, 0, 0, 0, 0, 0, 0, 0), (67, .istore 7, 69, 7, 0, 0, 0, 0, 0, 0), (69, .iload_n 2, 70, 2, 0, 0, 0, 0, 0, 0), (70, .iload 7, 72, 7, 0, 0, 0, 0, 0, 0), (72, .invokestatic 193, 75, 151, 1, 1, 0, 1357, 0, 0), (75, .iadd, 76, 0, 0, 0, 0, 0, 0, 0), (76, .istore_n 2, 77, 2, 0, 0, 0, 0, 0, 0), (77, .iload 7, 79, 7, 0, 0, 0, 0, 0, 0), (79, .ifCond .eq 9, 82, 88, 0, 0, 0, 0, 0, 0), (82, .iload_n 3, 83, 3, 0, 0, 0, 0, 0, 0)]),
  (105, [(83, .iconst 1, 84, 0, 0, 0, 0, 0, 1, 0), (84, .iadd, 85, 0, 0, 0, 0, 0, 0, 0), (85, .goto 4, 88, 89, 0, 0, 0, 0, 0, 0), (88, .iconst 0, 89, 0, 0, 0, 0, 0, 0, 0), (89, .istore_n 3, 90, 3, 0, 0, 0, 0, 0, 0), (90, .iload 4, 92, 4, 0, 0, 0, 0, 0, 0), (92, .iload_n 3, 93, 3, 0, 0, 0, 0, 0, 0), (93, .invokestatic 13, 96, 0, 0, 6, 0, 1236, 0, 0), (96, .istore 4, 98, 4, 0, 0, 0, 0, 0, 0), (98, .iinc 5 1, 101, 5, 0, 0, 0, 0, 1, 0), (101, .goto (-76), 104, 25, 0, 0, 0, 0, 0, 0), (104, .aload_n 0, 105, 0, 0, 0, 0, 0, 0, 0)]),
  (100000, [(105, .iconst 0, 106, 0, 0, 0, 0, 0, 0, 0), (106, .putfield 20, 109, 11, 1, 0, 0, 1662, 0, 0), (109, .aload_n 0, 110, 0, 0, 0, 0, 0, 0, 0), (110, .iload 4, 112, 4, 0, 0, 0, 0, 0, 0), (112, .i2l, 113, 0, 0, 0, 0, 0, 0, 0), (113, .invokevirtual 27, 116, 153, 2, 0, 11, 1406, 0, 0), (116, .iload_n 2, 117, 2, 0, 0, 0, 0, 0, 0), (117, .ireturn, 118, 0, 0, 0, 0, 0, 0, 0)])]
def mmX11_echo : am_M := (yX11_echo, cX11_echo, 8, some .int, 0, 0, 2, 11, [1449, 1447, 1448, 87, 1], tbX11_echo)
def tbX11_waits : List (Nat × List am_I) := [(18, [(0, .aload_n 0, 1, 0, 0, 0, 0, 0, 0, 0), (1, .iconst 0, 2, 0, 0, 0, 0, 0, 0, 0), (2, .putfield 3, 5, 11, 0, 0, 0, 1661, 0, 0), (5, .aload_n 0, 6, 0, 0, 0, 0, 0, 0, 0), (6, .iload_n 1, 7, 1, 0, 0, 0, 0, 0, 0), (7, .invokevirtual 38, 10, 156, 2, 0, 11, 1202, 0, 0), (10, .ifCond .ne 5, 13, 15, 0, 0, 0, 0, 0, 0), (13, .iconst (-1), 14, 0, 0, 0, 0, 0, -1, 0), (14, .ireturn, 15, 0, 0, 0, 0, 0, 0, 0), (15, .iconst 0, 16, 0, 0, 0, 0, 0, 0, 0), (16, .istore_n 2, 17, 2, 0, 0, 0, 0, 0, 0), (17, .iconst 0, 18, 0, 0, 0, 0, 0, 0, 0)]),
  (38, [(18, .istore_n 3, 19, 3, 0, 0, 0, 0, 0, 0), (19, .iconst 0, 20, 0, 0, 0, 0, 0, 0, 0), (20, .istore 4, 22, 4, 0, 0, 0, 0, 0, 0), (22, .iconst 0, 23, 0, 0, 0, 0, 0, 0, 0), (23, .istore 5, 25, 5, 0, 0, 0, 0, 0, 0), (25, .iconst 0, 26, 0, 0, 0, 0, 0, 0, 0), (26, .istore 6, 28, 6, 0, 0, 0, 0, 0, 0), (28, .iload 6, 30, 6, 0, 0, 0, 0, 0, 0), (30, .aload_n 0, 31, 0, 0, 0, 0, 0, 0, 0), (31, .getfield 83, 34, 11, 23, 0, 0, 1684, 0, 0), (34, .if_icmp .ge 124, 37, 158, 0, 0, 0, 0, 0, 0), (37, .aload_n 0, 38, 0, 0, 0, 0, 0, 0, 0)]),
  (59, [(38, .iconst 0, 39, 0, 0, 0, 0, 0, 0, 0), (39, .iload_n 1, 40, 1, 0, 0, 0, 0, 0, 0), (40, .iload 6, 42, 6, 0, 0, 0, 0, 0, 0), (42, .invokevirtual 219, 45, 179, 4, 0, 11, 1346, 0, 0), (45, .istore 7, 47, 7, 0, 0, 0, 0, 0, 0), (47, .iconst 0, 48, 0, 0, 0, 0, 0, 0, 0), (48, .istore 8, 50, 8, 0, 0, 0, 0, 0, 0), (50, .iconst 0, 51, 0, 0, 0, 0, 0, 0, 0), (51, .istore 9, 53, 9, 0, 0, 0, 0, 0, 0), (53, .iload 9, 55, 9, 0, 0, 0, 0, 0, 0), (55, .aload_n 0, 56, 0, 0, 0, 0, 0, 0, 0), (56, .getfield 31, 59, 11, 3, 0, 0, 1664, 0, 0)]),
  (83, [(59, .if_icmp .ge 23, 62, 82, 0, 0, 0, 0, 0, 0), (62, .iload 8, 64, 8, 0, 0, 0, 0, 0, 0), (64, .aload_n 0, 65, 0, 0, 0, 0, 0, 0, 0), (65, .iconst 0, 66, 0, 0, 0, 0, 0, 0, 0), (66, .iload 9, 68, 9, 0, 0, 0, 0, 0, 0), (68, .iload 6, 70, 6, 0, 0, 0, 0, 0, 0), (70, .invokevirtual 219, 73, 179, 4, 0, 11, 1346, 0, 0), (73, .iadd, 74, 0, 0, 0, 0, 0, 0, 0), (74, .istore 8, 76, 8, 0, 0, 0, 0, 0, 0), (76, .iinc 9 1, 79, 9, 0, 0, 0, 0, 1, 0), (79, .goto (-26), 82, 53, 0, 0, 0, 0, 0, 0), (82, .iload_n 2, 83, 2, 0, 0, 0, 0, 0, 0)]),
  (105, [(83, .iload 7, 85, 7, 0, 0, 0, 0, 0, 0), (85, .ifCond .ne 7, 88, 92, 0, 0, 0, 0, 0, 0), (88, .iconst 1, 89, 0, 0, 0, 0, 0, 1, 0), (89, .goto 4, 92, 93, 0, 0, 0, 0, 0, 0), (92, .iconst 0, 93, 0, 0, 0, 0, 0, 0, 0), (93, .invokestatic 193, 96, 151, 1, 1, 0, 1357, 0, 0), (96, .iadd, 97, 0, 0, 0, 0, 0, 0, 0), (97, .istore_n 2, 98, 2, 0, 0, 0, 0, 0, 0), (98, .iload 7, 100, 7, 0, 0, 0, 0, 0, 0), (100, .ifCond .ne 9, 103, 109, 0, 0, 0, 0, 0, 0), (103, .iload_n 3, 104, 3, 0, 0, 0, 0, 0, 0), (104, .iconst 1, 105, 0, 0, 0, 0, 0, 1, 0)]),
  (128, [(105, .iadd, 106, 0, 0, 0, 0, 0, 0, 0), (106, .goto 4, 109, 110, 0, 0, 0, 0, 0, 0), (109, .iconst 0, 110, 0, 0, 0, 0, 0, 0, 0), (110, .istore_n 3, 111, 3, 0, 0, 0, 0, 0, 0), (111, .iload 4, 113, 4, 0, 0, 0, 0, 0, 0), (113, .iload_n 3, 114, 3, 0, 0, 0, 0, 0, 0), (114, .invokestatic 13, 117, 0, 0, 6, 0, 1236, 0, 0), (117, .istore 4, 119, 4, 0, 0, 0, 0, 0, 0), (119, .iload 5, 121, 5, 0, 0, 0, 0, 0, 0), (121, .iload 7, 123, 7, 0, 0, 0, 0, 0, 0), (123, .ifCond .le 8, 126, 131, 0, 0, 0, 0, 0, 0), (126, .iload 8, 128, 8, 0, 0, 0, 0, 0, 0)]),
  (155, [(128, .ifCond .lt 13, 131, 141, 0, 0, 0, 0, 0, 0), (131, .iload 7, 133, 7, 0, 0, 0, 0, 0, 0), (133, .ifCond .ge 12, 136, 145, 0, 0, 0, 0, 0, 0), (136, .iload 8, 138, 8, 0, 0, 0, 0, 0, 0), (138, .ifCond .le 7, 141, 145, 0, 0, 0, 0, 0, 0), (141, .iconst 1, 142, 0, 0, 0, 0, 0, 1, 0), (142, .goto 4, 145, 146, 0, 0, 0, 0, 0, 0), (145, .iconst 0, 146, 0, 0, 0, 0, 0, 0, 0), (146, .invokestatic 193, 149, 151, 1, 1, 0, 1357, 0, 0), (149, .iadd, 150, 0, 0, 0, 0, 0, 0, 0), (150, .istore 5, 152, 5, 0, 0, 0, 0, 0, 0), (152, .iinc 6 1, 155, 6, 0, 0, 0, 0, 1, 0)]),
  (177, [(155, .goto (-127), 158, 28, 0, 0, 0, 0, 0, 0), (158, .aload_n 0, 159, 0, 0, 0, 0, 0, 0, 0), (159, .iconst 0, 160, 0, 0, 0, 0, 0, 0, 0), (160, .putfield 20, 163, 11, 1, 0, 0, 1662, 0, 0), (163, .aload_n 0, 164, 0, 0, 0, 0, 0, 0, 0), (164, .iload 4, 166, 4, 0, 0, 0, 0, 0, 0), (166, .i2l, 167, 0, 0, 0, 0, 0, 0, 0), (167, .invokevirtual 27, 170, 153, 2, 0, 11, 1406, 0, 0), (170, .aload_n 0, 171, 0, 0, 0, 0, 0, 0, 0), (171, .iload 5, 173, 5, 0, 0, 0, 0, 0, 0), (173, .i2l, 174, 0, 0, 0, 0, 0, 0, 0), (174, .invokevirtual 27, 177, 153, 2, 0, 11, 1406, 0, 0)]),
  (100000, [(177, .iload_n 2, 178, 2, 0, 0, 0, 0, 0, 0), (178, .ireturn, 179, 0, 0, 0, 0, 0, 0, 0)])]
def mmX11_waits : am_M := (yX11_waits, cX11_waits, 10, some .int, 0, 0, 2, 11, [1453, 1451, 1452, 87, 1], tbX11_waits)
def tbX11_swings : List (Nat × List am_I) := [(15, [(0, .aload_n 0, 1, 0, 0, 0, 0, 0, 0, 0), (1, .iconst 0, 2, 0, 0, 0, 0, 0, 0, 0), (2, .putfield 3, 5, 11, 0, 0, 0, 1661, 0, 0), (5, .iconst 0, 6, 0, 0, 0, 0, 0, 0, 0), (6, .istore_n 1, 7, 1, 0, 0, 0, 0, 0, 0), (7, .iconst 0, 8, 0, 0, 0, 0, 0, 0, 0), (8, .istore_n 2, 9, 2, 0, 0, 0, 0, 0, 0), (9, .iconst 0, 10, 0, 0, 0, 0, 0, 0, 0), (10, .istore_n 3, 11, 3, 0, 0, 0, 0, 0, 0), (11, .iconst 0, 12, 0, 0, 0, 0, 0, 0, 0), (12, .istore 4, 14, 4, 0, 0, 0, 0, 0, 0), (14, .iconst 0, 15, 0, 0, 0, 0, 0, 0, 0)]),
  (38, [(15, .istore 5, 17, 5, 0, 0, 0, 0, 0, 0), (17, .iload 5, 19, 5, 0, 0, 0, 0, 0, 0), (19, .aload_n 0, 20, 0, 0, 0, 0, 0, 0, 0), (20, .getfield 83, 23, 11, 23, 0, 0, 1684, 0, 0), (23, .if_icmp .gt 112, 26, 135, 0, 0, 0, 0, 0, 0), (26, .aload_n 0, 27, 0, 0, 0, 0, 0, 0, 0), (27, .getfield 89, 30, 11, 25, 0, 0, 1686, 0, 0), (30, .iload 5, 32, 5, 0, 0, 0, 0, 0, 0), (32, .iaload, 33, 0, 0, 0, 0, 0, 0, 0), (33, .aload_n 0, 34, 0, 0, 0, 0, 0, 0, 0), (34, .getfield 96, 37, 11, 10, 0, 0, 1671, 0, 0), (37, .isub, 38, 0, 0, 0, 0, 0, 0, 0)]),
  (60, [(38, .istore 6, 40, 6, 0, 0, 0, 0, 0, 0), (40, .iload_n 1, 41, 1, 0, 0, 0, 0, 0, 0), (41, .iload 6, 43, 6, 0, 0, 0, 0, 0, 0), (43, .invokestatic 298, 46, 255, 1, 1, 0, 1458, 0, 0), (46, .iload_n 2, 47, 2, 0, 0, 0, 0, 0, 0), (47, .imul, 48, 0, 0, 0, 0, 0, 0, 0), (48, .ifCond .ge 7, 51, 55, 0, 0, 0, 0, 0, 0), (51, .iconst 1, 52, 0, 0, 0, 0, 0, 1, 0), (52, .goto 4, 55, 56, 0, 0, 0, 0, 0, 0), (55, .iconst 0, 56, 0, 0, 0, 0, 0, 0, 0), (56, .invokestatic 193, 59, 151, 1, 1, 0, 1357, 0, 0), (59, .iadd, 60, 0, 0, 0, 0, 0, 0, 0)]),
  (83, [(60, .istore_n 1, 61, 1, 0, 0, 0, 0, 0, 0), (61, .iload 6, 63, 6, 0, 0, 0, 0, 0, 0), (63, .ifCond .ne 7, 66, 70, 0, 0, 0, 0, 0, 0), (66, .iload_n 2, 67, 2, 0, 0, 0, 0, 0, 0), (67, .goto 8, 70, 75, 0, 0, 0, 0, 0, 0), (70, .iload 6, 72, 6, 0, 0, 0, 0, 0, 0), (72, .invokestatic 298, 75, 255, 1, 1, 0, 1458, 0, 0), (75, .istore_n 2, 76, 2, 0, 0, 0, 0, 0, 0), (76, .iload 5, 78, 5, 0, 0, 0, 0, 0, 0), (78, .aload_n 0, 79, 0, 0, 0, 0, 0, 0, 0), (79, .getfield 83, 82, 11, 23, 0, 0, 1684, 0, 0), (82, .iconst 2, 83, 0, 0, 0, 0, 0, 2, 0)]),
  (107, [(83, .idiv, 84, 0, 0, 0, 0, 0, 0, 0), (84, .if_icmp .gt 15, 87, 99, 0, 0, 0, 0, 0, 0), (87, .iload_n 3, 88, 3, 0, 0, 0, 0, 0, 0), (88, .iload 6, 90, 6, 0, 0, 0, 0, 0, 0), (90, .invokestatic 266, 93, 0, 0, 8, 0, 1404, 0, 0), (93, .invokestatic 13, 96, 0, 0, 6, 0, 1236, 0, 0), (96, .goto 4, 99, 100, 0, 0, 0, 0, 0, 0), (99, .iload_n 3, 100, 3, 0, 0, 0, 0, 0, 0), (100, .istore_n 3, 101, 3, 0, 0, 0, 0, 0, 0), (101, .iload 5, 103, 5, 0, 0, 0, 0, 0, 0), (103, .aload_n 0, 104, 0, 0, 0, 0, 0, 0, 0), (104, .getfield 83, 107, 11, 23, 0, 0, 1684, 0, 0)]),
  (135, [(107, .iconst 2, 108, 0, 0, 0, 0, 0, 2, 0), (108, .idiv, 109, 0, 0, 0, 0, 0, 0, 0), (109, .if_icmp .le 16, 112, 125, 0, 0, 0, 0, 0, 0), (112, .iload 4, 114, 4, 0, 0, 0, 0, 0, 0), (114, .iload 6, 116, 6, 0, 0, 0, 0, 0, 0), (116, .invokestatic 266, 119, 0, 0, 8, 0, 1404, 0, 0), (119, .invokestatic 13, 122, 0, 0, 6, 0, 1236, 0, 0), (122, .goto 5, 125, 127, 0, 0, 0, 0, 0, 0), (125, .iload 4, 127, 4, 0, 0, 0, 0, 0, 0), (127, .istore 4, 129, 4, 0, 0, 0, 0, 0, 0), (129, .iinc 5 1, 132, 5, 0, 0, 0, 0, 1, 0), (132, .goto (-115), 135, 17, 0, 0, 0, 0, 0, 0)]),
  (154, [(135, .aload_n 0, 136, 0, 0, 0, 0, 0, 0, 0), (136, .iconst 0, 137, 0, 0, 0, 0, 0, 0, 0), (137, .putfield 20, 140, 11, 1, 0, 0, 1662, 0, 0), (140, .aload_n 0, 141, 0, 0, 0, 0, 0, 0, 0), (141, .iload_n 3, 142, 3, 0, 0, 0, 0, 0, 0), (142, .i2l, 143, 0, 0, 0, 0, 0, 0, 0), (143, .invokevirtual 27, 146, 153, 2, 0, 11, 1406, 0, 0), (146, .aload_n 0, 147, 0, 0, 0, 0, 0, 0, 0), (147, .iload 4, 149, 4, 0, 0, 0, 0, 0, 0), (149, .i2l, 150, 0, 0, 0, 0, 0, 0, 0), (150, .invokevirtual 27, 153, 153, 2, 0, 11, 1406, 0, 0), (153, .iload_n 1, 154, 1, 0, 0, 0, 0, 0, 0)]),
  (100000, [(154, .ireturn, 155, 0, 0, 0, 0, 0, 0, 0)])]
def mmX11_swings : am_M := (yX11_swings, cX11_swings, 7, some .int, 0, 0, 1, 11, [1457, 1455, 1456, 87, 1], tbX11_swings)
def tbX11_sumsWinds : List (Nat × List am_I) := [(20, [(0, .iconst 0, 1, 0, 0, 0, 0, 0, 0, 0), (1, .istore_n 2, 2, 2, 0, 0, 0, 0, 0, 0), (2, .iload_n 2, 3, 2, 0, 0, 0, 0, 0, 0), (3, .bipush 13, 5, 0, 0, 0, 0, 0, 13, 0), (5, .if_icmp .ge 30, 8, 35, 0, 0, 0, 0, 0, 0), (8, .aload_n 0, 9, 0, 0, 0, 0, 0, 0, 0), (9, .getfield 303, 12, 11, 35, 0, 0, 1696, 0, 0), (12, .iload_n 2, 13, 2, 0, 0, 0, 0, 0, 0), (13, .iload_n 2, 14, 2, 0, 0, 0, 0, 0, 0), (14, .bipush 6, 16, 0, 0, 0, 0, 0, 6, 0), (16, .if_icmp .ne 7, 19, 23, 0, 0, 0, 0, 0, 0), (19, .iconst 1, 20, 0, 0, 0, 0, 0, 1, 0)]),
  (42, [(20, .goto 4, 23, 24, 0, 0, 0, 0, 0, 0), (23, .iconst 0, 24, 0, 0, 0, 0, 0, 0, 0), (24, .invokestatic 193, 27, 151, 1, 1, 0, 1357, 0, 0), (27, .i2l, 28, 0, 0, 0, 0, 0, 0, 0), (28, .lastore, 29, 0, 0, 0, 0, 0, 0, 0), (29, .iinc 2 1, 32, 2, 0, 0, 0, 0, 1, 0), (32, .goto (-30), 35, 2, 0, 0, 0, 0, 0, 0), (35, .iconst 0, 36, 0, 0, 0, 0, 0, 0, 0), (36, .istore_n 2, 37, 2, 0, 0, 0, 0, 0, 0), (37, .iload_n 2, 38, 2, 0, 0, 0, 0, 0, 0), (38, .iload_n 1, 39, 1, 0, 0, 0, 0, 0, 0), (39, .if_icmp .ge 131, 42, 170, 0, 0, 0, 0, 0, 0)]),
  (62, [(42, .iconst 0, 43, 0, 0, 0, 0, 0, 0, 0), (43, .istore_n 3, 44, 3, 0, 0, 0, 0, 0, 0), (44, .iload_n 3, 45, 3, 0, 0, 0, 0, 0, 0), (45, .bipush 13, 47, 0, 0, 0, 0, 0, 13, 0), (47, .if_icmp .ge 91, 50, 138, 0, 0, 0, 0, 0, 0), (50, .iload_n 3, 51, 3, 0, 0, 0, 0, 0, 0), (51, .bipush 12, 53, 0, 0, 0, 0, 0, 12, 0), (53, .if_icmp .ge 14, 56, 67, 0, 0, 0, 0, 0, 0), (56, .aload_n 0, 57, 0, 0, 0, 0, 0, 0, 0), (57, .getfield 303, 60, 11, 35, 0, 0, 1696, 0, 0), (60, .iload_n 3, 61, 3, 0, 0, 0, 0, 0, 0), (61, .iconst 1, 62, 0, 0, 0, 0, 0, 1, 0)]),
  (81, [(62, .iadd, 63, 0, 0, 0, 0, 0, 0, 0), (63, .laload, 64, 0, 0, 0, 0, 0, 0, 0), (64, .goto 4, 67, 68, 0, 0, 0, 0, 0, 0), (67, .lconst 0, 68, 0, 0, 0, 0, 0, 0, 0), (68, .lstore 4, 70, 4, 0, 0, 0, 0, 0, 0), (70, .iload_n 3, 71, 3, 0, 0, 0, 0, 0, 0), (71, .ifCond .le 14, 74, 85, 0, 0, 0, 0, 0, 0), (74, .aload_n 0, 75, 0, 0, 0, 0, 0, 0, 0), (75, .getfield 303, 78, 11, 35, 0, 0, 1696, 0, 0), (78, .iload_n 3, 79, 3, 0, 0, 0, 0, 0, 0), (79, .iconst 1, 80, 0, 0, 0, 0, 0, 1, 0), (80, .isub, 81, 0, 0, 0, 0, 0, 0, 0)]),
  (101, [(81, .laload, 82, 0, 0, 0, 0, 0, 0, 0), (82, .goto 4, 85, 86, 0, 0, 0, 0, 0, 0), (85, .lconst 0, 86, 0, 0, 0, 0, 0, 0, 0), (86, .lstore 6, 88, 6, 0, 0, 0, 0, 0, 0), (88, .aload_n 0, 89, 0, 0, 0, 0, 0, 0, 0), (89, .getfield 306, 92, 11, 36, 0, 0, 1697, 0, 0), (92, .iload_n 3, 93, 3, 0, 0, 0, 0, 0, 0), (93, .aload_n 0, 94, 0, 0, 0, 0, 0, 0, 0), (94, .getfield 104, 97, 11, 11, 0, 0, 1672, 0, 0), (97, .i2l, 98, 0, 0, 0, 0, 0, 0, 0), (98, .lload 4, 100, 4, 0, 0, 0, 0, 0, 0), (100, .lmul, 101, 0, 0, 0, 0, 0, 0, 0)]),
  (120, [(101, .bipush 10, 103, 0, 0, 0, 0, 0, 10, 0), (103, .aload_n 0, 104, 0, 0, 0, 0, 0, 0, 0), (104, .getfield 104, 107, 11, 11, 0, 0, 1672, 0, 0), (107, .isub, 108, 0, 0, 0, 0, 0, 0, 0), (108, .aload_n 0, 109, 0, 0, 0, 0, 0, 0, 0), (109, .getfield 101, 112, 11, 12, 0, 0, 1673, 0, 0), (112, .isub, 113, 0, 0, 0, 0, 0, 0, 0), (113, .i2l, 114, 0, 0, 0, 0, 0, 0, 0), (114, .aload_n 0, 115, 0, 0, 0, 0, 0, 0, 0), (115, .getfield 303, 118, 11, 35, 0, 0, 1696, 0, 0), (118, .iload_n 3, 119, 3, 0, 0, 0, 0, 0, 0), (119, .laload, 120, 0, 0, 0, 0, 0, 0, 0)]),
  (139, [(120, .lmul, 121, 0, 0, 0, 0, 0, 0, 0), (121, .ladd, 122, 0, 0, 0, 0, 0, 0, 0), (122, .aload_n 0, 123, 0, 0, 0, 0, 0, 0, 0), (123, .getfield 101, 126, 11, 12, 0, 0, 1673, 0, 0), (126, .i2l, 127, 0, 0, 0, 0, 0, 0, 0), (127, .lload 6, 129, 6, 0, 0, 0, 0, 0, 0), (129, .lmul, 130, 0, 0, 0, 0, 0, 0, 0), (130, .ladd, 131, 0, 0, 0, 0, 0, 0, 0), (131, .lastore, 132, 0, 0, 0, 0, 0, 0, 0), (132, .iinc 3 1, 135, 3, 0, 0, 0, 0, 1, 0), (135, .goto (-91), 138, 44, 0, 0, 0, 0, 0, 0), (138, .iconst 0, 139, 0, 0, 0, 0, 0, 0, 0)]),
  (158, [(139, .istore_n 3, 140, 3, 0, 0, 0, 0, 0, 0), (140, .iload_n 3, 141, 3, 0, 0, 0, 0, 0, 0), (141, .bipush 13, 143, 0, 0, 0, 0, 0, 13, 0), (143, .if_icmp .ge 21, 146, 164, 0, 0, 0, 0, 0, 0), (146, .aload_n 0, 147, 0, 0, 0, 0, 0, 0, 0), (147, .getfield 303, 150, 11, 35, 0, 0, 1696, 0, 0), (150, .iload_n 3, 151, 3, 0, 0, 0, 0, 0, 0), (151, .aload_n 0, 152, 0, 0, 0, 0, 0, 0, 0), (152, .getfield 306, 155, 11, 36, 0, 0, 1697, 0, 0), (155, .iload_n 3, 156, 3, 0, 0, 0, 0, 0, 0), (156, .laload, 157, 0, 0, 0, 0, 0, 0, 0), (157, .lastore, 158, 0, 0, 0, 0, 0, 0, 0)]),
  (100000, [(158, .iinc 3 1, 161, 3, 0, 0, 0, 0, 1, 0), (161, .goto (-21), 164, 140, 0, 0, 0, 0, 0, 0), (164, .iinc 2 1, 167, 2, 0, 0, 0, 0, 1, 0), (167, .goto (-130), 170, 37, 0, 0, 0, 0, 0, 0), (170, .return_, 171, 0, 0, 0, 0, 0, 0, 0)])]
def mmX11_sumsWinds : am_M := (yX11_sumsWinds, cX11_sumsWinds, 8, none, 0, 0, 2, 11, [1477, 1476, 56, 87, 1], tbX11_sumsWinds)
def tbX11_costOf : List (Nat × List am_I) := [(20, [(0, .lconst 0, 1, 0, 0, 0, 0, 0, 0, 0), (1, .lstore_n 2, 2, 2, 0, 0, 0, 0, 0, 0), (2, .iconst 0, 3, 0, 0, 0, 0, 0, 0, 0), (3, .istore 4, 5, 4, 0, 0, 0, 0, 0, 0), (5, .iload 4, 7, 4, 0, 0, 0, 0, 0, 0), (7, .bipush 13, 9, 0, 0, 0, 0, 0, 13, 0), (9, .if_icmp .ge 36, 12, 45, 0, 0, 0, 0, 0, 0), (12, .lload_n 2, 13, 2, 0, 0, 0, 0, 0, 0), (13, .aload_n 0, 14, 0, 0, 0, 0, 0, 0, 0), (14, .getfield 303, 17, 11, 35, 0, 0, 1696, 0, 0), (17, .iload 4, 19, 4, 0, 0, 0, 0, 0, 0), (19, .laload, 20, 0, 0, 0, 0, 0, 0, 0)]),
  (38, [(20, .iload_n 1, 21, 1, 0, 0, 0, 0, 0, 0), (21, .iload 4, 23, 4, 0, 0, 0, 0, 0, 0), (23, .iadd, 24, 0, 0, 0, 0, 0, 0, 0), (24, .bipush 6, 26, 0, 0, 0, 0, 0, 6, 0), (26, .isub, 27, 0, 0, 0, 0, 0, 0, 0), (27, .aload_n 0, 28, 0, 0, 0, 0, 0, 0, 0), (28, .getfield 96, 31, 11, 10, 0, 0, 1671, 0, 0), (31, .isub, 32, 0, 0, 0, 0, 0, 0, 0), (32, .invokestatic 266, 35, 0, 0, 8, 0, 1404, 0, 0), (35, .i2l, 36, 0, 0, 0, 0, 0, 0, 0), (36, .lmul, 37, 0, 0, 0, 0, 0, 0, 0), (37, .ladd, 38, 0, 0, 0, 0, 0, 0, 0)]),
  (100000, [(38, .lstore_n 2, 39, 2, 0, 0, 0, 0, 0, 0), (39, .iinc 4 1, 42, 4, 0, 0, 0, 0, 1, 0), (42, .goto (-37), 45, 5, 0, 0, 0, 0, 0, 0), (45, .lload_n 2, 46, 2, 0, 0, 0, 0, 0, 0), (46, .lreturn, 47, 0, 0, 0, 0, 0, 0, 0)])]
def mmX11_costOf : am_M := (yX11_costOf, cX11_costOf, 5, some .long, 0, 0, 2, 11, [1481, 1480, 57, 87, 1], tbX11_costOf)
def tbX11_then : List (Nat × List am_I) := [(17, [(0, .aload_n 0, 1, 0, 0, 0, 0, 0, 0, 0), (1, .getfield 104, 4, 11, 11, 0, 0, 1672, 0, 0), (4, .i2l, 5, 0, 0, 0, 0, 0, 0, 0), (5, .aload_n 0, 6, 0, 0, 0, 0, 0, 0, 0), (6, .getfield 309, 9, 11, 33, 0, 0, 1694, 0, 0), (9, .iload_n 1, 10, 1, 0, 0, 0, 0, 0, 0), (10, .iconst 1, 11, 0, 0, 0, 0, 0, 1, 0), (11, .isub, 12, 0, 0, 0, 0, 0, 0, 0), (12, .bipush 120, 14, 0, 0, 0, 0, 0, 120, 0), (14, .iadd, 15, 0, 0, 0, 0, 0, 0, 0), (15, .laload, 16, 0, 0, 0, 0, 0, 0, 0), (16, .lmul, 17, 0, 0, 0, 0, 0, 0, 0)]),
  (37, [(17, .bipush 10, 19, 0, 0, 0, 0, 0, 10, 0), (19, .aload_n 0, 20, 0, 0, 0, 0, 0, 0, 0), (20, .getfield 104, 23, 11, 11, 0, 0, 1672, 0, 0), (23, .isub, 24, 0, 0, 0, 0, 0, 0, 0), (24, .aload_n 0, 25, 0, 0, 0, 0, 0, 0, 0), (25, .getfield 101, 28, 11, 12, 0, 0, 1673, 0, 0), (28, .isub, 29, 0, 0, 0, 0, 0, 0, 0), (29, .i2l, 30, 0, 0, 0, 0, 0, 0, 0), (30, .aload_n 0, 31, 0, 0, 0, 0, 0, 0, 0), (31, .getfield 309, 34, 11, 33, 0, 0, 1694, 0, 0), (34, .iload_n 1, 35, 1, 0, 0, 0, 0, 0, 0), (35, .bipush 120, 37, 0, 0, 0, 0, 0, 120, 0)]),
  (53, [(37, .iadd, 38, 0, 0, 0, 0, 0, 0, 0), (38, .laload, 39, 0, 0, 0, 0, 0, 0, 0), (39, .lmul, 40, 0, 0, 0, 0, 0, 0, 0), (40, .ladd, 41, 0, 0, 0, 0, 0, 0, 0), (41, .aload_n 0, 42, 0, 0, 0, 0, 0, 0, 0), (42, .getfield 101, 45, 11, 12, 0, 0, 1673, 0, 0), (45, .i2l, 46, 0, 0, 0, 0, 0, 0, 0), (46, .aload_n 0, 47, 0, 0, 0, 0, 0, 0, 0), (47, .getfield 309, 50, 11, 33, 0, 0, 1694, 0, 0), (50, .iload_n 1, 51, 1, 0, 0, 0, 0, 0, 0), (51, .iconst 1, 52, 0, 0, 0, 0, 0, 1, 0), (52, .iadd, 53, 0, 0, 0, 0, 0, 0, 0)]),
  (100000, [(53, .bipush 120, 55, 0, 0, 0, 0, 0, 120, 0), (55, .iadd, 56, 0, 0, 0, 0, 0, 0, 0), (56, .laload, 57, 0, 0, 0, 0, 0, 0, 0), (57, .lmul, 58, 0, 0, 0, 0, 0, 0, 0), (58, .ladd, 59, 0, 0, 0, 0, 0, 0, 0), (59, .lreturn, 60, 0, 0, 0, 0, 0, 0, 0)])]
def mmX11_then : am_M := (yX11_then, cX11_then, 2, some .long, 0, 0, 2, 11, [1485, 1484, 58, 87, 1], tbX11_then)
def tbX11_steers : List (Nat × List am_I) := [(22, [(0, .aload_n 0, 1, 0, 0, 0, 0, 0, 0, 0), (1, .iload_n 1, 2, 1, 0, 0, 0, 0, 0, 0), (2, .iconst 1, 3, 0, 0, 0, 0, 0, 1, 0), (3, .iadd, 4, 0, 0, 0, 0, 0, 0, 0), (4, .invokevirtual 312, 7, 207, 2, 0, 11, 1474, 0, 0), (7, .iconst 0, 8, 0, 0, 0, 0, 0, 0, 0), (8, .istore 5, 10, 5, 0, 0, 0, 0, 0, 0), (10, .iload 5, 12, 5, 0, 0, 0, 0, 0, 0), (12, .sipush 241, 15, 0, 0, 0, 0, 0, 241, 0), (15, .if_icmp .ge 17, 18, 32, 0, 0, 0, 0, 0, 0), (18, .aload_n 0, 19, 0, 0, 0, 0, 0, 0, 0), (19, .getfield 309, 22, 11, 33, 0, 0, 1694, 0, 0)]),
  (44, [(22, .iload 5, 24, 5, 0, 0, 0, 0, 0, 0), (24, .lconst 0, 25, 0, 0, 0, 0, 0, 0, 0), (25, .lastore, 26, 0, 0, 0, 0, 0, 0, 0), (26, .iinc 5 1, 29, 5, 0, 0, 0, 0, 1, 0), (29, .goto (-19), 32, 10, 0, 0, 0, 0, 0, 0), (32, .lconst 1, 33, 0, 0, 0, 0, 0, 0, 1), (33, .lstore 5, 35, 5, 0, 0, 0, 0, 0, 0), (35, .iconst 1, 36, 0, 0, 0, 0, 0, 1, 0), (36, .istore 7, 38, 7, 0, 0, 0, 0, 0, 0), (38, .iload 7, 40, 7, 0, 0, 0, 0, 0, 0), (40, .iload_n 3, 41, 3, 0, 0, 0, 0, 0, 0), (41, .if_icmp .gt 193, 44, 234, 0, 0, 0, 0, 0, 0)]),
  (62, [(44, .bipush 50, 46, 0, 0, 0, 0, 0, 50, 0), (46, .iconst 5, 47, 0, 0, 0, 0, 0, 5, 0), (47, .iload_n 3, 48, 3, 0, 0, 0, 0, 0, 0), (48, .iload 7, 50, 7, 0, 0, 0, 0, 0, 0), (50, .isub, 51, 0, 0, 0, 0, 0, 0, 0), (51, .imul, 52, 0, 0, 0, 0, 0, 0, 0), (52, .iadd, 53, 0, 0, 0, 0, 0, 0, 0), (53, .istore 8, 55, 8, 0, 0, 0, 0, 0, 0), (55, .iload 8, 57, 8, 0, 0, 0, 0, 0, 0), (57, .ineg, 58, 0, 0, 0, 0, 0, 0, 0), (58, .istore 9, 60, 9, 0, 0, 0, 0, 0, 0), (60, .iload 9, 62, 9, 0, 0, 0, 0, 0, 0)]),
  (86, [(62, .iload 8, 64, 8, 0, 0, 0, 0, 0, 0), (64, .if_icmp .gt 136, 67, 200, 0, 0, 0, 0, 0, 0), (67, .ldc2_w 269, 70, 0, 0, 0, 0, 1405, 0, -1), (70, .lstore 10, 72, 10, 0, 0, 0, 0, 0, 0), (72, .iconst 0, 73, 0, 0, 0, 0, 0, 0, 0), (73, .istore 12, 75, 12, 0, 0, 0, 0, 0, 0), (75, .iload 12, 77, 12, 0, 0, 0, 0, 0, 0), (77, .iconst 2, 78, 0, 0, 0, 0, 0, 2, 0), (78, .iload 4, 80, 4, 0, 0, 0, 0, 0, 0), (80, .imul, 81, 0, 0, 0, 0, 0, 0, 0), (81, .if_icmp .gt 101, 84, 182, 0, 0, 0, 0, 0, 0), (84, .iload 12, 86, 12, 0, 0, 0, 0, 0, 0)]),
  (104, [(86, .iconst 2, 87, 0, 0, 0, 0, 0, 2, 0), (87, .irem, 88, 0, 0, 0, 0, 0, 0, 0), (88, .iconst 1, 89, 0, 0, 0, 0, 0, 1, 0), (89, .if_icmp .ne 13, 92, 102, 0, 0, 0, 0, 0, 0), (92, .iload 12, 94, 12, 0, 0, 0, 0, 0, 0), (94, .iconst 1, 95, 0, 0, 0, 0, 0, 1, 0), (95, .iadd, 96, 0, 0, 0, 0, 0, 0, 0), (96, .ineg, 97, 0, 0, 0, 0, 0, 0, 0), (97, .iconst 2, 98, 0, 0, 0, 0, 0, 2, 0), (98, .idiv, 99, 0, 0, 0, 0, 0, 0, 0), (99, .goto 7, 102, 106, 0, 0, 0, 0, 0, 0), (102, .iload 12, 104, 12, 0, 0, 0, 0, 0, 0)]),
  (123, [(104, .iconst 2, 105, 0, 0, 0, 0, 0, 2, 0), (105, .idiv, 106, 0, 0, 0, 0, 0, 0, 0), (106, .istore 13, 108, 13, 0, 0, 0, 0, 0, 0), (108, .lload 5, 110, 5, 0, 0, 0, 0, 0, 0), (110, .aload_n 0, 111, 0, 0, 0, 0, 0, 0, 0), (111, .iload 9, 113, 9, 0, 0, 0, 0, 0, 0), (113, .iload 13, 115, 13, 0, 0, 0, 0, 0, 0), (115, .iadd, 116, 0, 0, 0, 0, 0, 0, 0), (116, .invokevirtual 315, 119, 208, 2, 0, 11, 1478, 0, 0), (119, .lmul, 120, 0, 0, 0, 0, 0, 0, 0), (120, .aload_n 0, 121, 0, 0, 0, 0, 0, 0, 0), (121, .iload 9, 123, 9, 0, 0, 0, 0, 0, 0)]),
  (144, [(123, .iload 13, 125, 13, 0, 0, 0, 0, 0, 0), (125, .iadd, 126, 0, 0, 0, 0, 0, 0, 0), (126, .invokevirtual 319, 129, 209, 2, 0, 11, 1482, 0, 0), (129, .ladd, 130, 0, 0, 0, 0, 0, 0, 0), (130, .lstore 14, 132, 14, 0, 0, 0, 0, 0, 0), (132, .lload 10, 134, 10, 0, 0, 0, 0, 0, 0), (134, .lconst 0, 135, 0, 0, 0, 0, 0, 0, 0), (135, .lcmp, 136, 0, 0, 0, 0, 0, 0, 0), (136, .ifCond .lt 11, 139, 147, 0, 0, 0, 0, 0, 0), (139, .lload 14, 141, 14, 0, 0, 0, 0, 0, 0), (141, .lload 10, 143, 10, 0, 0, 0, 0, 0, 0), (143, .lcmp, 144, 0, 0, 0, 0, 0, 0, 0)]),
  (169, [(144, .ifCond .ge 32, 147, 176, 0, 0, 0, 0, 0, 0), (147, .lload 14, 149, 14, 0, 0, 0, 0, 0, 0), (149, .lstore 10, 151, 10, 0, 0, 0, 0, 0, 0), (151, .aload_n 0, 152, 0, 0, 0, 0, 0, 0, 0), (152, .iload 7, 154, 7, 0, 0, 0, 0, 0, 0), (154, .iload_n 3, 155, 3, 0, 0, 0, 0, 0, 0), (155, .if_icmp .ne 14, 158, 169, 0, 0, 0, 0, 0, 0), (158, .iload 9, 160, 9, 0, 0, 0, 0, 0, 0), (160, .iload_n 2, 161, 2, 0, 0, 0, 0, 0, 0), (161, .if_icmp .ne 8, 164, 169, 0, 0, 0, 0, 0, 0), (164, .iload 13, 166, 13, 0, 0, 0, 0, 0, 0), (166, .goto 7, 169, 173, 0, 0, 0, 0, 0, 0)]),
  (194, [(169, .aload_n 0, 170, 0, 0, 0, 0, 0, 0, 0), (170, .getfield 322, 173, 11, 37, 0, 0, 1698, 0, 0), (173, .putfield 322, 176, 11, 37, 0, 0, 1698, 0, 0), (176, .iinc 12 1, 179, 12, 0, 0, 0, 0, 1, 0), (179, .goto (-104), 182, 75, 0, 0, 0, 0, 0, 0), (182, .aload_n 0, 183, 0, 0, 0, 0, 0, 0, 0), (183, .getfield 325, 186, 11, 34, 0, 0, 1695, 0, 0), (186, .iload 9, 188, 9, 0, 0, 0, 0, 0, 0), (188, .bipush 120, 190, 0, 0, 0, 0, 0, 120, 0), (190, .iadd, 191, 0, 0, 0, 0, 0, 0, 0), (191, .lload 10, 193, 10, 0, 0, 0, 0, 0, 0), (193, .lastore, 194, 0, 0, 0, 0, 0, 0, 0)]),
  (220, [(194, .iinc 9 1, 197, 9, 0, 0, 0, 0, 1, 0), (197, .goto (-137), 200, 60, 0, 0, 0, 0, 0, 0), (200, .aload_n 0, 201, 0, 0, 0, 0, 0, 0, 0), (201, .getfield 309, 204, 11, 33, 0, 0, 1694, 0, 0), (204, .astore 9, 206, 9, 0, 0, 0, 0, 0, 0), (206, .aload_n 0, 207, 0, 0, 0, 0, 0, 0, 0), (207, .aload_n 0, 208, 0, 0, 0, 0, 0, 0, 0), (208, .getfield 325, 211, 11, 34, 0, 0, 1695, 0, 0), (211, .putfield 309, 214, 11, 33, 2, 0, 1694, 0, 0), (214, .aload_n 0, 215, 0, 0, 0, 0, 0, 0, 0), (215, .aload 9, 217, 9, 0, 0, 0, 0, 0, 0), (217, .putfield 325, 220, 11, 34, 2, 0, 1695, 0, 0)]),
  (243, [(220, .lload 5, 222, 5, 0, 0, 0, 0, 0, 0), (222, .ldc2_w 328, 225, 0, 0, 0, 0, 1486, 0, 10), (225, .lmul, 226, 0, 0, 0, 0, 0, 0, 0), (226, .lstore 5, 228, 5, 0, 0, 0, 0, 0, 0), (228, .iinc 7 1, 231, 7, 0, 0, 0, 0, 1, 0), (231, .goto (-193), 234, 38, 0, 0, 0, 0, 0, 0), (234, .aload_n 0, 235, 0, 0, 0, 0, 0, 0, 0), (235, .getfield 309, 238, 11, 33, 0, 0, 1694, 0, 0), (238, .iload_n 2, 239, 2, 0, 0, 0, 0, 0, 0), (239, .bipush 120, 241, 0, 0, 0, 0, 0, 120, 0), (241, .iadd, 242, 0, 0, 0, 0, 0, 0, 0), (242, .laload, 243, 0, 0, 0, 0, 0, 0, 0)]),
  (100000, [(243, .lreturn, 244, 0, 0, 0, 0, 0, 0, 0)])]
def mmX11_steers : am_M := (yX11_steers, cX11_steers, 16, some .long, 0, 0, 5, 11, [1473, 1472, 55, 87, 1], tbX11_steers)
def tbX11_isSteering : List (Nat × List am_I) := [(26, [(0, .iload_n 0, 1, 0, 0, 0, 0, 0, 0, 0), (1, .i2l, 2, 0, 0, 0, 0, 0, 0, 0), (2, .lconst 0, 3, 0, 0, 0, 0, 0, 0, 0), (3, .ldc2_w 330, 6, 0, 0, 0, 0, 1466, 0, 4), (6, .invokestatic 34, 9, 149, 3, 1, 0, 1194, 0, 0), (9, .ifCond .eq 45, 12, 54, 0, 0, 0, 0, 0, 0), (12, .iload_n 1, 13, 1, 0, 0, 0, 0, 0, 0), (13, .i2l, 14, 0, 0, 0, 0, 0, 0, 0), (14, .ldc2_w 332, 17, 0, 0, 0, 0, 1467, 0, -50), (17, .ldc2_w 334, 20, 0, 0, 0, 0, 1468, 0, 50), (20, .invokestatic 34, 23, 149, 3, 1, 0, 1194, 0, 0), (23, .ifCond .eq 31, 26, 54, 0, 0, 0, 0, 0, 0)]),
  (50, [(26, .iload_n 2, 27, 2, 0, 0, 0, 0, 0, 0), (27, .i2l, 28, 0, 0, 0, 0, 0, 0, 0), (28, .lconst 1, 29, 0, 0, 0, 0, 0, 0, 1), (29, .ldc2_w 336, 32, 0, 0, 0, 0, 1469, 0, 6), (32, .invokestatic 34, 35, 149, 3, 1, 0, 1194, 0, 0), (35, .ifCond .eq 19, 38, 54, 0, 0, 0, 0, 0, 0), (38, .iload_n 3, 39, 3, 0, 0, 0, 0, 0, 0), (39, .i2l, 40, 0, 0, 0, 0, 0, 0, 0), (40, .lconst 1, 41, 0, 0, 0, 0, 0, 0, 1), (41, .ldc2_w 330, 44, 0, 0, 0, 0, 1466, 0, 4), (44, .invokestatic 34, 47, 149, 3, 1, 0, 1194, 0, 0), (47, .ifCond .eq 7, 50, 54, 0, 0, 0, 0, 0, 0)]),
  (100000, [(50, .iconst 1, 51, 0, 0, 0, 0, 0, 1, 0), (51, .goto 4, 54, 55, 0, 0, 0, 0, 0, 0), (54, .iconst 0, 55, 0, 0, 0, 0, 0, 0, 0), (55, .ireturn, 56, 0, 0, 0, 0, 0, 0, 0)])]
def mmX11_isSteering : am_M := (yX11_isSteering, cX11_isSteering, 4, some .boolean, 0, 0, 4, 11, [1465, 1464, 0, 87, 0], tbX11_isSteering)
def tbX11_steer : List (Nat × List am_I) := [(19, [(0, .aload_n 0, 1, 0, 0, 0, 0, 0, 0, 0), (1, .iconst 0, 2, 0, 0, 0, 0, 0, 0, 0), (2, .putfield 3, 5, 11, 0, 0, 0, 1661, 0, 0), (5, .iload_n 1, 6, 1, 0, 0, 0, 0, 0, 0), (6, .iload_n 2, 7, 2, 0, 0, 0, 0, 0, 0), (7, .iload_n 3, 8, 3, 0, 0, 0, 0, 0, 0), (8, .iload 4, 10, 4, 0, 0, 0, 0, 0, 0), (10, .invokestatic 338, 13, 211, 4, 1, 0, 1463, 0, 0), (13, .ifCond .ne 5, 16, 18, 0, 0, 0, 0, 0, 0), (16, .iconst (-1), 17, 0, 0, 0, 0, 0, -1, 0), (17, .ireturn, 18, 0, 0, 0, 0, 0, 0, 0), (18, .aload_n 0, 19, 0, 0, 0, 0, 0, 0, 0)]),
  (40, [(19, .iload_n 1, 20, 1, 0, 0, 0, 0, 0, 0), (20, .iload_n 2, 21, 2, 0, 0, 0, 0, 0, 0), (21, .iload_n 3, 22, 3, 0, 0, 0, 0, 0, 0), (22, .iload 4, 24, 4, 0, 0, 0, 0, 0, 0), (24, .invokevirtual 342, 27, 210, 5, 0, 11, 1470, 0, 0), (27, .lstore 5, 29, 5, 0, 0, 0, 0, 0, 0), (29, .aload_n 0, 30, 0, 0, 0, 0, 0, 0, 0), (30, .iconst 0, 31, 0, 0, 0, 0, 0, 0, 0), (31, .putfield 20, 34, 11, 1, 0, 0, 1662, 0, 0), (34, .aload_n 0, 35, 0, 0, 0, 0, 0, 0, 0), (35, .lload 5, 37, 5, 0, 0, 0, 0, 0, 0), (37, .invokevirtual 27, 40, 153, 2, 0, 11, 1406, 0, 0)]),
  (100000, [(40, .aload_n 0, 41, 0, 0, 0, 0, 0, 0, 0), (41, .aload_n 0, 42, 0, 0, 0, 0, 0, 0, 0), (42, .getfield 322, 45, 11, 37, 0, 0, 1698, 0, 0), (45, .i2l, 46, 0, 0, 0, 0, 0, 0, 0), (46, .invokevirtual 27, 49, 153, 2, 0, 11, 1406, 0, 0), (49, .iconst 0, 50, 0, 0, 0, 0, 0, 0, 0), (50, .ireturn, 51, 0, 0, 0, 0, 0, 0, 0)])]
def mmX11_steer : am_M := (yX11_steer, cX11_steer, 7, some .int, 0, 0, 5, 11, [1462, 1460, 1461, 87, 1], tbX11_steer)
def tbX11_power : List (Nat × List am_I) := [(18, [(0, .lconst 1, 1, 0, 0, 0, 0, 0, 0, 1), (1, .lstore_n 3, 2, 3, 0, 0, 0, 0, 0, 0), (2, .iconst 0, 3, 0, 0, 0, 0, 0, 0, 0), (3, .istore 5, 5, 5, 0, 0, 0, 0, 0, 0), (5, .iload 5, 7, 5, 0, 0, 0, 0, 0, 0), (7, .iload_n 2, 8, 2, 0, 0, 0, 0, 0, 0), (8, .if_icmp .ge 13, 11, 21, 0, 0, 0, 0, 0, 0), (11, .lload_n 3, 12, 3, 0, 0, 0, 0, 0, 0), (12, .lload_n 0, 13, 0, 0, 0, 0, 0, 0, 0), (13, .lmul, 14, 0, 0, 0, 0, 0, 0, 0), (14, .lstore_n 3, 15, 3, 0, 0, 0, 0, 0, 0), (15, .iinc 5 1, 18, 5, 0, 0, 0, 0, 1, 0)]),
  (100000, [(18, .goto (-13), 21, 5, 0, 0, 0, 0, 0, 0), (21, .lload_n 3, 22, 3, 0, 0, 0, 0, 0, 0), (22, .lreturn, 23, 0, 0, 0, 0, 0, 0, 0)])]
def mmX11_power : am_M := (yX11_power, cX11_power, 6, some .long, 0, 0, 2, 11, [1493, 1492, 0, 87, 0], tbX11_power)
def tbX11_blind : List (Nat × List am_I) := [(19, [(0, .aload_n 0, 1, 0, 0, 0, 0, 0, 0, 0), (1, .iconst 0, 2, 0, 0, 0, 0, 0, 0, 0), (2, .putfield 3, 5, 11, 0, 0, 0, 1661, 0, 0), (5, .iload_n 1, 6, 1, 0, 0, 0, 0, 0, 0), (6, .iload_n 2, 7, 2, 0, 0, 0, 0, 0, 0), (7, .iload_n 3, 8, 3, 0, 0, 0, 0, 0, 0), (8, .iload 4, 10, 4, 0, 0, 0, 0, 0, 0), (10, .invokestatic 338, 13, 211, 4, 1, 0, 1463, 0, 0), (13, .ifCond .ne 5, 16, 18, 0, 0, 0, 0, 0, 0), (16, .iconst (-1), 17, 0, 0, 0, 0, 0, -1, 0), (17, .ireturn, 18, 0, 0, 0, 0, 0, 0, 0), (18, .aload_n 0, 19, 0, 0, 0, 0, 0, 0, 0)]),
  (38, [(19, .iload_n 1, 20, 1, 0, 0, 0, 0, 0, 0), (20, .iload_n 2, 21, 2, 0, 0, 0, 0, 0, 0), (21, .iload_n 3, 22, 3, 0, 0, 0, 0, 0, 0), (22, .iload 4, 24, 4, 0, 0, 0, 0, 0, 0), (24, .invokevirtual 342, 27, 210, 5, 0, 11, 1470, 0, 0), (27, .lstore 5, 29, 5, 0, 0, 0, 0, 0, 0), (29, .aload_n 0, 30, 0, 0, 0, 0, 0, 0, 0), (30, .iconst 0, 31, 0, 0, 0, 0, 0, 0, 0), (31, .iload_n 2, 32, 2, 0, 0, 0, 0, 0, 0), (32, .iload_n 3, 33, 3, 0, 0, 0, 0, 0, 0), (33, .iload 4, 35, 4, 0, 0, 0, 0, 0, 0), (35, .invokevirtual 342, 38, 210, 5, 0, 11, 1470, 0, 0)]),
  (59, [(38, .lstore 7, 40, 7, 0, 0, 0, 0, 0, 0), (40, .aload_n 0, 41, 0, 0, 0, 0, 0, 0, 0), (41, .iconst 0, 42, 0, 0, 0, 0, 0, 0, 0), (42, .putfield 20, 45, 11, 1, 0, 0, 1662, 0, 0), (45, .aload_n 0, 46, 0, 0, 0, 0, 0, 0, 0), (46, .lload 5, 48, 5, 0, 0, 0, 0, 0, 0), (48, .lload 7, 50, 7, 0, 0, 0, 0, 0, 0), (50, .ldc2_w 328, 53, 0, 0, 0, 0, 1486, 0, 10), (53, .iload_n 1, 54, 1, 0, 0, 0, 0, 0, 0), (54, .invokestatic 346, 57, 213, 2, 1, 0, 1491, 0, 0), (57, .lmul, 58, 0, 0, 0, 0, 0, 0, 0), (58, .lsub, 59, 0, 0, 0, 0, 0, 0, 0)]),
  (100000, [(59, .ldc2_w 328, 62, 0, 0, 0, 0, 1486, 0, 10), (62, .iload_n 1, 63, 1, 0, 0, 0, 0, 0, 0), (63, .iload_n 3, 64, 3, 0, 0, 0, 0, 0, 0), (64, .iadd, 65, 0, 0, 0, 0, 0, 0, 0), (65, .invokestatic 346, 68, 213, 2, 1, 0, 1491, 0, 0), (68, .invokevirtual 350, 71, 155, 3, 0, 11, 1494, 0, 0), (71, .iconst 0, 72, 0, 0, 0, 0, 0, 0, 0), (72, .ireturn, 73, 0, 0, 0, 0, 0, 0, 0)])]
def mmX11_blind : am_M := (yX11_blind, cX11_blind, 9, some .int, 0, 0, 5, 11, [1490, 1488, 1489, 87, 1], tbX11_blind)
def tbX11_pulls : List (Nat × List am_I) := [(20, [(0, .aload_n 0, 1, 0, 0, 0, 0, 0, 0, 0), (1, .getfield 354, 4, 11, 38, 0, 0, 1699, 0, 0), (4, .iconst 0, 5, 0, 0, 0, 0, 0, 0, 0), (5, .iload_n 3, 6, 3, 0, 0, 0, 0, 0, 0), (6, .iastore, 7, 0, 0, 0, 0, 0, 0, 0), (7, .iconst 1, 8, 0, 0, 0, 0, 0, 1, 0), (8, .istore 5, 10, 5, 0, 0, 0, 0, 0, 0), (10, .iload 5, 12, 5, 0, 0, 0, 0, 0, 0), (12, .iload 4, 14, 4, 0, 0, 0, 0, 0, 0), (14, .if_icmp .gt 65, 17, 79, 0, 0, 0, 0, 0, 0), (17, .iload 5, 19, 5, 0, 0, 0, 0, 0, 0), (19, .iconst 1, 20, 0, 0, 0, 0, 0, 1, 0)]),
  (39, [(20, .isub, 21, 0, 0, 0, 0, 0, 0, 0), (21, .iload_n 1, 22, 1, 0, 0, 0, 0, 0, 0), (22, .isub, 23, 0, 0, 0, 0, 0, 0, 0), (23, .ifCond .ge 7, 26, 30, 0, 0, 0, 0, 0, 0), (26, .iload_n 3, 27, 3, 0, 0, 0, 0, 0, 0), (27, .goto 14, 30, 41, 0, 0, 0, 0, 0, 0), (30, .aload_n 0, 31, 0, 0, 0, 0, 0, 0, 0), (31, .getfield 354, 34, 11, 38, 0, 0, 1699, 0, 0), (34, .iload 5, 36, 5, 0, 0, 0, 0, 0, 0), (36, .iconst 1, 37, 0, 0, 0, 0, 0, 1, 0), (37, .isub, 38, 0, 0, 0, 0, 0, 0, 0), (38, .iload_n 1, 39, 1, 0, 0, 0, 0, 0, 0)]),
  (58, [(39, .isub, 40, 0, 0, 0, 0, 0, 0, 0), (40, .iaload, 41, 0, 0, 0, 0, 0, 0, 0), (41, .istore 6, 43, 6, 0, 0, 0, 0, 0, 0), (43, .aload_n 0, 44, 0, 0, 0, 0, 0, 0, 0), (44, .getfield 354, 47, 11, 38, 0, 0, 1699, 0, 0), (47, .iload 5, 49, 5, 0, 0, 0, 0, 0, 0), (49, .aload_n 0, 50, 0, 0, 0, 0, 0, 0, 0), (50, .getfield 354, 53, 11, 38, 0, 0, 1699, 0, 0), (53, .iload 5, 55, 5, 0, 0, 0, 0, 0, 0), (55, .iconst 1, 56, 0, 0, 0, 0, 0, 1, 0), (56, .isub, 57, 0, 0, 0, 0, 0, 0, 0), (57, .iaload, 58, 0, 0, 0, 0, 0, 0, 0)]),
  (100000, [(58, .iload_n 2, 59, 2, 0, 0, 0, 0, 0, 0), (59, .iload 6, 61, 6, 0, 0, 0, 0, 0, 0), (61, .imul, 62, 0, 0, 0, 0, 0, 0, 0), (62, .bipush 10, 64, 0, 0, 0, 0, 0, 10, 0), (64, .idiv, 65, 0, 0, 0, 0, 0, 0, 0), (65, .isub, 66, 0, 0, 0, 0, 0, 0, 0), (66, .ldc_w 357, 69, 0, 0, 0, 0, 1509, 99999, 0), (69, .invokestatic 235, 72, 152, 2, 1, 0, 1363, 0, 0), (72, .iastore, 73, 0, 0, 0, 0, 0, 0, 0), (73, .iinc 5 1, 76, 5, 0, 0, 0, 0, 1, 0), (76, .goto (-66), 79, 10, 0, 0, 0, 0, 0, 0), (79, .return_, 80, 0, 0, 0, 0, 0, 0, 0)])]
def mmX11_pulls : am_M := (yX11_pulls, cX11_pulls, 7, none, 0, 0, 5, 11, [1508, 1507, 60, 87, 1], tbX11_pulls)
def tbX11_greatest : List (Nat × List am_I) := [(19, [(0, .iconst 0, 1, 0, 0, 0, 0, 0, 0, 0), (1, .istore_n 3, 2, 3, 0, 0, 0, 0, 0, 0), (2, .iload_n 1, 3, 1, 0, 0, 0, 0, 0, 0), (3, .istore 4, 5, 4, 0, 0, 0, 0, 0, 0), (5, .iload 4, 7, 4, 0, 0, 0, 0, 0, 0), (7, .iload_n 2, 8, 2, 0, 0, 0, 0, 0, 0), (8, .if_icmp .ge 24, 11, 32, 0, 0, 0, 0, 0, 0), (11, .iload_n 3, 12, 3, 0, 0, 0, 0, 0, 0), (12, .aload_n 0, 13, 0, 0, 0, 0, 0, 0, 0), (13, .getfield 354, 16, 11, 38, 0, 0, 1699, 0, 0), (16, .iload 4, 18, 4, 0, 0, 0, 0, 0, 0), (18, .iaload, 19, 0, 0, 0, 0, 0, 0, 0)]),
  (100000, [(19, .invokestatic 266, 22, 0, 0, 8, 0, 1404, 0, 0), (22, .invokestatic 13, 25, 0, 0, 6, 0, 1236, 0, 0), (25, .istore_n 3, 26, 3, 0, 0, 0, 0, 0, 0), (26, .iinc 4 1, 29, 4, 0, 0, 0, 0, 1, 0), (29, .goto (-24), 32, 5, 0, 0, 0, 0, 0, 0), (32, .iload_n 3, 33, 3, 0, 0, 0, 0, 0, 0), (33, .ireturn, 34, 0, 0, 0, 0, 0, 0, 0)])]
def mmX11_greatest : am_M := (yX11_greatest, cX11_greatest, 5, some .int, 0, 0, 3, 11, [1513, 1512, 61, 87, 1], tbX11_greatest)
def tbX11_calm : List (Nat × List am_I) := [(16, [(0, .iload_n 1, 1, 1, 0, 0, 0, 0, 0, 0), (1, .iconst 1, 2, 0, 0, 0, 0, 0, 1, 0), (2, .iadd, 3, 0, 0, 0, 0, 0, 0, 0), (3, .istore_n 2, 4, 2, 0, 0, 0, 0, 0, 0), (4, .iload_n 2, 5, 2, 0, 0, 0, 0, 0, 0), (5, .ifCond .le 24, 8, 29, 0, 0, 0, 0, 0, 0), (8, .aload_n 0, 9, 0, 0, 0, 0, 0, 0, 0), (9, .getfield 354, 12, 11, 38, 0, 0, 1699, 0, 0), (12, .iload_n 2, 13, 2, 0, 0, 0, 0, 0, 0), (13, .iconst 1, 14, 0, 0, 0, 0, 0, 1, 0), (14, .isub, 15, 0, 0, 0, 0, 0, 0, 0), (15, .iaload, 16, 0, 0, 0, 0, 0, 0, 0)]),
  (100000, [(16, .invokestatic 266, 19, 0, 0, 8, 0, 1404, 0, 0), (19, .iconst 1, 20, 0, 0, 0, 0, 0, 1, 0), (20, .if_icmp .gt 9, 23, 29, 0, 0, 0, 0, 0, 0), (23, .iinc 2 (-1), 26, 2, 0, 0, 0, 0, -1, 0), (26, .goto (-22), 29, 4, 0, 0, 0, 0, 0, 0), (29, .iload_n 2, 30, 2, 0, 0, 0, 0, 0, 0), (30, .iload_n 1, 31, 1, 0, 0, 0, 0, 0, 0), (31, .if_icmp .le 7, 34, 38, 0, 0, 0, 0, 0, 0), (34, .iconst (-1), 35, 0, 0, 0, 0, 0, -1, 0), (35, .goto 4, 38, 39, 0, 0, 0, 0, 0, 0), (38, .iload_n 2, 39, 2, 0, 0, 0, 0, 0, 0), (39, .ireturn, 40, 0, 0, 0, 0, 0, 0, 0)])]
def mmX11_calm : am_M := (yX11_calm, cX11_calm, 3, some .int, 0, 0, 2, 11, [1517, 1516, 62, 87, 1], tbX11_calm)
def tbX11_pull : List (Nat × List am_I) := [(20, [(0, .aload_n 0, 1, 0, 0, 0, 0, 0, 0, 0), (1, .iconst 0, 2, 0, 0, 0, 0, 0, 0, 0), (2, .putfield 3, 5, 11, 0, 0, 0, 1661, 0, 0), (5, .iload_n 1, 6, 1, 0, 0, 0, 0, 0, 0), (6, .i2l, 7, 0, 0, 0, 0, 0, 0, 0), (7, .lconst 0, 8, 0, 0, 0, 0, 0, 0, 0), (8, .ldc2_w 42, 11, 0, 0, 0, 0, 1193, 0, 20), (11, .invokestatic 34, 14, 149, 3, 1, 0, 1194, 0, 0), (14, .ifCond .eq 42, 17, 56, 0, 0, 0, 0, 0, 0), (17, .iload_n 2, 18, 2, 0, 0, 0, 0, 0, 0), (18, .i2l, 19, 0, 0, 0, 0, 0, 0, 0), (19, .lconst 1, 20, 0, 0, 0, 0, 0, 0, 1)]),
  (47, [(20, .ldc2_w 42, 23, 0, 0, 0, 0, 1193, 0, 20), (23, .invokestatic 34, 26, 149, 3, 1, 0, 1194, 0, 0), (26, .ifCond .eq 30, 29, 56, 0, 0, 0, 0, 0, 0), (29, .iload_n 3, 30, 3, 0, 0, 0, 0, 0, 0), (30, .i2l, 31, 0, 0, 0, 0, 0, 0, 0), (31, .lconst 1, 32, 0, 0, 0, 0, 0, 0, 1), (32, .ldc2_w 81, 35, 0, 0, 0, 0, 1227, 0, 999), (35, .invokestatic 34, 38, 149, 3, 1, 0, 1194, 0, 0), (38, .ifCond .eq 18, 41, 56, 0, 0, 0, 0, 0, 0), (41, .iload 4, 43, 4, 0, 0, 0, 0, 0, 0), (43, .i2l, 44, 0, 0, 0, 0, 0, 0, 0), (44, .ldc2_w 59, 47, 0, 0, 0, 0, 1207, 0, 2)]),
  (68, [(47, .ldc2_w 257, 50, 0, 0, 0, 0, 1370, 0, 199), (50, .invokestatic 34, 53, 149, 3, 1, 0, 1194, 0, 0), (53, .ifCond .ne 5, 56, 58, 0, 0, 0, 0, 0, 0), (56, .iconst (-1), 57, 0, 0, 0, 0, 0, -1, 0), (57, .ireturn, 58, 0, 0, 0, 0, 0, 0, 0), (58, .aload_n 0, 59, 0, 0, 0, 0, 0, 0, 0), (59, .iload_n 1, 60, 1, 0, 0, 0, 0, 0, 0), (60, .iload_n 2, 61, 2, 0, 0, 0, 0, 0, 0), (61, .iload_n 3, 62, 3, 0, 0, 0, 0, 0, 0), (62, .iload 4, 64, 4, 0, 0, 0, 0, 0, 0), (64, .invokevirtual 358, 67, 215, 5, 0, 11, 1505, 0, 0), (67, .iconst 0, 68, 0, 0, 0, 0, 0, 0, 0)]),
  (90, [(68, .istore 5, 70, 5, 0, 0, 0, 0, 0, 0), (70, .iconst 0, 71, 0, 0, 0, 0, 0, 0, 0), (71, .istore 6, 73, 6, 0, 0, 0, 0, 0, 0), (73, .iconst 0, 74, 0, 0, 0, 0, 0, 0, 0), (74, .istore 7, 76, 7, 0, 0, 0, 0, 0, 0), (76, .iload 7, 78, 7, 0, 0, 0, 0, 0, 0), (78, .iload 4, 80, 4, 0, 0, 0, 0, 0, 0), (80, .if_icmp .gt 56, 83, 136, 0, 0, 0, 0, 0, 0), (83, .aload_n 0, 84, 0, 0, 0, 0, 0, 0, 0), (84, .getfield 354, 87, 11, 38, 0, 0, 1699, 0, 0), (87, .iload 7, 89, 7, 0, 0, 0, 0, 0, 0), (89, .iaload, 90, 0, 0, 0, 0, 0, 0, 0)]),
  (114, [(90, .invokestatic 298, 93, 255, 1, 1, 0, 1458, 0, 0), (93, .istore 8, 95, 8, 0, 0, 0, 0, 0, 0), (95, .iload 5, 97, 5, 0, 0, 0, 0, 0, 0), (97, .iload 8, 99, 8, 0, 0, 0, 0, 0, 0), (99, .iload 6, 101, 6, 0, 0, 0, 0, 0, 0), (101, .imul, 102, 0, 0, 0, 0, 0, 0, 0), (102, .ifCond .ge 7, 105, 109, 0, 0, 0, 0, 0, 0), (105, .iconst 1, 106, 0, 0, 0, 0, 0, 1, 0), (106, .goto 4, 109, 110, 0, 0, 0, 0, 0, 0), (109, .iconst 0, 110, 0, 0, 0, 0, 0, 0, 0), (110, .invokestatic 193, 113, 151, 1, 1, 0, 1357, 0, 0), (113, .iadd, 114, 0, 0, 0, 0, 0, 0, 0)]),
  (141, [(114, .istore 5, 116, 5, 0, 0, 0, 0, 0, 0), (116, .iload 8, 118, 8, 0, 0, 0, 0, 0, 0), (118, .ifCond .ne 8, 121, 126, 0, 0, 0, 0, 0, 0), (121, .iload 6, 123, 6, 0, 0, 0, 0, 0, 0), (123, .goto 5, 126, 128, 0, 0, 0, 0, 0, 0), (126, .iload 8, 128, 8, 0, 0, 0, 0, 0, 0), (128, .istore 6, 130, 6, 0, 0, 0, 0, 0, 0), (130, .iinc 7 1, 133, 7, 0, 0, 0, 0, 1, 0), (133, .goto (-57), 136, 76, 0, 0, 0, 0, 0, 0), (136, .aload_n 0, 137, 0, 0, 0, 0, 0, 0, 0), (137, .iconst 0, 138, 0, 0, 0, 0, 0, 0, 0), (138, .putfield 20, 141, 11, 1, 0, 0, 1662, 0, 0)]),
  (159, [(141, .aload_n 0, 142, 0, 0, 0, 0, 0, 0, 0), (142, .aload_n 0, 143, 0, 0, 0, 0, 0, 0, 0), (143, .iconst 0, 144, 0, 0, 0, 0, 0, 0, 0), (144, .iload 4, 146, 4, 0, 0, 0, 0, 0, 0), (146, .iconst 2, 147, 0, 0, 0, 0, 0, 2, 0), (147, .idiv, 148, 0, 0, 0, 0, 0, 0, 0), (148, .invokevirtual 362, 151, 216, 3, 0, 11, 1510, 0, 0), (151, .i2l, 152, 0, 0, 0, 0, 0, 0, 0), (152, .invokevirtual 27, 155, 153, 2, 0, 11, 1406, 0, 0), (155, .aload_n 0, 156, 0, 0, 0, 0, 0, 0, 0), (156, .iload 5, 158, 5, 0, 0, 0, 0, 0, 0), (158, .i2l, 159, 0, 0, 0, 0, 0, 0, 0)]),
  (180, [(159, .invokevirtual 27, 162, 153, 2, 0, 11, 1406, 0, 0), (162, .aload_n 0, 163, 0, 0, 0, 0, 0, 0, 0), (163, .aload_n 0, 164, 0, 0, 0, 0, 0, 0, 0), (164, .iload 4, 166, 4, 0, 0, 0, 0, 0, 0), (166, .invokevirtual 365, 169, 217, 2, 0, 11, 1514, 0, 0), (169, .i2l, 170, 0, 0, 0, 0, 0, 0, 0), (170, .invokevirtual 27, 173, 153, 2, 0, 11, 1406, 0, 0), (173, .aload_n 0, 174, 0, 0, 0, 0, 0, 0, 0), (174, .iload 4, 176, 4, 0, 0, 0, 0, 0, 0), (176, .iconst 2, 177, 0, 0, 0, 0, 0, 2, 0), (177, .idiv, 178, 0, 0, 0, 0, 0, 0, 0), (178, .iload 4, 180, 4, 0, 0, 0, 0, 0, 0)]),
  (100000, [(180, .iconst 1, 181, 0, 0, 0, 0, 0, 1, 0), (181, .iadd, 182, 0, 0, 0, 0, 0, 0, 0), (182, .invokevirtual 362, 185, 216, 3, 0, 11, 1510, 0, 0), (185, .ireturn, 186, 0, 0, 0, 0, 0, 0, 0)])]
def mmX11_pull : am_M := (yX11_pull, cX11_pull, 9, some .int, 0, 0, 5, 11, [1504, 1502, 1503, 87, 1], tbX11_pull)
def tbX11_edge : List (Nat × List am_I) := [(20, [(0, .aload_n 0, 1, 0, 0, 0, 0, 0, 0, 0), (1, .iconst 0, 2, 0, 0, 0, 0, 0, 0, 0), (2, .putfield 3, 5, 11, 0, 0, 0, 1661, 0, 0), (5, .iload_n 1, 6, 1, 0, 0, 0, 0, 0, 0), (6, .i2l, 7, 0, 0, 0, 0, 0, 0, 0), (7, .lconst 0, 8, 0, 0, 0, 0, 0, 0, 0), (8, .ldc2_w 42, 11, 0, 0, 0, 0, 1193, 0, 20), (11, .invokestatic 34, 14, 149, 3, 1, 0, 1194, 0, 0), (14, .ifCond .ne 5, 17, 19, 0, 0, 0, 0, 0, 0), (17, .iconst (-1), 18, 0, 0, 0, 0, 0, -1, 0), (18, .ireturn, 19, 0, 0, 0, 0, 0, 0, 0), (19, .iconst 1, 20, 0, 0, 0, 0, 0, 1, 0)]),
  (41, [(20, .istore_n 2, 21, 2, 0, 0, 0, 0, 0, 0), (21, .iload_n 2, 22, 2, 0, 0, 0, 0, 0, 0), (22, .bipush 20, 24, 0, 0, 0, 0, 0, 20, 0), (24, .if_icmp .gt 36, 27, 60, 0, 0, 0, 0, 0, 0), (27, .aload_n 0, 28, 0, 0, 0, 0, 0, 0, 0), (28, .iload_n 1, 29, 1, 0, 0, 0, 0, 0, 0), (29, .iload_n 2, 30, 2, 0, 0, 0, 0, 0, 0), (30, .bipush 100, 32, 0, 0, 0, 0, 0, 100, 0), (32, .sipush 199, 35, 0, 0, 0, 0, 0, 199, 0), (35, .invokevirtual 358, 38, 215, 5, 0, 11, 1505, 0, 0), (38, .aload_n 0, 39, 0, 0, 0, 0, 0, 0, 0), (39, .bipush 99, 41, 0, 0, 0, 0, 0, 99, 0)]),
  (100000, [(41, .sipush 200, 44, 0, 0, 0, 0, 0, 200, 0), (44, .invokevirtual 362, 47, 216, 3, 0, 11, 1510, 0, 0), (47, .bipush 100, 49, 0, 0, 0, 0, 0, 100, 0), (49, .if_icmp .le 5, 52, 54, 0, 0, 0, 0, 0, 0), (52, .iload_n 2, 53, 2, 0, 0, 0, 0, 0, 0), (53, .ireturn, 54, 0, 0, 0, 0, 0, 0, 0), (54, .iinc 2 1, 57, 2, 0, 0, 0, 0, 1, 0), (57, .goto (-36), 60, 21, 0, 0, 0, 0, 0, 0), (60, .bipush (-2), 62, 0, 0, 0, 0, 0, -2, 0), (62, .ireturn, 63, 0, 0, 0, 0, 0, 0, 0)])]
def mmX11_edge : am_M := (yX11_edge, cX11_edge, 3, some .int, 0, 0, 2, 11, [1521, 1519, 1520, 87, 1], tbX11_edge)
def tbX11_gentle : List (Nat × List am_I) := [(20, [(0, .aload_n 0, 1, 0, 0, 0, 0, 0, 0, 0), (1, .iconst 0, 2, 0, 0, 0, 0, 0, 0, 0), (2, .putfield 3, 5, 11, 0, 0, 0, 1661, 0, 0), (5, .iload_n 1, 6, 1, 0, 0, 0, 0, 0, 0), (6, .i2l, 7, 0, 0, 0, 0, 0, 0, 0), (7, .lconst 0, 8, 0, 0, 0, 0, 0, 0, 0), (8, .ldc2_w 42, 11, 0, 0, 0, 0, 1193, 0, 20), (11, .invokestatic 34, 14, 149, 3, 1, 0, 1194, 0, 0), (14, .ifCond .eq 15, 17, 29, 0, 0, 0, 0, 0, 0), (17, .iload_n 2, 18, 2, 0, 0, 0, 0, 0, 0), (18, .i2l, 19, 0, 0, 0, 0, 0, 0, 0), (19, .lconst 1, 20, 0, 0, 0, 0, 0, 0, 1)]),
  (42, [(20, .ldc2_w 81, 23, 0, 0, 0, 0, 1227, 0, 999), (23, .invokestatic 34, 26, 149, 3, 1, 0, 1194, 0, 0), (26, .ifCond .ne 5, 29, 31, 0, 0, 0, 0, 0, 0), (29, .iconst (-1), 30, 0, 0, 0, 0, 0, -1, 0), (30, .ireturn, 31, 0, 0, 0, 0, 0, 0, 0), (31, .bipush (-2), 33, 0, 0, 0, 0, 0, -2, 0), (33, .istore_n 3, 34, 3, 0, 0, 0, 0, 0, 0), (34, .iconst 0, 35, 0, 0, 0, 0, 0, 0, 0), (35, .istore 4, 37, 4, 0, 0, 0, 0, 0, 0), (37, .iconst 1, 38, 0, 0, 0, 0, 0, 1, 0), (38, .istore 5, 40, 5, 0, 0, 0, 0, 0, 0), (40, .iload 5, 42, 5, 0, 0, 0, 0, 0, 0)]),
  (67, [(42, .bipush 20, 44, 0, 0, 0, 0, 0, 20, 0), (44, .if_icmp .gt 52, 47, 96, 0, 0, 0, 0, 0, 0), (47, .aload_n 0, 48, 0, 0, 0, 0, 0, 0, 0), (48, .iload_n 1, 49, 1, 0, 0, 0, 0, 0, 0), (49, .iload 5, 51, 5, 0, 0, 0, 0, 0, 0), (51, .iload_n 2, 52, 2, 0, 0, 0, 0, 0, 0), (52, .sipush 199, 55, 0, 0, 0, 0, 0, 199, 0), (55, .invokevirtual 358, 58, 215, 5, 0, 11, 1505, 0, 0), (58, .aload_n 0, 59, 0, 0, 0, 0, 0, 0, 0), (59, .sipush 199, 62, 0, 0, 0, 0, 0, 199, 0), (62, .invokevirtual 365, 65, 217, 2, 0, 11, 1514, 0, 0), (65, .istore 6, 67, 6, 0, 0, 0, 0, 0, 0)]),
  (93, [(67, .iload 6, 69, 6, 0, 0, 0, 0, 0, 0), (69, .ifCond .lt 21, 72, 90, 0, 0, 0, 0, 0, 0), (72, .iload_n 3, 73, 3, 0, 0, 0, 0, 0, 0), (73, .ifCond .lt 10, 76, 83, 0, 0, 0, 0, 0, 0), (76, .iload 6, 78, 6, 0, 0, 0, 0, 0, 0), (78, .iload 4, 80, 4, 0, 0, 0, 0, 0, 0), (80, .if_icmp .ge 10, 83, 90, 0, 0, 0, 0, 0, 0), (83, .iload 5, 85, 5, 0, 0, 0, 0, 0, 0), (85, .istore_n 3, 86, 3, 0, 0, 0, 0, 0, 0), (86, .iload 6, 88, 6, 0, 0, 0, 0, 0, 0), (88, .istore 4, 90, 4, 0, 0, 0, 0, 0, 0), (90, .iinc 5 1, 93, 5, 0, 0, 0, 0, 1, 0)]),
  (100000, [(93, .goto (-53), 96, 40, 0, 0, 0, 0, 0, 0), (96, .iload_n 3, 97, 3, 0, 0, 0, 0, 0, 0), (97, .ifCond .lt 15, 100, 112, 0, 0, 0, 0, 0, 0), (100, .aload_n 0, 101, 0, 0, 0, 0, 0, 0, 0), (101, .iconst 0, 102, 0, 0, 0, 0, 0, 0, 0), (102, .putfield 20, 105, 11, 1, 0, 0, 1662, 0, 0), (105, .aload_n 0, 106, 0, 0, 0, 0, 0, 0, 0), (106, .iload 4, 108, 4, 0, 0, 0, 0, 0, 0), (108, .i2l, 109, 0, 0, 0, 0, 0, 0, 0), (109, .invokevirtual 27, 112, 153, 2, 0, 11, 1406, 0, 0), (112, .iload_n 3, 113, 3, 0, 0, 0, 0, 0, 0), (113, .ireturn, 114, 0, 0, 0, 0, 0, 0, 0)])]
def mmX11_gentle : am_M := (yX11_gentle, cX11_gentle, 7, some .int, 0, 0, 3, 11, [1525, 1523, 1524, 87, 1], tbX11_gentle)
def tbX11_weight : List (Nat × List am_I) := [(20, [(0, .aload_n 0, 1, 0, 0, 0, 0, 0, 0, 0), (1, .iconst 0, 2, 0, 0, 0, 0, 0, 0, 0), (2, .putfield 3, 5, 11, 0, 0, 0, 1661, 0, 0), (5, .iload_n 1, 6, 1, 0, 0, 0, 0, 0, 0), (6, .i2l, 7, 0, 0, 0, 0, 0, 0, 0), (7, .lconst 0, 8, 0, 0, 0, 0, 0, 0, 0), (8, .ldc2_w 59, 11, 0, 0, 0, 0, 1207, 0, 2), (11, .invokestatic 34, 14, 149, 3, 1, 0, 1194, 0, 0), (14, .ifCond .eq 27, 17, 41, 0, 0, 0, 0, 0, 0), (17, .iload_n 2, 18, 2, 0, 0, 0, 0, 0, 0), (18, .i2l, 19, 0, 0, 0, 0, 0, 0, 0), (19, .lconst 0, 20, 0, 0, 0, 0, 0, 0, 0)]),
  (44, [(20, .ldc2_w 59, 23, 0, 0, 0, 0, 1207, 0, 2), (23, .invokestatic 34, 26, 149, 3, 1, 0, 1194, 0, 0), (26, .ifCond .eq 15, 29, 41, 0, 0, 0, 0, 0, 0), (29, .iload_n 3, 30, 3, 0, 0, 0, 0, 0, 0), (30, .i2l, 31, 0, 0, 0, 0, 0, 0, 0), (31, .lconst 0, 32, 0, 0, 0, 0, 0, 0, 0), (32, .ldc2_w 94, 35, 0, 0, 0, 0, 1229, 0, 99), (35, .invokestatic 34, 38, 149, 3, 1, 0, 1194, 0, 0), (38, .ifCond .ne 5, 41, 43, 0, 0, 0, 0, 0, 0), (41, .iconst (-1), 42, 0, 0, 0, 0, 0, -1, 0), (42, .ireturn, 43, 0, 0, 0, 0, 0, 0, 0), (43, .aload_n 0, 44, 0, 0, 0, 0, 0, 0, 0)]),
  (61, [(44, .getfield 368, 47, 11, 39, 0, 0, 1700, 0, 0), (47, .iconst 3, 48, 0, 0, 0, 0, 0, 3, 0), (48, .iload_n 1, 49, 1, 0, 0, 0, 0, 0, 0), (49, .imul, 50, 0, 0, 0, 0, 0, 0, 0), (50, .iload_n 2, 51, 2, 0, 0, 0, 0, 0, 0), (51, .iadd, 52, 0, 0, 0, 0, 0, 0, 0), (52, .iaload, 53, 0, 0, 0, 0, 0, 0, 0), (53, .istore 4, 55, 4, 0, 0, 0, 0, 0, 0), (55, .aload_n 0, 56, 0, 0, 0, 0, 0, 0, 0), (56, .getfield 368, 59, 11, 39, 0, 0, 1700, 0, 0), (59, .iconst 3, 60, 0, 0, 0, 0, 0, 3, 0), (60, .iload_n 1, 61, 1, 0, 0, 0, 0, 0, 0)]),
  (100000, [(61, .imul, 62, 0, 0, 0, 0, 0, 0, 0), (62, .iload_n 2, 63, 2, 0, 0, 0, 0, 0, 0), (63, .iadd, 64, 0, 0, 0, 0, 0, 0, 0), (64, .iload_n 3, 65, 3, 0, 0, 0, 0, 0, 0), (65, .iastore, 66, 0, 0, 0, 0, 0, 0, 0), (66, .iload 4, 68, 4, 0, 0, 0, 0, 0, 0), (68, .ireturn, 69, 0, 0, 0, 0, 0, 0, 0)])]
def mmX11_weight : am_M := (yX11_weight, cX11_weight, 5, some .int, 0, 0, 4, 11, [1529, 1527, 1528, 87, 1], tbX11_weight)
def tbX11_worth : List (Nat × List am_I) := [(18, [(0, .aload_n 0, 1, 0, 0, 0, 0, 0, 0, 0), (1, .getfield 200, 4, 11, 22, 0, 0, 1683, 0, 0), (4, .iconst 0, 5, 0, 0, 0, 0, 0, 0, 0), (5, .iload_n 1, 6, 1, 0, 0, 0, 0, 0, 0), (6, .iastore, 7, 0, 0, 0, 0, 0, 0, 0), (7, .aload_n 0, 8, 0, 0, 0, 0, 0, 0, 0), (8, .getfield 200, 11, 11, 22, 0, 0, 1683, 0, 0), (11, .iconst 1, 12, 0, 0, 0, 0, 0, 1, 0), (12, .iload_n 2, 13, 2, 0, 0, 0, 0, 0, 0), (13, .iastore, 14, 0, 0, 0, 0, 0, 0, 0), (14, .aload_n 0, 15, 0, 0, 0, 0, 0, 0, 0), (15, .getfield 200, 18, 11, 22, 0, 0, 1683, 0, 0)]),
  (35, [(18, .iconst 2, 19, 0, 0, 0, 0, 0, 2, 0), (19, .iload_n 3, 20, 3, 0, 0, 0, 0, 0, 0), (20, .iastore, 21, 0, 0, 0, 0, 0, 0, 0), (21, .aload_n 0, 22, 0, 0, 0, 0, 0, 0, 0), (22, .getfield 200, 25, 11, 22, 0, 0, 1683, 0, 0), (25, .iconst 3, 26, 0, 0, 0, 0, 0, 3, 0), (26, .iload 4, 28, 4, 0, 0, 0, 0, 0, 0), (28, .iastore, 29, 0, 0, 0, 0, 0, 0, 0), (29, .aload_n 0, 30, 0, 0, 0, 0, 0, 0, 0), (30, .getfield 368, 33, 11, 39, 0, 0, 1700, 0, 0), (33, .iconst 3, 34, 0, 0, 0, 0, 0, 3, 0), (34, .iload_n 1, 35, 1, 0, 0, 0, 0, 0, 0)]),
  (100000, [(35, .imul, 36, 0, 0, 0, 0, 0, 0, 0), (36, .iload_n 2, 37, 2, 0, 0, 0, 0, 0, 0), (37, .iadd, 38, 0, 0, 0, 0, 0, 0, 0), (38, .iaload, 39, 0, 0, 0, 0, 0, 0, 0), (39, .i2l, 40, 0, 0, 0, 0, 0, 0, 0), (40, .aload_n 0, 41, 0, 0, 0, 0, 0, 0, 0), (41, .bipush 12, 43, 0, 0, 0, 0, 0, 12, 0), (43, .invokevirtual 232, 46, 177, 2, 0, 11, 1353, 0, 0), (46, .i2l, 47, 0, 0, 0, 0, 0, 0, 0), (47, .lmul, 48, 0, 0, 0, 0, 0, 0, 0), (48, .lreturn, 49, 0, 0, 0, 0, 0, 0, 0)])]
def mmX11_worth : am_M := (yX11_worth, cX11_worth, 5, some .long, 0, 0, 5, 11, [1551, 1550, 65, 87, 1], tbX11_worth)
def tbX11_thingOf : List (Nat × List am_I) := [(20, [(0, .iload_n 1, 1, 1, 0, 0, 0, 0, 0, 0), (1, .ifCond .ne 10, 4, 11, 0, 0, 0, 0, 0, 0), (4, .iload_n 0, 5, 0, 0, 0, 0, 0, 0, 0), (5, .bipush 100, 7, 0, 0, 0, 0, 0, 100, 0), (7, .idiv, 8, 0, 0, 0, 0, 0, 0, 0), (8, .goto 22, 11, 30, 0, 0, 0, 0, 0, 0), (11, .iload_n 1, 12, 1, 0, 0, 0, 0, 0, 0), (12, .iconst 1, 13, 0, 0, 0, 0, 0, 1, 0), (13, .if_icmp .ne 13, 16, 26, 0, 0, 0, 0, 0, 0), (16, .iload_n 0, 17, 0, 0, 0, 0, 0, 0, 0), (17, .bipush 10, 19, 0, 0, 0, 0, 0, 10, 0), (19, .idiv, 20, 0, 0, 0, 0, 0, 0, 0)]),
  (100000, [(20, .bipush 10, 22, 0, 0, 0, 0, 0, 10, 0), (22, .irem, 23, 0, 0, 0, 0, 0, 0, 0), (23, .goto 7, 26, 30, 0, 0, 0, 0, 0, 0), (26, .iload_n 0, 27, 0, 0, 0, 0, 0, 0, 0), (27, .bipush 10, 29, 0, 0, 0, 0, 0, 10, 0), (29, .irem, 30, 0, 0, 0, 0, 0, 0, 0), (30, .ireturn, 31, 0, 0, 0, 0, 0, 0, 0)])]
def mmX11_thingOf : am_M := (yX11_thingOf, cX11_thingOf, 2, some .int, 0, 0, 2, 11, [1547, 1546, 0, 87, 0], tbX11_thingOf)
def tbX11_worthOf : List (Nat × List am_I) := [(20, [(0, .lconst 0, 1, 0, 0, 0, 0, 0, 0, 0), (1, .lstore_n 3, 2, 3, 0, 0, 0, 0, 0, 0), (2, .iconst 0, 3, 0, 0, 0, 0, 0, 0, 0), (3, .istore 5, 5, 5, 0, 0, 0, 0, 0, 0), (5, .iload 5, 7, 5, 0, 0, 0, 0, 0, 0), (7, .iconst 3, 8, 0, 0, 0, 0, 0, 3, 0), (8, .if_icmp .ge 47, 11, 55, 0, 0, 0, 0, 0, 0), (11, .iconst 0, 12, 0, 0, 0, 0, 0, 0, 0), (12, .istore 6, 14, 6, 0, 0, 0, 0, 0, 0), (14, .iload 6, 16, 6, 0, 0, 0, 0, 0, 0), (16, .iconst 3, 17, 0, 0, 0, 0, 0, 3, 0), (17, .if_icmp .ge 32, 20, 49, 0, 0, 0, 0, 0, 0)]),
  (42, [(20, .lload_n 3, 21, 3, 0, 0, 0, 0, 0, 0), (21, .aload_n 0, 22, 0, 0, 0, 0, 0, 0, 0), (22, .iload 5, 24, 5, 0, 0, 0, 0, 0, 0), (24, .iload 6, 26, 6, 0, 0, 0, 0, 0, 0), (26, .iload_n 1, 27, 1, 0, 0, 0, 0, 0, 0), (27, .iload 5, 29, 5, 0, 0, 0, 0, 0, 0), (29, .invokestatic 371, 32, 223, 2, 1, 0, 1545, 0, 0), (32, .iload_n 2, 33, 2, 0, 0, 0, 0, 0, 0), (33, .iload 6, 35, 6, 0, 0, 0, 0, 0, 0), (35, .invokestatic 371, 38, 223, 2, 1, 0, 1545, 0, 0), (38, .invokevirtual 374, 41, 222, 5, 0, 11, 1548, 0, 0), (41, .ladd, 42, 0, 0, 0, 0, 0, 0, 0)]),
  (100000, [(42, .lstore_n 3, 43, 3, 0, 0, 0, 0, 0, 0), (43, .iinc 6 1, 46, 6, 0, 0, 0, 0, 1, 0), (46, .goto (-32), 49, 14, 0, 0, 0, 0, 0, 0), (49, .iinc 5 1, 52, 5, 0, 0, 0, 0, 1, 0), (52, .goto (-47), 55, 5, 0, 0, 0, 0, 0, 0), (55, .lload_n 3, 56, 3, 0, 0, 0, 0, 0, 0), (56, .lreturn, 57, 0, 0, 0, 0, 0, 0, 0)])]
def mmX11_worthOf : am_M := (yX11_worthOf, cX11_worthOf, 7, some .long, 0, 0, 3, 11, [1544, 1543, 64, 87, 1], tbX11_worthOf)
def tbX11_ruleAt : List (Nat × List am_I) := [(15, [(0, .iload_n 0, 1, 0, 0, 0, 0, 0, 0, 0), (1, .bipush 9, 3, 0, 0, 0, 0, 0, 9, 0), (3, .idiv, 4, 0, 0, 0, 0, 0, 0, 0), (4, .bipush 100, 6, 0, 0, 0, 0, 0, 100, 0), (6, .imul, 7, 0, 0, 0, 0, 0, 0, 0), (7, .iload_n 0, 8, 0, 0, 0, 0, 0, 0, 0), (8, .iconst 3, 9, 0, 0, 0, 0, 0, 3, 0), (9, .idiv, 10, 0, 0, 0, 0, 0, 0, 0), (10, .iconst 3, 11, 0, 0, 0, 0, 0, 3, 0), (11, .irem, 12, 0, 0, 0, 0, 0, 0, 0), (12, .bipush 10, 14, 0, 0, 0, 0, 0, 10, 0), (14, .imul, 15, 0, 0, 0, 0, 0, 0, 0)]),
  (100000, [(15, .iadd, 16, 0, 0, 0, 0, 0, 0, 0), (16, .iload_n 0, 17, 0, 0, 0, 0, 0, 0, 0), (17, .iconst 3, 18, 0, 0, 0, 0, 0, 3, 0), (18, .irem, 19, 0, 0, 0, 0, 0, 0, 0), (19, .iadd, 20, 0, 0, 0, 0, 0, 0, 0), (20, .ireturn, 21, 0, 0, 0, 0, 0, 0, 0)])]
def mmX11_ruleAt : am_M := (yX11_ruleAt, cX11_ruleAt, 1, some .int, 0, 0, 1, 11, [1540, 1539, 0, 87, 0], tbX11_ruleAt)
def tbX11_bestOfTwo : List (Nat × List am_I) := [(19, [(0, .iconst 0, 1, 0, 0, 0, 0, 0, 0, 0), (1, .istore_n 1, 2, 1, 0, 0, 0, 0, 0, 0), (2, .lconst 0, 3, 0, 0, 0, 0, 0, 0, 0), (3, .lstore_n 2, 4, 2, 0, 0, 0, 0, 0, 0), (4, .iconst 0, 5, 0, 0, 0, 0, 0, 0, 0), (5, .istore 4, 7, 4, 0, 0, 0, 0, 0, 0), (7, .iload 4, 9, 4, 0, 0, 0, 0, 0, 0), (9, .bipush 27, 11, 0, 0, 0, 0, 0, 27, 0), (11, .if_icmp .ge 75, 14, 86, 0, 0, 0, 0, 0, 0), (14, .iconst 0, 15, 0, 0, 0, 0, 0, 0, 0), (15, .istore 5, 17, 5, 0, 0, 0, 0, 0, 0), (17, .iload 5, 19, 5, 0, 0, 0, 0, 0, 0)]),
  (46, [(19, .bipush 27, 21, 0, 0, 0, 0, 0, 27, 0), (21, .if_icmp .ge 59, 24, 80, 0, 0, 0, 0, 0, 0), (24, .aload_n 0, 25, 0, 0, 0, 0, 0, 0, 0), (25, .iload 4, 27, 4, 0, 0, 0, 0, 0, 0), (27, .invokestatic 377, 30, 225, 1, 1, 0, 1538, 0, 0), (30, .iload 5, 32, 5, 0, 0, 0, 0, 0, 0), (32, .invokestatic 377, 35, 225, 1, 1, 0, 1538, 0, 0), (35, .invokevirtual 380, 38, 224, 3, 0, 11, 1541, 0, 0), (38, .lstore 6, 40, 6, 0, 0, 0, 0, 0, 0), (40, .iload_n 1, 41, 1, 0, 0, 0, 0, 0, 0), (41, .ifCond .eq 10, 44, 51, 0, 0, 0, 0, 0, 0), (44, .lload 6, 46, 6, 0, 0, 0, 0, 0, 0)]),
  (66, [(46, .lload_n 2, 47, 2, 0, 0, 0, 0, 0, 0), (47, .lcmp, 48, 0, 0, 0, 0, 0, 0, 0), (48, .ifCond .le 26, 51, 74, 0, 0, 0, 0, 0, 0), (51, .iconst 1, 52, 0, 0, 0, 0, 0, 1, 0), (52, .istore_n 1, 53, 1, 0, 0, 0, 0, 0, 0), (53, .lload 6, 55, 6, 0, 0, 0, 0, 0, 0), (55, .lstore_n 2, 56, 2, 0, 0, 0, 0, 0, 0), (56, .aload_n 0, 57, 0, 0, 0, 0, 0, 0, 0), (57, .iload 4, 59, 4, 0, 0, 0, 0, 0, 0), (59, .invokestatic 377, 62, 225, 1, 1, 0, 1538, 0, 0), (62, .putfield 384, 65, 11, 40, 0, 0, 1701, 0, 0), (65, .aload_n 0, 66, 0, 0, 0, 0, 0, 0, 0)]),
  (100000, [(66, .iload 5, 68, 5, 0, 0, 0, 0, 0, 0), (68, .invokestatic 377, 71, 225, 1, 1, 0, 1538, 0, 0), (71, .putfield 387, 74, 11, 41, 0, 0, 1702, 0, 0), (74, .iinc 5 1, 77, 5, 0, 0, 0, 0, 1, 0), (77, .goto (-60), 80, 17, 0, 0, 0, 0, 0, 0), (80, .iinc 4 1, 83, 4, 0, 0, 0, 0, 1, 0), (83, .goto (-76), 86, 7, 0, 0, 0, 0, 0, 0), (86, .lload_n 2, 87, 2, 0, 0, 0, 0, 0, 0), (87, .lreturn, 88, 0, 0, 0, 0, 0, 0, 0)])]
def mmX11_bestOfTwo : am_M := (yX11_bestOfTwo, cX11_bestOfTwo, 8, some .long, 0, 0, 1, 11, [1537, 1536, 63, 87, 1], tbX11_bestOfTwo)
def tbX11_two : List (Nat × List am_I) := [(18, [(0, .aload_n 0, 1, 0, 0, 0, 0, 0, 0, 0), (1, .iconst 0, 2, 0, 0, 0, 0, 0, 0, 0), (2, .putfield 3, 5, 11, 0, 0, 0, 1661, 0, 0), (5, .aload_n 0, 6, 0, 0, 0, 0, 0, 0, 0), (6, .invokevirtual 390, 9, 226, 1, 0, 11, 1534, 0, 0), (9, .lstore_n 1, 10, 1, 0, 0, 0, 0, 0, 0), (10, .aload_n 0, 11, 0, 0, 0, 0, 0, 0, 0), (11, .iconst 0, 12, 0, 0, 0, 0, 0, 0, 0), (12, .putfield 20, 15, 11, 1, 0, 0, 1662, 0, 0), (15, .iconst 0, 16, 0, 0, 0, 0, 0, 0, 0), (16, .istore_n 3, 17, 3, 0, 0, 0, 0, 0, 0), (17, .iload_n 3, 18, 3, 0, 0, 0, 0, 0, 0)]),
  (42, [(18, .iconst 3, 19, 0, 0, 0, 0, 0, 3, 0), (19, .if_icmp .ge 22, 22, 41, 0, 0, 0, 0, 0, 0), (22, .aload_n 0, 23, 0, 0, 0, 0, 0, 0, 0), (23, .aload_n 0, 24, 0, 0, 0, 0, 0, 0, 0), (24, .getfield 384, 27, 11, 40, 0, 0, 1701, 0, 0), (27, .iload_n 3, 28, 3, 0, 0, 0, 0, 0, 0), (28, .invokestatic 371, 31, 223, 2, 1, 0, 1545, 0, 0), (31, .i2l, 32, 0, 0, 0, 0, 0, 0, 0), (32, .invokevirtual 27, 35, 153, 2, 0, 11, 1406, 0, 0), (35, .iinc 3 1, 38, 3, 0, 0, 0, 0, 1, 0), (38, .goto (-21), 41, 17, 0, 0, 0, 0, 0, 0), (41, .iconst 0, 42, 0, 0, 0, 0, 0, 0, 0)]),
  (64, [(42, .istore_n 3, 43, 3, 0, 0, 0, 0, 0, 0), (43, .iload_n 3, 44, 3, 0, 0, 0, 0, 0, 0), (44, .iconst 3, 45, 0, 0, 0, 0, 0, 3, 0), (45, .if_icmp .ge 22, 48, 67, 0, 0, 0, 0, 0, 0), (48, .aload_n 0, 49, 0, 0, 0, 0, 0, 0, 0), (49, .aload_n 0, 50, 0, 0, 0, 0, 0, 0, 0), (50, .getfield 387, 53, 11, 41, 0, 0, 1702, 0, 0), (53, .iload_n 3, 54, 3, 0, 0, 0, 0, 0, 0), (54, .invokestatic 371, 57, 223, 2, 1, 0, 1545, 0, 0), (57, .i2l, 58, 0, 0, 0, 0, 0, 0, 0), (58, .invokevirtual 27, 61, 153, 2, 0, 11, 1406, 0, 0), (61, .iinc 3 1, 64, 3, 0, 0, 0, 0, 1, 0)]),
  (100000, [(64, .goto (-21), 67, 43, 0, 0, 0, 0, 0, 0), (67, .lload_n 1, 68, 1, 0, 0, 0, 0, 0, 0), (68, .lreturn, 69, 0, 0, 0, 0, 0, 0, 0)])]
def mmX11_two : am_M := (yX11_two, cX11_two, 4, some .long, 0, 0, 1, 11, [1533, 1531, 1532, 87, 1], tbX11_two)
def tbX11_partOf : List (Nat × List am_I) := [(20, [(0, .lconst 0, 1, 0, 0, 0, 0, 0, 0, 0), (1, .lstore 5, 3, 5, 0, 0, 0, 0, 0, 0), (3, .iconst 0, 4, 0, 0, 0, 0, 0, 0, 0), (4, .istore 7, 6, 7, 0, 0, 0, 0, 0, 0), (6, .iload 7, 8, 7, 0, 0, 0, 0, 0, 0), (8, .iconst 3, 9, 0, 0, 0, 0, 0, 3, 0), (9, .if_icmp .ge 51, 12, 60, 0, 0, 0, 0, 0, 0), (12, .lload 5, 14, 5, 0, 0, 0, 0, 0, 0), (14, .iload_n 1, 15, 1, 0, 0, 0, 0, 0, 0), (15, .ifCond .ne 21, 18, 36, 0, 0, 0, 0, 0, 0), (18, .aload_n 0, 19, 0, 0, 0, 0, 0, 0, 0), (19, .iload_n 2, 20, 2, 0, 0, 0, 0, 0, 0)]),
  (44, [(20, .iload 7, 22, 7, 0, 0, 0, 0, 0, 0), (22, .iload_n 3, 23, 3, 0, 0, 0, 0, 0, 0), (23, .iload 4, 25, 4, 0, 0, 0, 0, 0, 0), (25, .iload 7, 27, 7, 0, 0, 0, 0, 0, 0), (27, .invokestatic 371, 30, 223, 2, 1, 0, 1545, 0, 0), (30, .invokevirtual 374, 33, 222, 5, 0, 11, 1548, 0, 0), (33, .goto 18, 36, 51, 0, 0, 0, 0, 0, 0), (36, .aload_n 0, 37, 0, 0, 0, 0, 0, 0, 0), (37, .iload 7, 39, 7, 0, 0, 0, 0, 0, 0), (39, .iload_n 2, 40, 2, 0, 0, 0, 0, 0, 0), (40, .iload 4, 42, 4, 0, 0, 0, 0, 0, 0), (42, .iload 7, 44, 7, 0, 0, 0, 0, 0, 0)]),
  (100000, [(44, .invokestatic 371, 47, 223, 2, 1, 0, 1545, 0, 0), (47, .iload_n 3, 48, 3, 0, 0, 0, 0, 0, 0), (48, .invokevirtual 374, 51, 222, 5, 0, 11, 1548, 0, 0), (51, .ladd, 52, 0, 0, 0, 0, 0, 0, 0), (52, .lstore 5, 54, 5, 0, 0, 0, 0, 0, 0), (54, .iinc 7 1, 57, 7, 0, 0, 0, 0, 1, 0), (57, .goto (-51), 60, 6, 0, 0, 0, 0, 0, 0), (60, .lload 5, 62, 5, 0, 0, 0, 0, 0, 0), (62, .lreturn, 63, 0, 0, 0, 0, 0, 0, 0)])]
def mmX11_partOf : am_M := (yX11_partOf, cX11_partOf, 8, some .long, 0, 0, 5, 11, [1571, 1570, 68, 87, 1], tbX11_partOf)
def tbX11_answers : List (Nat × List am_I) := [(20, [(0, .iconst 0, 1, 0, 0, 0, 0, 0, 0, 0), (1, .istore 4, 3, 4, 0, 0, 0, 0, 0, 0), (3, .iconst 0, 4, 0, 0, 0, 0, 0, 0, 0), (4, .istore 5, 6, 5, 0, 0, 0, 0, 0, 0), (6, .iload 5, 8, 5, 0, 0, 0, 0, 0, 0), (8, .iconst 3, 9, 0, 0, 0, 0, 0, 3, 0), (9, .if_icmp .ge 111, 12, 120, 0, 0, 0, 0, 0, 0), (12, .iconst 0, 13, 0, 0, 0, 0, 0, 0, 0), (13, .istore 6, 15, 6, 0, 0, 0, 0, 0, 0), (15, .iconst 1, 16, 0, 0, 0, 0, 0, 1, 0), (16, .istore 7, 18, 7, 0, 0, 0, 0, 0, 0), (18, .iload 7, 20, 7, 0, 0, 0, 0, 0, 0)]),
  (40, [(20, .iconst 3, 21, 0, 0, 0, 0, 0, 3, 0), (21, .if_icmp .ge 42, 24, 63, 0, 0, 0, 0, 0, 0), (24, .aload_n 0, 25, 0, 0, 0, 0, 0, 0, 0), (25, .iload_n 1, 26, 1, 0, 0, 0, 0, 0, 0), (26, .iload 5, 28, 5, 0, 0, 0, 0, 0, 0), (28, .iload 7, 30, 7, 0, 0, 0, 0, 0, 0), (30, .iload_n 3, 31, 3, 0, 0, 0, 0, 0, 0), (31, .invokevirtual 394, 34, 228, 5, 0, 11, 1568, 0, 0), (34, .aload_n 0, 35, 0, 0, 0, 0, 0, 0, 0), (35, .iload_n 1, 36, 1, 0, 0, 0, 0, 0, 0), (36, .iload 5, 38, 5, 0, 0, 0, 0, 0, 0), (38, .iload 6, 40, 6, 0, 0, 0, 0, 0, 0)]),
  (66, [(40, .iload_n 3, 41, 3, 0, 0, 0, 0, 0, 0), (41, .invokevirtual 394, 44, 228, 5, 0, 11, 1568, 0, 0), (44, .lcmp, 45, 0, 0, 0, 0, 0, 0, 0), (45, .ifCond .le 8, 48, 53, 0, 0, 0, 0, 0, 0), (48, .iload 7, 50, 7, 0, 0, 0, 0, 0, 0), (50, .goto 5, 53, 55, 0, 0, 0, 0, 0, 0), (53, .iload 6, 55, 6, 0, 0, 0, 0, 0, 0), (55, .istore 6, 57, 6, 0, 0, 0, 0, 0, 0), (57, .iinc 7 1, 60, 7, 0, 0, 0, 0, 1, 0), (60, .goto (-42), 63, 18, 0, 0, 0, 0, 0, 0), (63, .iload_n 2, 64, 2, 0, 0, 0, 0, 0, 0), (64, .iload 5, 66, 5, 0, 0, 0, 0, 0, 0)]),
  (87, [(66, .invokestatic 371, 69, 223, 2, 1, 0, 1545, 0, 0), (69, .istore 7, 71, 7, 0, 0, 0, 0, 0, 0), (71, .aload_n 0, 72, 0, 0, 0, 0, 0, 0, 0), (72, .iload_n 1, 73, 1, 0, 0, 0, 0, 0, 0), (73, .iload 5, 75, 5, 0, 0, 0, 0, 0, 0), (75, .iload 7, 77, 7, 0, 0, 0, 0, 0, 0), (77, .iload_n 3, 78, 3, 0, 0, 0, 0, 0, 0), (78, .invokevirtual 394, 81, 228, 5, 0, 11, 1568, 0, 0), (81, .aload_n 0, 82, 0, 0, 0, 0, 0, 0, 0), (82, .iload_n 1, 83, 1, 0, 0, 0, 0, 0, 0), (83, .iload 5, 85, 5, 0, 0, 0, 0, 0, 0), (85, .iload 6, 87, 6, 0, 0, 0, 0, 0, 0)]),
  (111, [(87, .iload_n 3, 88, 3, 0, 0, 0, 0, 0, 0), (88, .invokevirtual 394, 91, 228, 5, 0, 11, 1568, 0, 0), (91, .lcmp, 92, 0, 0, 0, 0, 0, 0, 0), (92, .ifCond .ne 8, 95, 100, 0, 0, 0, 0, 0, 0), (95, .iload 7, 97, 7, 0, 0, 0, 0, 0, 0), (97, .goto 5, 100, 102, 0, 0, 0, 0, 0, 0), (100, .iload 6, 102, 6, 0, 0, 0, 0, 0, 0), (102, .istore 6, 104, 6, 0, 0, 0, 0, 0, 0), (104, .bipush 10, 106, 0, 0, 0, 0, 0, 10, 0), (106, .iload 4, 108, 4, 0, 0, 0, 0, 0, 0), (108, .imul, 109, 0, 0, 0, 0, 0, 0, 0), (109, .iload 6, 111, 6, 0, 0, 0, 0, 0, 0)]),
  (100000, [(111, .iadd, 112, 0, 0, 0, 0, 0, 0, 0), (112, .istore 4, 114, 4, 0, 0, 0, 0, 0, 0), (114, .iinc 5 1, 117, 5, 0, 0, 0, 0, 1, 0), (117, .goto (-111), 120, 6, 0, 0, 0, 0, 0, 0), (120, .iload 4, 122, 4, 0, 0, 0, 0, 0, 0), (122, .ireturn, 123, 0, 0, 0, 0, 0, 0, 0)])]
def mmX11_answers : am_M := (yX11_answers, cX11_answers, 8, some .int, 0, 0, 4, 11, [1567, 1566, 67, 87, 1], tbX11_answers)
def tbX11_stands : List (Nat × List am_I) := [(18, [(0, .aload_n 0, 1, 0, 0, 0, 0, 0, 0, 0), (1, .iload_n 1, 2, 1, 0, 0, 0, 0, 0, 0), (2, .putfield 397, 5, 11, 42, 0, 0, 1703, 0, 0), (5, .aload_n 0, 6, 0, 0, 0, 0, 0, 0, 0), (6, .iload_n 2, 7, 2, 0, 0, 0, 0, 0, 0), (7, .putfield 400, 10, 11, 43, 0, 0, 1704, 0, 0), (10, .iconst 0, 11, 0, 0, 0, 0, 0, 0, 0), (11, .istore_n 3, 12, 3, 0, 0, 0, 0, 0, 0), (12, .iconst 0, 13, 0, 0, 0, 0, 0, 0, 0), (13, .istore 4, 15, 4, 0, 0, 0, 0, 0, 0), (15, .iconst 0, 16, 0, 0, 0, 0, 0, 0, 0), (16, .istore 5, 18, 5, 0, 0, 0, 0, 0, 0)]),
  (43, [(18, .iload 4, 20, 4, 0, 0, 0, 0, 0, 0), (20, .iconst 2, 21, 0, 0, 0, 0, 0, 2, 0), (21, .if_icmp .ge 128, 24, 149, 0, 0, 0, 0, 0, 0), (24, .iload 5, 26, 5, 0, 0, 0, 0, 0, 0), (26, .ifCond .ne 10, 29, 36, 0, 0, 0, 0, 0, 0), (29, .aload_n 0, 30, 0, 0, 0, 0, 0, 0, 0), (30, .getfield 397, 33, 11, 42, 0, 0, 1703, 0, 0), (33, .goto 7, 36, 40, 0, 0, 0, 0, 0, 0), (36, .aload_n 0, 37, 0, 0, 0, 0, 0, 0, 0), (37, .getfield 400, 40, 11, 43, 0, 0, 1704, 0, 0), (40, .istore 6, 42, 6, 0, 0, 0, 0, 0, 0), (42, .aload_n 0, 43, 0, 0, 0, 0, 0, 0, 0)]),
  (69, [(43, .iload 5, 45, 5, 0, 0, 0, 0, 0, 0), (45, .iload 6, 47, 6, 0, 0, 0, 0, 0, 0), (47, .iload 5, 49, 5, 0, 0, 0, 0, 0, 0), (49, .ifCond .ne 10, 52, 59, 0, 0, 0, 0, 0, 0), (52, .aload_n 0, 53, 0, 0, 0, 0, 0, 0, 0), (53, .getfield 400, 56, 11, 43, 0, 0, 1704, 0, 0), (56, .goto 7, 59, 63, 0, 0, 0, 0, 0, 0), (59, .aload_n 0, 60, 0, 0, 0, 0, 0, 0, 0), (60, .getfield 397, 63, 11, 42, 0, 0, 1703, 0, 0), (63, .invokevirtual 403, 66, 229, 4, 0, 11, 1564, 0, 0), (66, .istore 7, 68, 7, 0, 0, 0, 0, 0, 0), (68, .aload_n 0, 69, 0, 0, 0, 0, 0, 0, 0)]),
  (95, [(69, .iload 5, 71, 5, 0, 0, 0, 0, 0, 0), (71, .ifCond .ne 8, 74, 79, 0, 0, 0, 0, 0, 0), (74, .iload 7, 76, 7, 0, 0, 0, 0, 0, 0), (76, .goto 7, 79, 83, 0, 0, 0, 0, 0, 0), (79, .aload_n 0, 80, 0, 0, 0, 0, 0, 0, 0), (80, .getfield 397, 83, 11, 42, 0, 0, 1703, 0, 0), (83, .putfield 397, 86, 11, 42, 0, 0, 1703, 0, 0), (86, .aload_n 0, 87, 0, 0, 0, 0, 0, 0, 0), (87, .iload 5, 89, 5, 0, 0, 0, 0, 0, 0), (89, .iconst 1, 90, 0, 0, 0, 0, 0, 1, 0), (90, .if_icmp .ne 8, 93, 98, 0, 0, 0, 0, 0, 0), (93, .iload 7, 95, 7, 0, 0, 0, 0, 0, 0)]),
  (121, [(95, .goto 7, 98, 102, 0, 0, 0, 0, 0, 0), (98, .aload_n 0, 99, 0, 0, 0, 0, 0, 0, 0), (99, .getfield 400, 102, 11, 43, 0, 0, 1704, 0, 0), (102, .putfield 400, 105, 11, 43, 0, 0, 1704, 0, 0), (105, .iload_n 3, 106, 3, 0, 0, 0, 0, 0, 0), (106, .iload 7, 108, 7, 0, 0, 0, 0, 0, 0), (108, .iload 6, 110, 6, 0, 0, 0, 0, 0, 0), (110, .if_icmp .eq 7, 113, 117, 0, 0, 0, 0, 0, 0), (113, .iconst 1, 114, 0, 0, 0, 0, 0, 1, 0), (114, .goto 4, 117, 118, 0, 0, 0, 0, 0, 0), (117, .iconst 0, 118, 0, 0, 0, 0, 0, 0, 0), (118, .invokestatic 193, 121, 151, 1, 1, 0, 1357, 0, 0)]),
  (141, [(121, .iadd, 122, 0, 0, 0, 0, 0, 0, 0), (122, .istore_n 3, 123, 3, 0, 0, 0, 0, 0, 0), (123, .iload 7, 125, 7, 0, 0, 0, 0, 0, 0), (125, .iload 6, 127, 6, 0, 0, 0, 0, 0, 0), (127, .if_icmp .ne 10, 130, 137, 0, 0, 0, 0, 0, 0), (130, .iload 4, 132, 4, 0, 0, 0, 0, 0, 0), (132, .iconst 1, 133, 0, 0, 0, 0, 0, 1, 0), (133, .iadd, 134, 0, 0, 0, 0, 0, 0, 0), (134, .goto 4, 137, 138, 0, 0, 0, 0, 0, 0), (137, .iconst 0, 138, 0, 0, 0, 0, 0, 0, 0), (138, .istore 4, 140, 4, 0, 0, 0, 0, 0, 0), (140, .iconst 1, 141, 0, 0, 0, 0, 0, 1, 0)]),
  (100000, [(141, .iload 5, 143, 5, 0, 0, 0, 0, 0, 0), (143, .isub, 144, 0, 0, 0, 0, 0, 0, 0), (144, .istore 5, 146, 5, 0, 0, 0, 0, 0, 0), (146, .goto (-128), 149, 18, 0, 0, 0, 0, 0, 0), (149, .iload_n 3, 150, 3, 0, 0, 0, 0, 0, 0), (150, .ireturn, 151, 0, 0, 0, 0, 0, 0, 0)])]
def mmX11_stands : am_M := (yX11_stands, cX11_stands, 8, some .int, 0, 0, 3, 11, [1563, 1562, 66, 87, 1], tbX11_stands)
def tbX11_isStand : List (Nat × List am_I) := [(20, [(0, .iload_n 0, 1, 0, 0, 0, 0, 0, 0, 0), (1, .i2l, 2, 0, 0, 0, 0, 0, 0, 0), (2, .lconst 0, 3, 0, 0, 0, 0, 0, 0, 0), (3, .ldc2_w 406, 6, 0, 0, 0, 0, 1559, 0, 222), (6, .invokestatic 34, 9, 149, 3, 1, 0, 1194, 0, 0), (9, .ifCond .eq 26, 12, 35, 0, 0, 0, 0, 0, 0), (12, .iload_n 0, 13, 0, 0, 0, 0, 0, 0, 0), (13, .bipush 10, 15, 0, 0, 0, 0, 0, 10, 0), (15, .idiv, 16, 0, 0, 0, 0, 0, 0, 0), (16, .bipush 10, 18, 0, 0, 0, 0, 0, 10, 0), (18, .irem, 19, 0, 0, 0, 0, 0, 0, 0), (19, .iconst 3, 20, 0, 0, 0, 0, 0, 3, 0)]),
  (100000, [(20, .if_icmp .ge 15, 23, 35, 0, 0, 0, 0, 0, 0), (23, .iload_n 0, 24, 0, 0, 0, 0, 0, 0, 0), (24, .bipush 10, 26, 0, 0, 0, 0, 0, 10, 0), (26, .irem, 27, 0, 0, 0, 0, 0, 0, 0), (27, .iconst 3, 28, 0, 0, 0, 0, 0, 3, 0), (28, .if_icmp .ge 7, 31, 35, 0, 0, 0, 0, 0, 0), (31, .iconst 1, 32, 0, 0, 0, 0, 0, 1, 0), (32, .goto 4, 35, 36, 0, 0, 0, 0, 0, 0), (35, .iconst 0, 36, 0, 0, 0, 0, 0, 0, 0), (36, .ireturn, 37, 0, 0, 0, 0, 0, 0, 0)])]
def mmX11_isStand : am_M := (yX11_isStand, cX11_isStand, 1, some .boolean, 0, 0, 1, 11, [1558, 1557, 0, 87, 0], tbX11_isStand)
def tbX11_stand : List (Nat × List am_I) := [(22, [(0, .aload_n 0, 1, 0, 0, 0, 0, 0, 0, 0), (1, .iconst 0, 2, 0, 0, 0, 0, 0, 0, 0), (2, .putfield 3, 5, 11, 0, 0, 0, 1661, 0, 0), (5, .iload_n 1, 6, 1, 0, 0, 0, 0, 0, 0), (6, .invokestatic 408, 9, 231, 1, 1, 0, 1556, 0, 0), (9, .ifCond .eq 10, 12, 19, 0, 0, 0, 0, 0, 0), (12, .iload_n 2, 13, 2, 0, 0, 0, 0, 0, 0), (13, .invokestatic 408, 16, 231, 1, 1, 0, 1556, 0, 0), (16, .ifCond .ne 5, 19, 21, 0, 0, 0, 0, 0, 0), (19, .iconst (-1), 20, 0, 0, 0, 0, 0, -1, 0), (20, .ireturn, 21, 0, 0, 0, 0, 0, 0, 0), (21, .aload_n 0, 22, 0, 0, 0, 0, 0, 0, 0)]),
  (42, [(22, .iload_n 1, 23, 1, 0, 0, 0, 0, 0, 0), (23, .iload_n 2, 24, 2, 0, 0, 0, 0, 0, 0), (24, .invokevirtual 411, 27, 230, 3, 0, 11, 1560, 0, 0), (27, .istore_n 3, 28, 3, 0, 0, 0, 0, 0, 0), (28, .aload_n 0, 29, 0, 0, 0, 0, 0, 0, 0), (29, .iconst 0, 30, 0, 0, 0, 0, 0, 0, 0), (30, .putfield 20, 33, 11, 1, 0, 0, 1662, 0, 0), (33, .aload_n 0, 34, 0, 0, 0, 0, 0, 0, 0), (34, .aload_n 0, 35, 0, 0, 0, 0, 0, 0, 0), (35, .getfield 397, 38, 11, 42, 0, 0, 1703, 0, 0), (38, .i2l, 39, 0, 0, 0, 0, 0, 0, 0), (39, .invokevirtual 27, 42, 153, 2, 0, 11, 1406, 0, 0)]),
  (64, [(42, .aload_n 0, 43, 0, 0, 0, 0, 0, 0, 0), (43, .aload_n 0, 44, 0, 0, 0, 0, 0, 0, 0), (44, .getfield 400, 47, 11, 43, 0, 0, 1704, 0, 0), (47, .i2l, 48, 0, 0, 0, 0, 0, 0, 0), (48, .invokevirtual 27, 51, 153, 2, 0, 11, 1406, 0, 0), (51, .aload_n 0, 52, 0, 0, 0, 0, 0, 0, 0), (52, .aload_n 0, 53, 0, 0, 0, 0, 0, 0, 0), (53, .aload_n 0, 54, 0, 0, 0, 0, 0, 0, 0), (54, .getfield 397, 57, 11, 42, 0, 0, 1703, 0, 0), (57, .aload_n 0, 58, 0, 0, 0, 0, 0, 0, 0), (58, .getfield 400, 61, 11, 43, 0, 0, 1704, 0, 0), (61, .invokevirtual 380, 64, 224, 3, 0, 11, 1541, 0, 0)]),
  (100000, [(64, .invokevirtual 27, 67, 153, 2, 0, 11, 1406, 0, 0), (67, .iload_n 3, 68, 3, 0, 0, 0, 0, 0, 0), (68, .ireturn, 69, 0, 0, 0, 0, 0, 0, 0)])]
def mmX11_stand : am_M := (yX11_stand, cX11_stand, 4, some .int, 0, 0, 3, 11, [1555, 1553, 1554, 87, 1], tbX11_stand)
def tbX11_gap : List (Nat × List am_I) := [(18, [(0, .aload_n 0, 1, 0, 0, 0, 0, 0, 0, 0), (1, .iconst 0, 2, 0, 0, 0, 0, 0, 0, 0), (2, .putfield 3, 5, 11, 0, 0, 0, 1661, 0, 0), (5, .aload_n 0, 6, 0, 0, 0, 0, 0, 0, 0), (6, .invokevirtual 390, 9, 226, 1, 0, 11, 1534, 0, 0), (9, .lstore_n 1, 10, 1, 0, 0, 0, 0, 0, 0), (10, .aload_n 0, 11, 0, 0, 0, 0, 0, 0, 0), (11, .iconst 0, 12, 0, 0, 0, 0, 0, 0, 0), (12, .iconst 0, 13, 0, 0, 0, 0, 0, 0, 0), (13, .invokevirtual 411, 16, 230, 3, 0, 11, 1560, 0, 0), (16, .pop, 17, 0, 0, 0, 0, 0, 0, 0), (17, .lconst 0, 18, 0, 0, 0, 0, 0, 0, 0)]),
  (37, [(18, .lstore_n 3, 19, 3, 0, 0, 0, 0, 0, 0), (19, .iconst 0, 20, 0, 0, 0, 0, 0, 0, 0), (20, .istore 5, 22, 5, 0, 0, 0, 0, 0, 0), (22, .iload 5, 24, 5, 0, 0, 0, 0, 0, 0), (24, .bipush 9, 26, 0, 0, 0, 0, 0, 9, 0), (26, .if_icmp .ge 73, 29, 99, 0, 0, 0, 0, 0, 0), (29, .aload_n 0, 30, 0, 0, 0, 0, 0, 0, 0), (30, .iload 5, 32, 5, 0, 0, 0, 0, 0, 0), (32, .iconst 3, 33, 0, 0, 0, 0, 0, 3, 0), (33, .idiv, 34, 0, 0, 0, 0, 0, 0, 0), (34, .iload 5, 36, 5, 0, 0, 0, 0, 0, 0), (36, .iconst 3, 37, 0, 0, 0, 0, 0, 3, 0)]),
  (58, [(37, .irem, 38, 0, 0, 0, 0, 0, 0, 0), (38, .iconst 0, 39, 0, 0, 0, 0, 0, 0, 0), (39, .iconst 0, 40, 0, 0, 0, 0, 0, 0, 0), (40, .invokevirtual 374, 43, 222, 5, 0, 11, 1548, 0, 0), (43, .lstore 6, 45, 6, 0, 0, 0, 0, 0, 0), (45, .iconst 1, 46, 0, 0, 0, 0, 0, 1, 0), (46, .istore 8, 48, 8, 0, 0, 0, 0, 0, 0), (48, .iload 8, 50, 8, 0, 0, 0, 0, 0, 0), (50, .bipush 9, 52, 0, 0, 0, 0, 0, 9, 0), (52, .if_icmp .ge 36, 55, 88, 0, 0, 0, 0, 0, 0), (55, .lload 6, 57, 6, 0, 0, 0, 0, 0, 0), (57, .aload_n 0, 58, 0, 0, 0, 0, 0, 0, 0)]),
  (74, [(58, .iload 5, 60, 5, 0, 0, 0, 0, 0, 0), (60, .iconst 3, 61, 0, 0, 0, 0, 0, 3, 0), (61, .idiv, 62, 0, 0, 0, 0, 0, 0, 0), (62, .iload 5, 64, 5, 0, 0, 0, 0, 0, 0), (64, .iconst 3, 65, 0, 0, 0, 0, 0, 3, 0), (65, .irem, 66, 0, 0, 0, 0, 0, 0, 0), (66, .iload 8, 68, 8, 0, 0, 0, 0, 0, 0), (68, .iconst 3, 69, 0, 0, 0, 0, 0, 3, 0), (69, .idiv, 70, 0, 0, 0, 0, 0, 0, 0), (70, .iload 8, 72, 8, 0, 0, 0, 0, 0, 0), (72, .iconst 3, 73, 0, 0, 0, 0, 0, 3, 0), (73, .irem, 74, 0, 0, 0, 0, 0, 0, 0)]),
  (100, [(74, .invokevirtual 374, 77, 222, 5, 0, 11, 1548, 0, 0), (77, .invokestatic 414, 80, 0, 0, 9, 0, 1576, 0, 0), (80, .lstore 6, 82, 6, 0, 0, 0, 0, 0, 0), (82, .iinc 8 1, 85, 8, 0, 0, 0, 0, 1, 0), (85, .goto (-37), 88, 48, 0, 0, 0, 0, 0, 0), (88, .lload_n 3, 89, 3, 0, 0, 0, 0, 0, 0), (89, .lload 6, 91, 6, 0, 0, 0, 0, 0, 0), (91, .ladd, 92, 0, 0, 0, 0, 0, 0, 0), (92, .lstore_n 3, 93, 3, 0, 0, 0, 0, 0, 0), (93, .iinc 5 1, 96, 5, 0, 0, 0, 0, 1, 0), (96, .goto (-74), 99, 22, 0, 0, 0, 0, 0, 0), (99, .aload_n 0, 100, 0, 0, 0, 0, 0, 0, 0)]),
  (122, [(100, .iconst 0, 101, 0, 0, 0, 0, 0, 0, 0), (101, .putfield 20, 104, 11, 1, 0, 0, 1662, 0, 0), (104, .aload_n 0, 105, 0, 0, 0, 0, 0, 0, 0), (105, .lload_n 3, 106, 3, 0, 0, 0, 0, 0, 0), (106, .invokevirtual 27, 109, 153, 2, 0, 11, 1406, 0, 0), (109, .lload_n 1, 110, 1, 0, 0, 0, 0, 0, 0), (110, .aload_n 0, 111, 0, 0, 0, 0, 0, 0, 0), (111, .aload_n 0, 112, 0, 0, 0, 0, 0, 0, 0), (112, .getfield 397, 115, 11, 42, 0, 0, 1703, 0, 0), (115, .aload_n 0, 116, 0, 0, 0, 0, 0, 0, 0), (116, .getfield 400, 119, 11, 43, 0, 0, 1704, 0, 0), (119, .invokevirtual 380, 122, 224, 3, 0, 11, 1541, 0, 0)]),
  (100000, [(122, .lsub, 123, 0, 0, 0, 0, 0, 0, 0), (123, .lreturn, 124, 0, 0, 0, 0, 0, 0, 0)])]
def mmX11_gap : am_M := (yX11_gap, cX11_gap, 9, some .long, 0, 0, 1, 11, [1575, 1573, 1574, 87, 1], tbX11_gap)
def tbX11_stepTo : List (Nat × List am_I) := [(21, [(0, .bipush 16, 2, 0, 0, 0, 0, 0, 16, 0), (2, .aload_n 0, 3, 0, 0, 0, 0, 0, 0, 0), (3, .getfield 46, 6, 11, 4, 0, 0, 1665, 0, 0), (6, .iload_n 1, 7, 1, 0, 0, 0, 0, 0, 0), (7, .iaload, 8, 0, 0, 0, 0, 0, 0, 0), (8, .iload_n 1, 9, 1, 0, 0, 0, 0, 0, 0), (9, .iload_n 2, 10, 2, 0, 0, 0, 0, 0, 0), (10, .if_icmp .ne 7, 13, 17, 0, 0, 0, 0, 0, 0), (13, .iconst 0, 14, 0, 0, 0, 0, 0, 0, 0), (14, .goto 9, 17, 23, 0, 0, 0, 0, 0, 0), (17, .aload_n 0, 18, 0, 0, 0, 0, 0, 0, 0), (18, .getfield 53, 21, 11, 6, 0, 0, 1667, 0, 0)]),
  (100000, [(21, .iload_n 1, 22, 1, 0, 0, 0, 0, 0, 0), (22, .iaload, 23, 0, 0, 0, 0, 0, 0, 0), (23, .iadd, 24, 0, 0, 0, 0, 0, 0, 0), (24, .imul, 25, 0, 0, 0, 0, 0, 0, 0), (25, .iconst 1, 26, 0, 0, 0, 0, 0, 1, 0), (26, .iadd, 27, 0, 0, 0, 0, 0, 0, 0), (27, .ireturn, 28, 0, 0, 0, 0, 0, 0, 0)])]
def mmX11_stepTo : am_M := (yX11_stepTo, cX11_stepTo, 3, some .int, 0, 0, 3, 11, [1593, 1592, 71, 87, 1], tbX11_stepTo)
def tbX11_fars : List (Nat × List am_I) := [(19, [(0, .iconst 0, 1, 0, 0, 0, 0, 0, 0, 0), (1, .istore_n 2, 2, 2, 0, 0, 0, 0, 0, 0), (2, .iload_n 2, 3, 2, 0, 0, 0, 0, 0, 0), (3, .bipush 6, 5, 0, 0, 0, 0, 0, 6, 0), (5, .if_icmp .ge 27, 8, 32, 0, 0, 0, 0, 0, 0), (8, .aload_n 0, 9, 0, 0, 0, 0, 0, 0, 0), (9, .getfield 416, 12, 11, 44, 0, 0, 1705, 0, 0), (12, .iload_n 2, 13, 2, 0, 0, 0, 0, 0, 0), (13, .iload_n 2, 14, 2, 0, 0, 0, 0, 0, 0), (14, .iload_n 1, 15, 1, 0, 0, 0, 0, 0, 0), (15, .if_icmp .ne 7, 18, 22, 0, 0, 0, 0, 0, 0), (18, .iconst 0, 19, 0, 0, 0, 0, 0, 0, 0)]),
  (43, [(19, .goto 6, 22, 25, 0, 0, 0, 0, 0, 0), (22, .ldc_w 419, 25, 0, 0, 0, 0, 1589, 1000000, 0), (25, .iastore, 26, 0, 0, 0, 0, 0, 0, 0), (26, .iinc 2 1, 29, 2, 0, 0, 0, 0, 1, 0), (29, .goto (-27), 32, 2, 0, 0, 0, 0, 0, 0), (32, .iconst 0, 33, 0, 0, 0, 0, 0, 0, 0), (33, .istore_n 2, 34, 2, 0, 0, 0, 0, 0, 0), (34, .iload_n 2, 35, 2, 0, 0, 0, 0, 0, 0), (35, .aload_n 0, 36, 0, 0, 0, 0, 0, 0, 0), (36, .getfield 31, 39, 11, 3, 0, 0, 1664, 0, 0), (39, .if_icmp .ge 105, 42, 144, 0, 0, 0, 0, 0, 0), (42, .iconst 0, 43, 0, 0, 0, 0, 0, 0, 0)]),
  (65, [(43, .istore_n 3, 44, 3, 0, 0, 0, 0, 0, 0), (44, .iload_n 3, 45, 3, 0, 0, 0, 0, 0, 0), (45, .aload_n 0, 46, 0, 0, 0, 0, 0, 0, 0), (46, .getfield 31, 49, 11, 3, 0, 0, 1664, 0, 0), (49, .if_icmp .ge 89, 52, 138, 0, 0, 0, 0, 0, 0), (52, .iconst 0, 53, 0, 0, 0, 0, 0, 0, 0), (53, .istore 4, 55, 4, 0, 0, 0, 0, 0, 0), (55, .iload 4, 57, 4, 0, 0, 0, 0, 0, 0), (57, .aload_n 0, 58, 0, 0, 0, 0, 0, 0, 0), (58, .getfield 31, 61, 11, 3, 0, 0, 1664, 0, 0), (61, .if_icmp .ge 71, 64, 132, 0, 0, 0, 0, 0, 0), (64, .iload_n 3, 65, 3, 0, 0, 0, 0, 0, 0)]),
  (89, [(65, .iload_n 1, 66, 1, 0, 0, 0, 0, 0, 0), (66, .if_icmp .eq 60, 69, 126, 0, 0, 0, 0, 0, 0), (69, .aload_n 0, 70, 0, 0, 0, 0, 0, 0, 0), (70, .getfield 76, 73, 11, 7, 0, 0, 1668, 0, 0), (73, .iload_n 3, 74, 3, 0, 0, 0, 0, 0, 0), (74, .iaload, 75, 0, 0, 0, 0, 0, 0, 0), (75, .iload 4, 77, 4, 0, 0, 0, 0, 0, 0), (77, .invokestatic 213, 80, 150, 2, 1, 0, 1339, 0, 0), (80, .ifCond .eq 46, 83, 126, 0, 0, 0, 0, 0, 0), (83, .aload_n 0, 84, 0, 0, 0, 0, 0, 0, 0), (84, .getfield 416, 87, 11, 44, 0, 0, 1705, 0, 0), (87, .iload 4, 89, 4, 0, 0, 0, 0, 0, 0)]),
  (111, [(89, .iaload, 90, 0, 0, 0, 0, 0, 0, 0), (90, .ldc_w 419, 93, 0, 0, 0, 0, 1589, 1000000, 0), (93, .if_icmp .ge 33, 96, 126, 0, 0, 0, 0, 0, 0), (96, .aload_n 0, 97, 0, 0, 0, 0, 0, 0, 0), (97, .getfield 416, 100, 11, 44, 0, 0, 1705, 0, 0), (100, .iload_n 3, 101, 3, 0, 0, 0, 0, 0, 0), (101, .aload_n 0, 102, 0, 0, 0, 0, 0, 0, 0), (102, .getfield 416, 105, 11, 44, 0, 0, 1705, 0, 0), (105, .iload_n 3, 106, 3, 0, 0, 0, 0, 0, 0), (106, .iaload, 107, 0, 0, 0, 0, 0, 0, 0), (107, .aload_n 0, 108, 0, 0, 0, 0, 0, 0, 0), (108, .getfield 416, 111, 11, 44, 0, 0, 1705, 0, 0)]),
  (135, [(111, .iload 4, 113, 4, 0, 0, 0, 0, 0, 0), (113, .iaload, 114, 0, 0, 0, 0, 0, 0, 0), (114, .aload_n 0, 115, 0, 0, 0, 0, 0, 0, 0), (115, .iload 4, 117, 4, 0, 0, 0, 0, 0, 0), (117, .iload_n 1, 118, 1, 0, 0, 0, 0, 0, 0), (118, .invokevirtual 420, 121, 234, 3, 0, 11, 1590, 0, 0), (121, .iadd, 122, 0, 0, 0, 0, 0, 0, 0), (122, .invokestatic 7, 125, 0, 0, 7, 0, 1235, 0, 0), (125, .iastore, 126, 0, 0, 0, 0, 0, 0, 0), (126, .iinc 4 1, 129, 4, 0, 0, 0, 0, 1, 0), (129, .goto (-74), 132, 55, 0, 0, 0, 0, 0, 0), (132, .iinc 3 1, 135, 3, 0, 0, 0, 0, 1, 0)]),
  (100000, [(135, .goto (-91), 138, 44, 0, 0, 0, 0, 0, 0), (138, .iinc 2 1, 141, 2, 0, 0, 0, 0, 1, 0), (141, .goto (-107), 144, 34, 0, 0, 0, 0, 0, 0), (144, .return_, 145, 0, 0, 0, 0, 0, 0, 0)])]
def mmX11_fars : am_M := (yX11_fars, cX11_fars, 5, none, 0, 0, 2, 11, [1588, 1587, 70, 87, 1], tbX11_fars)
def tbX11_minutesTo : List (Nat × List am_I) := [(24, [(0, .aload_n 0, 1, 0, 0, 0, 0, 0, 0, 0), (1, .iload_n 2, 2, 2, 0, 0, 0, 0, 0, 0), (2, .invokevirtual 423, 5, 235, 2, 0, 11, 1585, 0, 0), (5, .aload_n 0, 6, 0, 0, 0, 0, 0, 0, 0), (6, .getfield 416, 9, 11, 44, 0, 0, 1705, 0, 0), (9, .iload_n 1, 10, 1, 0, 0, 0, 0, 0, 0), (10, .iaload, 11, 0, 0, 0, 0, 0, 0, 0), (11, .ldc_w 419, 14, 0, 0, 0, 0, 1589, 1000000, 0), (14, .if_icmp .ne 9, 17, 23, 0, 0, 0, 0, 0, 0), (17, .ldc_w 419, 20, 0, 0, 0, 0, 1589, 1000000, 0), (20, .goto 12, 23, 32, 0, 0, 0, 0, 0, 0), (23, .aload_n 0, 24, 0, 0, 0, 0, 0, 0, 0)]),
  (100000, [(24, .getfield 416, 27, 11, 44, 0, 0, 1705, 0, 0), (27, .iload_n 1, 28, 1, 0, 0, 0, 0, 0, 0), (28, .iaload, 29, 0, 0, 0, 0, 0, 0, 0), (29, .bipush 16, 31, 0, 0, 0, 0, 0, 16, 0), (31, .idiv, 32, 0, 0, 0, 0, 0, 0, 0), (32, .ireturn, 33, 0, 0, 0, 0, 0, 0, 0)])]
def mmX11_minutesTo : am_M := (yX11_minutesTo, cX11_minutesTo, 3, some .int, 0, 0, 3, 11, [1584, 1583, 69, 87, 1], tbX11_minutesTo)
def tbX11_says : List (Nat × List am_I) := [(18, [(0, .aload_n 0, 1, 0, 0, 0, 0, 0, 0, 0), (1, .iconst 0, 2, 0, 0, 0, 0, 0, 0, 0), (2, .putfield 3, 5, 11, 0, 0, 0, 1661, 0, 0), (5, .aload_n 0, 6, 0, 0, 0, 0, 0, 0, 0), (6, .iload_n 1, 7, 1, 0, 0, 0, 0, 0, 0), (7, .iload_n 2, 8, 2, 0, 0, 0, 0, 0, 0), (8, .invokevirtual 65, 11, 157, 3, 0, 11, 1215, 0, 0), (11, .ifCond .ne 5, 14, 16, 0, 0, 0, 0, 0, 0), (14, .iconst (-1), 15, 0, 0, 0, 0, 0, -1, 0), (15, .ireturn, 16, 0, 0, 0, 0, 0, 0, 0), (16, .aload_n 0, 17, 0, 0, 0, 0, 0, 0, 0), (17, .iload_n 1, 18, 1, 0, 0, 0, 0, 0, 0)]),
  (39, [(18, .iload_n 2, 19, 2, 0, 0, 0, 0, 0, 0), (19, .invokevirtual 426, 22, 236, 3, 0, 11, 1581, 0, 0), (22, .istore_n 3, 23, 3, 0, 0, 0, 0, 0, 0), (23, .iload_n 3, 24, 3, 0, 0, 0, 0, 0, 0), (24, .ldc_w 419, 27, 0, 0, 0, 0, 1589, 1000000, 0), (27, .if_icmp .ne 6, 30, 33, 0, 0, 0, 0, 0, 0), (30, .bipush (-2), 32, 0, 0, 0, 0, 0, -2, 0), (32, .ireturn, 33, 0, 0, 0, 0, 0, 0, 0), (33, .aload_n 0, 34, 0, 0, 0, 0, 0, 0, 0), (34, .iconst 0, 35, 0, 0, 0, 0, 0, 0, 0), (35, .putfield 20, 38, 11, 1, 0, 0, 1662, 0, 0), (38, .iload_n 1, 39, 1, 0, 0, 0, 0, 0, 0)]),
  (62, [(39, .istore 4, 41, 4, 0, 0, 0, 0, 0, 0), (41, .iload 4, 43, 4, 0, 0, 0, 0, 0, 0), (43, .iload_n 2, 44, 2, 0, 0, 0, 0, 0, 0), (44, .if_icmp .eq 85, 47, 129, 0, 0, 0, 0, 0, 0), (47, .iconst 0, 48, 0, 0, 0, 0, 0, 0, 0), (48, .istore 5, 50, 5, 0, 0, 0, 0, 0, 0), (50, .aload_n 0, 51, 0, 0, 0, 0, 0, 0, 0), (51, .getfield 76, 54, 11, 7, 0, 0, 1668, 0, 0), (54, .iload 4, 56, 4, 0, 0, 0, 0, 0, 0), (56, .iaload, 57, 0, 0, 0, 0, 0, 0, 0), (57, .iload 5, 59, 5, 0, 0, 0, 0, 0, 0), (59, .invokestatic 213, 62, 150, 2, 1, 0, 1339, 0, 0)]),
  (86, [(62, .ifCond .eq 41, 65, 103, 0, 0, 0, 0, 0, 0), (65, .aload_n 0, 66, 0, 0, 0, 0, 0, 0, 0), (66, .getfield 416, 69, 11, 44, 0, 0, 1705, 0, 0), (69, .iload 5, 71, 5, 0, 0, 0, 0, 0, 0), (71, .iaload, 72, 0, 0, 0, 0, 0, 0, 0), (72, .ldc_w 419, 75, 0, 0, 0, 0, 1589, 1000000, 0), (75, .if_icmp .eq 28, 78, 103, 0, 0, 0, 0, 0, 0), (78, .aload_n 0, 79, 0, 0, 0, 0, 0, 0, 0), (79, .getfield 416, 82, 11, 44, 0, 0, 1705, 0, 0), (82, .iload 5, 84, 5, 0, 0, 0, 0, 0, 0), (84, .iaload, 85, 0, 0, 0, 0, 0, 0, 0), (85, .aload_n 0, 86, 0, 0, 0, 0, 0, 0, 0)]),
  (111, [(86, .iload 5, 88, 5, 0, 0, 0, 0, 0, 0), (88, .iload_n 2, 89, 2, 0, 0, 0, 0, 0, 0), (89, .invokevirtual 420, 92, 234, 3, 0, 11, 1590, 0, 0), (92, .iadd, 93, 0, 0, 0, 0, 0, 0, 0), (93, .aload_n 0, 94, 0, 0, 0, 0, 0, 0, 0), (94, .getfield 416, 97, 11, 44, 0, 0, 1705, 0, 0), (97, .iload 4, 99, 4, 0, 0, 0, 0, 0, 0), (99, .iaload, 100, 0, 0, 0, 0, 0, 0, 0), (100, .if_icmp .eq 9, 103, 109, 0, 0, 0, 0, 0, 0), (103, .iinc 5 1, 106, 5, 0, 0, 0, 0, 1, 0), (106, .goto (-56), 109, 50, 0, 0, 0, 0, 0, 0), (109, .iload 5, 111, 5, 0, 0, 0, 0, 0, 0)]),
  (100000, [(111, .iload_n 2, 112, 2, 0, 0, 0, 0, 0, 0), (112, .if_icmp .eq 10, 115, 122, 0, 0, 0, 0, 0, 0), (115, .aload_n 0, 116, 0, 0, 0, 0, 0, 0, 0), (116, .iload 5, 118, 5, 0, 0, 0, 0, 0, 0), (118, .i2l, 119, 0, 0, 0, 0, 0, 0, 0), (119, .invokevirtual 27, 122, 153, 2, 0, 11, 1406, 0, 0), (122, .iload 5, 124, 5, 0, 0, 0, 0, 0, 0), (124, .istore 4, 126, 4, 0, 0, 0, 0, 0, 0), (126, .goto (-85), 129, 41, 0, 0, 0, 0, 0, 0), (129, .iload_n 3, 130, 3, 0, 0, 0, 0, 0, 0), (130, .ireturn, 131, 0, 0, 0, 0, 0, 0, 0)])]
def mmX11_says : am_M := (yX11_says, cX11_says, 6, some .int, 0, 0, 3, 11, [1580, 1578, 1579, 87, 1], tbX11_says)
def tbX11_soon : List (Nat × List am_I) := [(18, [(0, .aload_n 0, 1, 0, 0, 0, 0, 0, 0, 0), (1, .iconst 0, 2, 0, 0, 0, 0, 0, 0, 0), (2, .putfield 3, 5, 11, 0, 0, 0, 1661, 0, 0), (5, .aload_n 0, 6, 0, 0, 0, 0, 0, 0, 0), (6, .iload_n 1, 7, 1, 0, 0, 0, 0, 0, 0), (7, .iload_n 2, 8, 2, 0, 0, 0, 0, 0, 0), (8, .invokevirtual 65, 11, 157, 3, 0, 11, 1215, 0, 0), (11, .ifCond .ne 5, 14, 16, 0, 0, 0, 0, 0, 0), (14, .iconst (-1), 15, 0, 0, 0, 0, 0, -1, 0), (15, .ireturn, 16, 0, 0, 0, 0, 0, 0, 0), (16, .aload_n 0, 17, 0, 0, 0, 0, 0, 0, 0), (17, .iload_n 1, 18, 1, 0, 0, 0, 0, 0, 0)]),
  (40, [(18, .iload_n 2, 19, 2, 0, 0, 0, 0, 0, 0), (19, .invokevirtual 426, 22, 236, 3, 0, 11, 1581, 0, 0), (22, .istore_n 3, 23, 3, 0, 0, 0, 0, 0, 0), (23, .aload_n 0, 24, 0, 0, 0, 0, 0, 0, 0), (24, .getfield 69, 27, 11, 8, 0, 0, 1669, 0, 0), (27, .iload_n 1, 28, 1, 0, 0, 0, 0, 0, 0), (28, .iaload, 29, 0, 0, 0, 0, 0, 0, 0), (29, .iload_n 2, 30, 2, 0, 0, 0, 0, 0, 0), (30, .invokestatic 213, 33, 150, 2, 1, 0, 1339, 0, 0), (33, .istore 4, 35, 4, 0, 0, 0, 0, 0, 0), (35, .iload 4, 37, 4, 0, 0, 0, 0, 0, 0), (37, .ifCond .eq 7, 40, 44, 0, 0, 0, 0, 0, 0)]),
  (64, [(40, .iconst 0, 41, 0, 0, 0, 0, 0, 0, 0), (41, .goto 9, 44, 50, 0, 0, 0, 0, 0, 0), (44, .aload_n 0, 45, 0, 0, 0, 0, 0, 0, 0), (45, .iload_n 2, 46, 2, 0, 0, 0, 0, 0, 0), (46, .iload_n 1, 47, 1, 0, 0, 0, 0, 0, 0), (47, .invokevirtual 426, 50, 236, 3, 0, 11, 1581, 0, 0), (50, .istore 5, 52, 5, 0, 0, 0, 0, 0, 0), (52, .iload_n 3, 53, 3, 0, 0, 0, 0, 0, 0), (53, .ldc_w 419, 56, 0, 0, 0, 0, 1589, 1000000, 0), (56, .if_icmp .eq 11, 59, 67, 0, 0, 0, 0, 0, 0), (59, .iload 5, 61, 5, 0, 0, 0, 0, 0, 0), (61, .ldc_w 419, 64, 0, 0, 0, 0, 1589, 1000000, 0)]),
  (86, [(64, .if_icmp .ne 6, 67, 70, 0, 0, 0, 0, 0, 0), (67, .bipush (-2), 69, 0, 0, 0, 0, 0, -2, 0), (69, .ireturn, 70, 0, 0, 0, 0, 0, 0, 0), (70, .aload_n 0, 71, 0, 0, 0, 0, 0, 0, 0), (71, .iconst 0, 72, 0, 0, 0, 0, 0, 0, 0), (72, .putfield 20, 75, 11, 1, 0, 0, 1662, 0, 0), (75, .aload_n 0, 76, 0, 0, 0, 0, 0, 0, 0), (76, .iload 4, 78, 4, 0, 0, 0, 0, 0, 0), (78, .invokestatic 193, 81, 151, 1, 1, 0, 1357, 0, 0), (81, .i2l, 82, 0, 0, 0, 0, 0, 0, 0), (82, .invokevirtual 27, 85, 153, 2, 0, 11, 1406, 0, 0), (85, .iload_n 3, 86, 3, 0, 0, 0, 0, 0, 0)]),
  (100000, [(86, .aload_n 0, 87, 0, 0, 0, 0, 0, 0, 0), (87, .getfield 53, 90, 11, 6, 0, 0, 1667, 0, 0), (90, .iload_n 2, 91, 2, 0, 0, 0, 0, 0, 0), (91, .iaload, 92, 0, 0, 0, 0, 0, 0, 0), (92, .iadd, 93, 0, 0, 0, 0, 0, 0, 0), (93, .iload 5, 95, 5, 0, 0, 0, 0, 0, 0), (95, .iadd, 96, 0, 0, 0, 0, 0, 0, 0), (96, .ireturn, 97, 0, 0, 0, 0, 0, 0, 0)])]
def mmX11_soon : am_M := (yX11_soon, cX11_soon, 6, some .int, 0, 0, 3, 11, [1597, 1595, 1596, 87, 1], tbX11_soon)
def tbX11_know : List (Nat × List am_I) := [(20, [(0, .aload_n 0, 1, 0, 0, 0, 0, 0, 0, 0), (1, .iconst 0, 2, 0, 0, 0, 0, 0, 0, 0), (2, .putfield 3, 5, 11, 0, 0, 0, 1661, 0, 0), (5, .aload_n 0, 6, 0, 0, 0, 0, 0, 0, 0), (6, .iload_n 1, 7, 1, 0, 0, 0, 0, 0, 0), (7, .iload_n 2, 8, 2, 0, 0, 0, 0, 0, 0), (8, .invokevirtual 65, 11, 157, 3, 0, 11, 1215, 0, 0), (11, .ifCond .eq 15, 14, 26, 0, 0, 0, 0, 0, 0), (14, .iload_n 3, 15, 3, 0, 0, 0, 0, 0, 0), (15, .i2l, 16, 0, 0, 0, 0, 0, 0, 0), (16, .lconst 0, 17, 0, 0, 0, 0, 0, 0, 0), (17, .ldc2_w 257, 20, 0, 0, 0, 0, 1370, 0, 199)]),
  (42, [(20, .invokestatic 34, 23, 149, 3, 1, 0, 1194, 0, 0), (23, .ifCond .ne 5, 26, 28, 0, 0, 0, 0, 0, 0), (26, .iconst (-1), 27, 0, 0, 0, 0, 0, -1, 0), (27, .ireturn, 28, 0, 0, 0, 0, 0, 0, 0), (28, .aload_n 0, 29, 0, 0, 0, 0, 0, 0, 0), (29, .getfield 69, 32, 11, 8, 0, 0, 1669, 0, 0), (32, .iload_n 1, 33, 1, 0, 0, 0, 0, 0, 0), (33, .iaload, 34, 0, 0, 0, 0, 0, 0, 0), (34, .iload_n 2, 35, 2, 0, 0, 0, 0, 0, 0), (35, .invokestatic 213, 38, 150, 2, 1, 0, 1339, 0, 0), (38, .ifCond .eq 19, 41, 57, 0, 0, 0, 0, 0, 0), (41, .aload_n 0, 42, 0, 0, 0, 0, 0, 0, 0)]),
  (63, [(42, .getfield 69, 45, 11, 8, 0, 0, 1669, 0, 0), (45, .iload_n 2, 46, 2, 0, 0, 0, 0, 0, 0), (46, .iaload, 47, 0, 0, 0, 0, 0, 0, 0), (47, .iload_n 1, 48, 1, 0, 0, 0, 0, 0, 0), (48, .invokestatic 213, 51, 150, 2, 1, 0, 1339, 0, 0), (51, .ifCond .eq 6, 54, 57, 0, 0, 0, 0, 0, 0), (54, .bipush 99, 56, 0, 0, 0, 0, 0, 99, 0), (56, .ireturn, 57, 0, 0, 0, 0, 0, 0, 0), (57, .iconst 0, 58, 0, 0, 0, 0, 0, 0, 0), (58, .istore 4, 60, 4, 0, 0, 0, 0, 0, 0), (60, .iconst 0, 61, 0, 0, 0, 0, 0, 0, 0), (61, .istore 5, 63, 5, 0, 0, 0, 0, 0, 0)]),
  (86, [(63, .iload 5, 65, 5, 0, 0, 0, 0, 0, 0), (65, .bipush 99, 67, 0, 0, 0, 0, 0, 99, 0), (67, .if_icmp .ge 94, 70, 161, 0, 0, 0, 0, 0, 0), (70, .iload 5, 72, 5, 0, 0, 0, 0, 0, 0), (72, .iconst 2, 73, 0, 0, 0, 0, 0, 2, 0), (73, .irem, 74, 0, 0, 0, 0, 0, 0, 0), (74, .ifCond .ne 7, 77, 81, 0, 0, 0, 0, 0, 0), (77, .iload_n 1, 78, 1, 0, 0, 0, 0, 0, 0), (78, .goto 4, 81, 82, 0, 0, 0, 0, 0, 0), (81, .iload_n 2, 82, 2, 0, 0, 0, 0, 0, 0), (82, .istore 6, 84, 6, 0, 0, 0, 0, 0, 0), (84, .iload 5, 86, 5, 0, 0, 0, 0, 0, 0)]),
  (108, [(86, .iconst 2, 87, 0, 0, 0, 0, 0, 2, 0), (87, .irem, 88, 0, 0, 0, 0, 0, 0, 0), (88, .ifCond .ne 7, 91, 95, 0, 0, 0, 0, 0, 0), (91, .iload_n 2, 92, 2, 0, 0, 0, 0, 0, 0), (92, .goto 4, 95, 96, 0, 0, 0, 0, 0, 0), (95, .iload_n 1, 96, 1, 0, 0, 0, 0, 0, 0), (96, .istore 7, 98, 7, 0, 0, 0, 0, 0, 0), (98, .aload_n 0, 99, 0, 0, 0, 0, 0, 0, 0), (99, .iload 6, 101, 6, 0, 0, 0, 0, 0, 0), (101, .iload 7, 103, 7, 0, 0, 0, 0, 0, 0), (103, .invokevirtual 426, 106, 236, 3, 0, 11, 1581, 0, 0), (106, .istore 8, 108, 8, 0, 0, 0, 0, 0, 0)]),
  (136, [(108, .iload 4, 110, 4, 0, 0, 0, 0, 0, 0), (110, .iload 8, 112, 8, 0, 0, 0, 0, 0, 0), (112, .ldc_w 419, 115, 0, 0, 0, 0, 1589, 1000000, 0), (115, .if_icmp .ne 9, 118, 124, 0, 0, 0, 0, 0, 0), (118, .ldc_w 419, 121, 0, 0, 0, 0, 1589, 1000000, 0), (121, .goto 22, 124, 143, 0, 0, 0, 0, 0, 0), (124, .iload 8, 126, 8, 0, 0, 0, 0, 0, 0), (126, .iload 5, 128, 5, 0, 0, 0, 0, 0, 0), (128, .ifCond .ne 7, 131, 135, 0, 0, 0, 0, 0, 0), (131, .iconst 0, 132, 0, 0, 0, 0, 0, 0, 0), (132, .goto 10, 135, 142, 0, 0, 0, 0, 0, 0), (135, .aload_n 0, 136, 0, 0, 0, 0, 0, 0, 0)]),
  (158, [(136, .getfield 53, 139, 11, 6, 0, 0, 1667, 0, 0), (139, .iload 6, 141, 6, 0, 0, 0, 0, 0, 0), (141, .iaload, 142, 0, 0, 0, 0, 0, 0, 0), (142, .iadd, 143, 0, 0, 0, 0, 0, 0, 0), (143, .iadd, 144, 0, 0, 0, 0, 0, 0, 0), (144, .istore 4, 146, 4, 0, 0, 0, 0, 0, 0), (146, .iload 4, 148, 4, 0, 0, 0, 0, 0, 0), (148, .iload_n 3, 149, 3, 0, 0, 0, 0, 0, 0), (149, .if_icmp .le 6, 152, 155, 0, 0, 0, 0, 0, 0), (152, .iload 5, 154, 5, 0, 0, 0, 0, 0, 0), (154, .ireturn, 155, 0, 0, 0, 0, 0, 0, 0), (155, .iinc 5 1, 158, 5, 0, 0, 0, 0, 1, 0)]),
  (100000, [(158, .goto (-95), 161, 63, 0, 0, 0, 0, 0, 0), (161, .iload 5, 163, 5, 0, 0, 0, 0, 0, 0), (163, .ireturn, 164, 0, 0, 0, 0, 0, 0, 0)])]
def mmX11_know : am_M := (yX11_know, cX11_know, 9, some .int, 0, 0, 4, 11, [1601, 1599, 1600, 87, 1], tbX11_know)
def tbX11_crier : List (Nat × List am_I) := [(19, [(0, .aload_n 0, 1, 0, 0, 0, 0, 0, 0, 0), (1, .iconst 0, 2, 0, 0, 0, 0, 0, 0, 0), (2, .putfield 3, 5, 11, 0, 0, 0, 1661, 0, 0), (5, .aload_n 0, 6, 0, 0, 0, 0, 0, 0, 0), (6, .getfield 31, 9, 11, 3, 0, 0, 1664, 0, 0), (9, .iconst 2, 10, 0, 0, 0, 0, 0, 2, 0), (10, .if_icmp .ge 5, 13, 15, 0, 0, 0, 0, 0, 0), (13, .iconst (-1), 14, 0, 0, 0, 0, 0, -1, 0), (14, .ireturn, 15, 0, 0, 0, 0, 0, 0, 0), (15, .bipush (-2), 17, 0, 0, 0, 0, 0, -2, 0), (17, .istore_n 1, 18, 1, 0, 0, 0, 0, 0, 0), (18, .iconst 0, 19, 0, 0, 0, 0, 0, 0, 0)]),
  (38, [(19, .istore_n 2, 20, 2, 0, 0, 0, 0, 0, 0), (20, .iconst 0, 21, 0, 0, 0, 0, 0, 0, 0), (21, .istore_n 3, 22, 3, 0, 0, 0, 0, 0, 0), (22, .iload_n 3, 23, 3, 0, 0, 0, 0, 0, 0), (23, .aload_n 0, 24, 0, 0, 0, 0, 0, 0, 0), (24, .getfield 31, 27, 11, 3, 0, 0, 1664, 0, 0), (27, .if_icmp .ge 78, 30, 105, 0, 0, 0, 0, 0, 0), (30, .iconst 0, 31, 0, 0, 0, 0, 0, 0, 0), (31, .istore 4, 33, 4, 0, 0, 0, 0, 0, 0), (33, .iconst 0, 34, 0, 0, 0, 0, 0, 0, 0), (34, .istore 5, 36, 5, 0, 0, 0, 0, 0, 0), (36, .iload 5, 38, 5, 0, 0, 0, 0, 0, 0)]),
  (62, [(38, .aload_n 0, 39, 0, 0, 0, 0, 0, 0, 0), (39, .getfield 31, 42, 11, 3, 0, 0, 1664, 0, 0), (42, .if_icmp .ge 34, 45, 76, 0, 0, 0, 0, 0, 0), (45, .iload 5, 47, 5, 0, 0, 0, 0, 0, 0), (47, .iload_n 3, 48, 3, 0, 0, 0, 0, 0, 0), (48, .if_icmp .ne 8, 51, 56, 0, 0, 0, 0, 0, 0), (51, .iload 4, 53, 4, 0, 0, 0, 0, 0, 0), (53, .goto 15, 56, 68, 0, 0, 0, 0, 0, 0), (56, .iload 4, 58, 4, 0, 0, 0, 0, 0, 0), (58, .aload_n 0, 59, 0, 0, 0, 0, 0, 0, 0), (59, .iload_n 3, 60, 3, 0, 0, 0, 0, 0, 0), (60, .iload 5, 62, 5, 0, 0, 0, 0, 0, 0)]),
  (91, [(62, .invokevirtual 426, 65, 236, 3, 0, 11, 1581, 0, 0), (65, .invokestatic 13, 68, 0, 0, 6, 0, 1236, 0, 0), (68, .istore 4, 70, 4, 0, 0, 0, 0, 0, 0), (70, .iinc 5 1, 73, 5, 0, 0, 0, 0, 1, 0), (73, .goto (-37), 76, 36, 0, 0, 0, 0, 0, 0), (76, .iload 4, 78, 4, 0, 0, 0, 0, 0, 0), (78, .ldc_w 419, 81, 0, 0, 0, 0, 1589, 1000000, 0), (81, .if_icmp .ge 18, 84, 99, 0, 0, 0, 0, 0, 0), (84, .iload_n 1, 85, 1, 0, 0, 0, 0, 0, 0), (85, .ifCond .lt 9, 88, 94, 0, 0, 0, 0, 0, 0), (88, .iload 4, 90, 4, 0, 0, 0, 0, 0, 0), (90, .iload_n 2, 91, 2, 0, 0, 0, 0, 0, 0)]),
  (114, [(91, .if_icmp .ge 8, 94, 99, 0, 0, 0, 0, 0, 0), (94, .iload_n 3, 95, 3, 0, 0, 0, 0, 0, 0), (95, .istore_n 1, 96, 1, 0, 0, 0, 0, 0, 0), (96, .iload 4, 98, 4, 0, 0, 0, 0, 0, 0), (98, .istore_n 2, 99, 2, 0, 0, 0, 0, 0, 0), (99, .iinc 3 1, 102, 3, 0, 0, 0, 0, 1, 0), (102, .goto (-80), 105, 22, 0, 0, 0, 0, 0, 0), (105, .iload_n 1, 106, 1, 0, 0, 0, 0, 0, 0), (106, .ifCond .lt 14, 109, 120, 0, 0, 0, 0, 0, 0), (109, .aload_n 0, 110, 0, 0, 0, 0, 0, 0, 0), (110, .iconst 0, 111, 0, 0, 0, 0, 0, 0, 0), (111, .putfield 20, 114, 11, 1, 0, 0, 1662, 0, 0)]),
  (100000, [(114, .aload_n 0, 115, 0, 0, 0, 0, 0, 0, 0), (115, .iload_n 2, 116, 2, 0, 0, 0, 0, 0, 0), (116, .i2l, 117, 0, 0, 0, 0, 0, 0, 0), (117, .invokevirtual 27, 120, 153, 2, 0, 11, 1406, 0, 0), (120, .iload_n 1, 121, 1, 0, 0, 0, 0, 0, 0), (121, .ireturn, 122, 0, 0, 0, 0, 0, 0, 0)])]
def mmX11_crier : am_M := (yX11_crier, cX11_crier, 6, some .int, 0, 0, 1, 11, [1605, 1603, 1604, 87, 1], tbX11_crier)
def tbX11_deaf : List (Nat × List am_I) := [(18, [(0, .aload_n 0, 1, 0, 0, 0, 0, 0, 0, 0), (1, .iconst 0, 2, 0, 0, 0, 0, 0, 0, 0), (2, .putfield 3, 5, 11, 0, 0, 0, 1661, 0, 0), (5, .aload_n 0, 6, 0, 0, 0, 0, 0, 0, 0), (6, .iload_n 1, 7, 1, 0, 0, 0, 0, 0, 0), (7, .invokevirtual 38, 10, 156, 2, 0, 11, 1202, 0, 0), (10, .ifCond .ne 5, 13, 15, 0, 0, 0, 0, 0, 0), (13, .iconst (-1), 14, 0, 0, 0, 0, 0, -1, 0), (14, .ireturn, 15, 0, 0, 0, 0, 0, 0, 0), (15, .iconst 0, 16, 0, 0, 0, 0, 0, 0, 0), (16, .istore_n 2, 17, 2, 0, 0, 0, 0, 0, 0), (17, .iconst 0, 18, 0, 0, 0, 0, 0, 0, 0)]),
  (36, [(18, .istore_n 3, 19, 3, 0, 0, 0, 0, 0, 0), (19, .iload_n 3, 20, 3, 0, 0, 0, 0, 0, 0), (20, .aload_n 0, 21, 0, 0, 0, 0, 0, 0, 0), (21, .getfield 31, 24, 11, 3, 0, 0, 1664, 0, 0), (24, .if_icmp .ge 36, 27, 60, 0, 0, 0, 0, 0, 0), (27, .iload_n 2, 28, 2, 0, 0, 0, 0, 0, 0), (28, .iload_n 3, 29, 3, 0, 0, 0, 0, 0, 0), (29, .iload_n 1, 30, 1, 0, 0, 0, 0, 0, 0), (30, .if_icmp .eq 21, 33, 51, 0, 0, 0, 0, 0, 0), (33, .aload_n 0, 34, 0, 0, 0, 0, 0, 0, 0), (34, .iload_n 3, 35, 3, 0, 0, 0, 0, 0, 0), (35, .iload_n 1, 36, 1, 0, 0, 0, 0, 0, 0)]),
  (60, [(36, .invokevirtual 426, 39, 236, 3, 0, 11, 1581, 0, 0), (39, .ldc_w 419, 42, 0, 0, 0, 0, 1589, 1000000, 0), (42, .if_icmp .ne 9, 45, 51, 0, 0, 0, 0, 0, 0), (45, .iconst 1, 46, 0, 0, 0, 0, 0, 1, 0), (46, .iload_n 3, 47, 3, 0, 0, 0, 0, 0, 0), (47, .ishl, 48, 0, 0, 0, 0, 0, 0, 0), (48, .goto 4, 51, 52, 0, 0, 0, 0, 0, 0), (51, .iconst 0, 52, 0, 0, 0, 0, 0, 0, 0), (52, .ior, 53, 0, 0, 0, 0, 0, 0, 0), (53, .istore_n 2, 54, 2, 0, 0, 0, 0, 0, 0), (54, .iinc 3 1, 57, 3, 0, 0, 0, 0, 1, 0), (57, .goto (-38), 60, 19, 0, 0, 0, 0, 0, 0)]),
  (100000, [(60, .iload_n 2, 61, 2, 0, 0, 0, 0, 0, 0), (61, .ireturn, 62, 0, 0, 0, 0, 0, 0, 0)])]
def mmX11_deaf : am_M := (yX11_deaf, cX11_deaf, 4, some .int, 0, 0, 2, 11, [1609, 1607, 1608, 87, 1], tbX11_deaf)
def tbX11_warn : List (Nat × List am_I) := [(20, [(0, .aload_n 0, 1, 0, 0, 0, 0, 0, 0, 0), (1, .iconst 0, 2, 0, 0, 0, 0, 0, 0, 0), (2, .putfield 3, 5, 11, 0, 0, 0, 1661, 0, 0), (5, .aload_n 0, 6, 0, 0, 0, 0, 0, 0, 0), (6, .iload_n 1, 7, 1, 0, 0, 0, 0, 0, 0), (7, .iload_n 2, 8, 2, 0, 0, 0, 0, 0, 0), (8, .invokevirtual 65, 11, 157, 3, 0, 11, 1215, 0, 0), (11, .ifCond .eq 41, 14, 52, 0, 0, 0, 0, 0, 0), (14, .iload_n 3, 15, 3, 0, 0, 0, 0, 0, 0), (15, .i2l, 16, 0, 0, 0, 0, 0, 0, 0), (16, .lconst 1, 17, 0, 0, 0, 0, 0, 0, 1), (17, .ldc2_w 429, 20, 0, 0, 0, 0, 1614, 0, 9999)]),
  (46, [(20, .invokestatic 34, 23, 149, 3, 1, 0, 1194, 0, 0), (23, .ifCond .eq 29, 26, 52, 0, 0, 0, 0, 0, 0), (26, .iload 4, 28, 4, 0, 0, 0, 0, 0, 0), (28, .i2l, 29, 0, 0, 0, 0, 0, 0, 0), (29, .lconst 1, 30, 0, 0, 0, 0, 0, 0, 1), (30, .ldc2_w 94, 33, 0, 0, 0, 0, 1229, 0, 99), (33, .invokestatic 34, 36, 149, 3, 1, 0, 1194, 0, 0), (36, .ifCond .eq 16, 39, 52, 0, 0, 0, 0, 0, 0), (39, .iload 5, 41, 5, 0, 0, 0, 0, 0, 0), (41, .i2l, 42, 0, 0, 0, 0, 0, 0, 0), (42, .lconst 1, 43, 0, 0, 0, 0, 0, 0, 1), (43, .ldc2_w 94, 46, 0, 0, 0, 0, 1229, 0, 99)]),
  (67, [(46, .invokestatic 34, 49, 149, 3, 1, 0, 1194, 0, 0), (49, .ifCond .ne 5, 52, 54, 0, 0, 0, 0, 0, 0), (52, .iconst (-1), 53, 0, 0, 0, 0, 0, -1, 0), (53, .ireturn, 54, 0, 0, 0, 0, 0, 0, 0), (54, .aload_n 0, 55, 0, 0, 0, 0, 0, 0, 0), (55, .iload_n 2, 56, 2, 0, 0, 0, 0, 0, 0), (56, .iload_n 1, 57, 1, 0, 0, 0, 0, 0, 0), (57, .invokevirtual 426, 60, 236, 3, 0, 11, 1581, 0, 0), (60, .istore 6, 62, 6, 0, 0, 0, 0, 0, 0), (62, .iconst 0, 63, 0, 0, 0, 0, 0, 0, 0), (63, .istore 7, 65, 7, 0, 0, 0, 0, 0, 0), (65, .iload 4, 67, 4, 0, 0, 0, 0, 0, 0)]),
  (89, [(67, .iload 5, 69, 5, 0, 0, 0, 0, 0, 0), (69, .isub, 70, 0, 0, 0, 0, 0, 0, 0), (70, .istore 8, 72, 8, 0, 0, 0, 0, 0, 0), (72, .iload 8, 74, 8, 0, 0, 0, 0, 0, 0), (74, .ifCond .le 20, 77, 94, 0, 0, 0, 0, 0, 0), (77, .iload 7, 79, 7, 0, 0, 0, 0, 0, 0), (79, .iload 8, 81, 8, 0, 0, 0, 0, 0, 0), (81, .iadd, 82, 0, 0, 0, 0, 0, 0, 0), (82, .istore 7, 84, 7, 0, 0, 0, 0, 0, 0), (84, .iload 8, 86, 8, 0, 0, 0, 0, 0, 0), (86, .iload 5, 88, 5, 0, 0, 0, 0, 0, 0), (88, .isub, 89, 0, 0, 0, 0, 0, 0, 0)]),
  (113, [(89, .istore 8, 91, 8, 0, 0, 0, 0, 0, 0), (91, .goto (-19), 94, 72, 0, 0, 0, 0, 0, 0), (94, .iload 6, 96, 6, 0, 0, 0, 0, 0, 0), (96, .ldc_w 419, 99, 0, 0, 0, 0, 1589, 1000000, 0), (99, .if_icmp .eq 9, 102, 108, 0, 0, 0, 0, 0, 0), (102, .iload 7, 104, 7, 0, 0, 0, 0, 0, 0), (104, .iload_n 3, 105, 3, 0, 0, 0, 0, 0, 0), (105, .if_icmp .lt 6, 108, 111, 0, 0, 0, 0, 0, 0), (108, .bipush (-2), 110, 0, 0, 0, 0, 0, -2, 0), (110, .ireturn, 111, 0, 0, 0, 0, 0, 0, 0), (111, .iload_n 3, 112, 3, 0, 0, 0, 0, 0, 0), (112, .iconst 1, 113, 0, 0, 0, 0, 0, 1, 0)]),
  (132, [(113, .isub, 114, 0, 0, 0, 0, 0, 0, 0), (114, .iload 7, 116, 7, 0, 0, 0, 0, 0, 0), (116, .isub, 117, 0, 0, 0, 0, 0, 0, 0), (117, .iload 4, 119, 4, 0, 0, 0, 0, 0, 0), (119, .idiv, 120, 0, 0, 0, 0, 0, 0, 0), (120, .istore 8, 122, 8, 0, 0, 0, 0, 0, 0), (122, .iload 8, 124, 8, 0, 0, 0, 0, 0, 0), (124, .iload 6, 126, 6, 0, 0, 0, 0, 0, 0), (126, .isub, 127, 0, 0, 0, 0, 0, 0, 0), (127, .aload_n 0, 128, 0, 0, 0, 0, 0, 0, 0), (128, .getfield 53, 131, 11, 6, 0, 0, 1667, 0, 0), (131, .iload_n 1, 132, 1, 0, 0, 0, 0, 0, 0)]),
  (100000, [(132, .iaload, 133, 0, 0, 0, 0, 0, 0, 0), (133, .isub, 134, 0, 0, 0, 0, 0, 0, 0), (134, .istore 9, 136, 9, 0, 0, 0, 0, 0, 0), (136, .iload 9, 138, 9, 0, 0, 0, 0, 0, 0), (138, .ifCond .ge 8, 141, 146, 0, 0, 0, 0, 0, 0), (141, .bipush (-2), 143, 0, 0, 0, 0, 0, -2, 0), (143, .goto 5, 146, 148, 0, 0, 0, 0, 0, 0), (146, .iload 9, 148, 9, 0, 0, 0, 0, 0, 0), (148, .ireturn, 149, 0, 0, 0, 0, 0, 0, 0)])]
def mmX11_warn : am_M := (yX11_warn, cX11_warn, 10, some .int, 0, 0, 6, 11, [1613, 1611, 1612, 87, 1], tbX11_warn)
def tbX11_fog : List (Nat × List am_I) := [(22, [(0, .aload_n 0, 1, 0, 0, 0, 0, 0, 0, 0), (1, .iconst 0, 2, 0, 0, 0, 0, 0, 0, 0), (2, .putfield 3, 5, 11, 0, 0, 0, 1661, 0, 0), (5, .aload_n 0, 6, 0, 0, 0, 0, 0, 0, 0), (6, .iload_n 1, 7, 1, 0, 0, 0, 0, 0, 0), (7, .invokevirtual 38, 10, 156, 2, 0, 11, 1202, 0, 0), (10, .ifCond .eq 51, 13, 61, 0, 0, 0, 0, 0, 0), (13, .iload_n 2, 14, 2, 0, 0, 0, 0, 0, 0), (14, .i2l, 15, 0, 0, 0, 0, 0, 0, 0), (15, .lconst 0, 16, 0, 0, 0, 0, 0, 0, 0), (16, .ldc2_w 328, 19, 0, 0, 0, 0, 1486, 0, 10), (19, .invokestatic 34, 22, 149, 3, 1, 0, 1194, 0, 0)]),
  (47, [(22, .ifCond .eq 39, 25, 61, 0, 0, 0, 0, 0, 0), (25, .iload_n 3, 26, 3, 0, 0, 0, 0, 0, 0), (26, .i2l, 27, 0, 0, 0, 0, 0, 0, 0), (27, .lconst 0, 28, 0, 0, 0, 0, 0, 0, 0), (28, .ldc2_w 328, 31, 0, 0, 0, 0, 1486, 0, 10), (31, .invokestatic 34, 34, 149, 3, 1, 0, 1194, 0, 0), (34, .ifCond .eq 27, 37, 61, 0, 0, 0, 0, 0, 0), (37, .iload 4, 39, 4, 0, 0, 0, 0, 0, 0), (39, .i2l, 40, 0, 0, 0, 0, 0, 0, 0), (40, .lconst 0, 41, 0, 0, 0, 0, 0, 0, 0), (41, .ldc2_w 328, 44, 0, 0, 0, 0, 1486, 0, 10), (44, .invokestatic 34, 47, 149, 3, 1, 0, 1194, 0, 0)]),
  (67, [(47, .ifCond .eq 14, 50, 61, 0, 0, 0, 0, 0, 0), (50, .iload_n 2, 51, 2, 0, 0, 0, 0, 0, 0), (51, .iload_n 3, 52, 3, 0, 0, 0, 0, 0, 0), (52, .iadd, 53, 0, 0, 0, 0, 0, 0, 0), (53, .iload 4, 55, 4, 0, 0, 0, 0, 0, 0), (55, .iadd, 56, 0, 0, 0, 0, 0, 0, 0), (56, .bipush 10, 58, 0, 0, 0, 0, 0, 10, 0), (58, .if_icmp .le 5, 61, 63, 0, 0, 0, 0, 0, 0), (61, .iconst 0, 62, 0, 0, 0, 0, 0, 0, 0), (62, .ireturn, 63, 0, 0, 0, 0, 0, 0, 0), (63, .aload_n 0, 64, 0, 0, 0, 0, 0, 0, 0), (64, .getfield 56, 67, 11, 45, 0, 0, 1706, 0, 0)]),
  (84, [(67, .iload_n 1, 68, 1, 0, 0, 0, 0, 0, 0), (68, .iload_n 2, 69, 2, 0, 0, 0, 0, 0, 0), (69, .iastore, 70, 0, 0, 0, 0, 0, 0, 0), (70, .aload_n 0, 71, 0, 0, 0, 0, 0, 0, 0), (71, .getfield 431, 74, 11, 46, 0, 0, 1707, 0, 0), (74, .iload_n 1, 75, 1, 0, 0, 0, 0, 0, 0), (75, .iload_n 3, 76, 3, 0, 0, 0, 0, 0, 0), (76, .iastore, 77, 0, 0, 0, 0, 0, 0, 0), (77, .aload_n 0, 78, 0, 0, 0, 0, 0, 0, 0), (78, .getfield 434, 81, 11, 47, 0, 0, 1708, 0, 0), (81, .iload_n 1, 82, 1, 0, 0, 0, 0, 0, 0), (82, .iload 4, 84, 4, 0, 0, 0, 0, 0, 0)]),
  (100000, [(84, .iastore, 85, 0, 0, 0, 0, 0, 0, 0), (85, .iconst 1, 86, 0, 0, 0, 0, 0, 1, 0), (86, .ireturn, 87, 0, 0, 0, 0, 0, 0, 0)])]
def mmX11_fog : am_M := (yX11_fog, cX11_fog, 5, some .boolean, 0, 0, 5, 11, [1618, 1616, 1617, 87, 1], tbX11_fog)
def tbX11_fogOf : List (Nat × List am_I) := [(22, [(0, .iload_n 2, 1, 2, 0, 0, 0, 0, 0, 0), (1, .ifCond .ne 12, 4, 13, 0, 0, 0, 0, 0, 0), (4, .aload_n 0, 5, 0, 0, 0, 0, 0, 0, 0), (5, .getfield 56, 8, 11, 45, 0, 0, 1706, 0, 0), (8, .iload_n 1, 9, 1, 0, 0, 0, 0, 0, 0), (9, .iaload, 10, 0, 0, 0, 0, 0, 0, 0), (10, .goto 54, 13, 64, 0, 0, 0, 0, 0, 0), (13, .iload_n 2, 14, 2, 0, 0, 0, 0, 0, 0), (14, .iconst 1, 15, 0, 0, 0, 0, 0, 1, 0), (15, .if_icmp .ne 12, 18, 27, 0, 0, 0, 0, 0, 0), (18, .aload_n 0, 19, 0, 0, 0, 0, 0, 0, 0), (19, .getfield 431, 22, 11, 46, 0, 0, 1707, 0, 0)]),
  (43, [(22, .iload_n 1, 23, 1, 0, 0, 0, 0, 0, 0), (23, .iaload, 24, 0, 0, 0, 0, 0, 0, 0), (24, .goto 40, 27, 64, 0, 0, 0, 0, 0, 0), (27, .iload_n 2, 28, 2, 0, 0, 0, 0, 0, 0), (28, .iconst 2, 29, 0, 0, 0, 0, 0, 2, 0), (29, .if_icmp .ne 12, 32, 41, 0, 0, 0, 0, 0, 0), (32, .aload_n 0, 33, 0, 0, 0, 0, 0, 0, 0), (33, .getfield 434, 36, 11, 47, 0, 0, 1708, 0, 0), (36, .iload_n 1, 37, 1, 0, 0, 0, 0, 0, 0), (37, .iaload, 38, 0, 0, 0, 0, 0, 0, 0), (38, .goto 26, 41, 64, 0, 0, 0, 0, 0, 0), (41, .bipush 10, 43, 0, 0, 0, 0, 0, 10, 0)]),
  (61, [(43, .aload_n 0, 44, 0, 0, 0, 0, 0, 0, 0), (44, .getfield 56, 47, 11, 45, 0, 0, 1706, 0, 0), (47, .iload_n 1, 48, 1, 0, 0, 0, 0, 0, 0), (48, .iaload, 49, 0, 0, 0, 0, 0, 0, 0), (49, .isub, 50, 0, 0, 0, 0, 0, 0, 0), (50, .aload_n 0, 51, 0, 0, 0, 0, 0, 0, 0), (51, .getfield 431, 54, 11, 46, 0, 0, 1707, 0, 0), (54, .iload_n 1, 55, 1, 0, 0, 0, 0, 0, 0), (55, .iaload, 56, 0, 0, 0, 0, 0, 0, 0), (56, .isub, 57, 0, 0, 0, 0, 0, 0, 0), (57, .aload_n 0, 58, 0, 0, 0, 0, 0, 0, 0), (58, .getfield 434, 61, 11, 47, 0, 0, 1708, 0, 0)]),
  (100000, [(61, .iload_n 1, 62, 1, 0, 0, 0, 0, 0, 0), (62, .iaload, 63, 0, 0, 0, 0, 0, 0, 0), (63, .isub, 64, 0, 0, 0, 0, 0, 0, 0), (64, .ireturn, 65, 0, 0, 0, 0, 0, 0, 0)])]
def mmX11_fogOf : am_M := (yX11_fogOf, cX11_fogOf, 3, some .int, 0, 0, 3, 11, [1630, 1629, 73, 87, 1], tbX11_fogOf)
def tbX11_casesBy : List (Nat × List am_I) := [(18, [(0, .aload_n 0, 1, 0, 0, 0, 0, 0, 0, 0), (1, .getfield 46, 4, 11, 4, 0, 0, 1665, 0, 0), (4, .iload_n 2, 5, 2, 0, 0, 0, 0, 0, 0), (5, .iaload, 6, 0, 0, 0, 0, 0, 0, 0), (6, .aload_n 0, 7, 0, 0, 0, 0, 0, 0, 0), (7, .getfield 53, 10, 11, 6, 0, 0, 1667, 0, 0), (10, .iload_n 2, 11, 2, 0, 0, 0, 0, 0, 0), (11, .iaload, 12, 0, 0, 0, 0, 0, 0, 0), (12, .iadd, 13, 0, 0, 0, 0, 0, 0, 0), (13, .aload_n 0, 14, 0, 0, 0, 0, 0, 0, 0), (14, .getfield 46, 17, 11, 4, 0, 0, 1665, 0, 0), (17, .iload_n 1, 18, 1, 0, 0, 0, 0, 0, 0)]),
  (37, [(18, .iaload, 19, 0, 0, 0, 0, 0, 0, 0), (19, .iadd, 20, 0, 0, 0, 0, 0, 0, 0), (20, .istore 4, 22, 4, 0, 0, 0, 0, 0, 0), (22, .iconst 0, 23, 0, 0, 0, 0, 0, 0, 0), (23, .istore 5, 25, 5, 0, 0, 0, 0, 0, 0), (25, .iconst 0, 26, 0, 0, 0, 0, 0, 0, 0), (26, .istore 6, 28, 6, 0, 0, 0, 0, 0, 0), (28, .iload 6, 30, 6, 0, 0, 0, 0, 0, 0), (30, .iconst 4, 31, 0, 0, 0, 0, 0, 4, 0), (31, .if_icmp .ge 60, 34, 91, 0, 0, 0, 0, 0, 0), (34, .iconst 0, 35, 0, 0, 0, 0, 0, 0, 0), (35, .istore 7, 37, 7, 0, 0, 0, 0, 0, 0)]),
  (58, [(37, .iload 7, 39, 7, 0, 0, 0, 0, 0, 0), (39, .iconst 4, 40, 0, 0, 0, 0, 0, 4, 0), (40, .if_icmp .ge 45, 43, 85, 0, 0, 0, 0, 0, 0), (43, .iload 5, 45, 5, 0, 0, 0, 0, 0, 0), (45, .iload 4, 47, 4, 0, 0, 0, 0, 0, 0), (47, .iload 6, 49, 6, 0, 0, 0, 0, 0, 0), (49, .iadd, 50, 0, 0, 0, 0, 0, 0, 0), (50, .iload 7, 52, 7, 0, 0, 0, 0, 0, 0), (52, .iadd, 53, 0, 0, 0, 0, 0, 0, 0), (53, .iload_n 3, 54, 3, 0, 0, 0, 0, 0, 0), (54, .if_icmp .gt 21, 57, 75, 0, 0, 0, 0, 0, 0), (57, .aload_n 0, 58, 0, 0, 0, 0, 0, 0, 0)]),
  (79, [(58, .iload_n 2, 59, 2, 0, 0, 0, 0, 0, 0), (59, .iload 6, 61, 6, 0, 0, 0, 0, 0, 0), (61, .invokevirtual 437, 64, 244, 3, 0, 11, 1627, 0, 0), (64, .aload_n 0, 65, 0, 0, 0, 0, 0, 0, 0), (65, .iload_n 1, 66, 1, 0, 0, 0, 0, 0, 0), (66, .iload 7, 68, 7, 0, 0, 0, 0, 0, 0), (68, .invokevirtual 437, 71, 244, 3, 0, 11, 1627, 0, 0), (71, .imul, 72, 0, 0, 0, 0, 0, 0, 0), (72, .goto 4, 75, 76, 0, 0, 0, 0, 0, 0), (75, .iconst 0, 76, 0, 0, 0, 0, 0, 0, 0), (76, .iadd, 77, 0, 0, 0, 0, 0, 0, 0), (77, .istore 5, 79, 5, 0, 0, 0, 0, 0, 0)]),
  (100000, [(79, .iinc 7 1, 82, 7, 0, 0, 0, 0, 1, 0), (82, .goto (-45), 85, 37, 0, 0, 0, 0, 0, 0), (85, .iinc 6 1, 88, 6, 0, 0, 0, 0, 1, 0), (88, .goto (-60), 91, 28, 0, 0, 0, 0, 0, 0), (91, .iload 5, 93, 5, 0, 0, 0, 0, 0, 0), (93, .ireturn, 94, 0, 0, 0, 0, 0, 0, 0)])]
def mmX11_casesBy : am_M := (yX11_casesBy, cX11_casesBy, 8, some .int, 0, 0, 4, 11, [1626, 1625, 72, 87, 1], tbX11_casesBy)
def tbX11_chance : List (Nat × List am_I) := [(20, [(0, .aload_n 0, 1, 0, 0, 0, 0, 0, 0, 0), (1, .iconst 0, 2, 0, 0, 0, 0, 0, 0, 0), (2, .putfield 3, 5, 11, 0, 0, 0, 1661, 0, 0), (5, .aload_n 0, 6, 0, 0, 0, 0, 0, 0, 0), (6, .iload_n 1, 7, 1, 0, 0, 0, 0, 0, 0), (7, .iload_n 2, 8, 2, 0, 0, 0, 0, 0, 0), (8, .invokevirtual 65, 11, 157, 3, 0, 11, 1215, 0, 0), (11, .ifCond .eq 15, 14, 26, 0, 0, 0, 0, 0, 0), (14, .iload_n 3, 15, 3, 0, 0, 0, 0, 0, 0), (15, .i2l, 16, 0, 0, 0, 0, 0, 0, 0), (16, .lconst 0, 17, 0, 0, 0, 0, 0, 0, 0), (17, .ldc2_w 257, 20, 0, 0, 0, 0, 1370, 0, 199)]),
  (43, [(20, .invokestatic 34, 23, 149, 3, 1, 0, 1194, 0, 0), (23, .ifCond .ne 5, 26, 28, 0, 0, 0, 0, 0, 0), (26, .iconst (-1), 27, 0, 0, 0, 0, 0, -1, 0), (27, .ireturn, 28, 0, 0, 0, 0, 0, 0, 0), (28, .aload_n 0, 29, 0, 0, 0, 0, 0, 0, 0), (29, .getfield 76, 32, 11, 7, 0, 0, 1668, 0, 0), (32, .iload_n 1, 33, 1, 0, 0, 0, 0, 0, 0), (33, .iaload, 34, 0, 0, 0, 0, 0, 0, 0), (34, .iload_n 2, 35, 2, 0, 0, 0, 0, 0, 0), (35, .invokestatic 213, 38, 150, 2, 1, 0, 1339, 0, 0), (38, .ifCond .ne 6, 41, 44, 0, 0, 0, 0, 0, 0), (41, .bipush (-2), 43, 0, 0, 0, 0, 0, -2, 0)]),
  (61, [(43, .ireturn, 44, 0, 0, 0, 0, 0, 0, 0), (44, .aload_n 0, 45, 0, 0, 0, 0, 0, 0, 0), (45, .iconst 0, 46, 0, 0, 0, 0, 0, 0, 0), (46, .putfield 20, 49, 11, 1, 0, 0, 1662, 0, 0), (49, .aload_n 0, 50, 0, 0, 0, 0, 0, 0, 0), (50, .aload_n 0, 51, 0, 0, 0, 0, 0, 0, 0), (51, .iload_n 1, 52, 1, 0, 0, 0, 0, 0, 0), (52, .iload_n 2, 53, 2, 0, 0, 0, 0, 0, 0), (53, .iload_n 3, 54, 3, 0, 0, 0, 0, 0, 0), (54, .invokevirtual 440, 57, 245, 4, 0, 11, 1623, 0, 0), (57, .i2l, 58, 0, 0, 0, 0, 0, 0, 0), (58, .ldc2_w 443, 61, 0, 0, 0, 0, 1631, 0, 100)]),
  (100000, [(61, .invokevirtual 350, 64, 155, 3, 0, 11, 1494, 0, 0), (64, .iconst 0, 65, 0, 0, 0, 0, 0, 0, 0), (65, .ireturn, 66, 0, 0, 0, 0, 0, 0, 0)])]
def mmX11_chance : am_M := (yX11_chance, cX11_chance, 4, some .int, 0, 0, 4, 11, [1622, 1620, 1621, 87, 1], tbX11_chance)
def tbX11_sure : List (Nat × List am_I) := [(20, [(0, .aload_n 0, 1, 0, 0, 0, 0, 0, 0, 0), (1, .iconst 0, 2, 0, 0, 0, 0, 0, 0, 0), (2, .putfield 3, 5, 11, 0, 0, 0, 1661, 0, 0), (5, .aload_n 0, 6, 0, 0, 0, 0, 0, 0, 0), (6, .iload_n 1, 7, 1, 0, 0, 0, 0, 0, 0), (7, .iload_n 2, 8, 2, 0, 0, 0, 0, 0, 0), (8, .invokevirtual 65, 11, 157, 3, 0, 11, 1215, 0, 0), (11, .ifCond .eq 15, 14, 26, 0, 0, 0, 0, 0, 0), (14, .iload_n 3, 15, 3, 0, 0, 0, 0, 0, 0), (15, .i2l, 16, 0, 0, 0, 0, 0, 0, 0), (16, .lconst 1, 17, 0, 0, 0, 0, 0, 0, 1), (17, .ldc2_w 443, 20, 0, 0, 0, 0, 1631, 0, 100)]),
  (43, [(20, .invokestatic 34, 23, 149, 3, 1, 0, 1194, 0, 0), (23, .ifCond .ne 5, 26, 28, 0, 0, 0, 0, 0, 0), (26, .iconst (-1), 27, 0, 0, 0, 0, 0, -1, 0), (27, .ireturn, 28, 0, 0, 0, 0, 0, 0, 0), (28, .aload_n 0, 29, 0, 0, 0, 0, 0, 0, 0), (29, .getfield 76, 32, 11, 7, 0, 0, 1668, 0, 0), (32, .iload_n 1, 33, 1, 0, 0, 0, 0, 0, 0), (33, .iaload, 34, 0, 0, 0, 0, 0, 0, 0), (34, .iload_n 2, 35, 2, 0, 0, 0, 0, 0, 0), (35, .invokestatic 213, 38, 150, 2, 1, 0, 1339, 0, 0), (38, .ifCond .ne 6, 41, 44, 0, 0, 0, 0, 0, 0), (41, .bipush (-2), 43, 0, 0, 0, 0, 0, -2, 0)]),
  (65, [(43, .ireturn, 44, 0, 0, 0, 0, 0, 0, 0), (44, .iconst 0, 45, 0, 0, 0, 0, 0, 0, 0), (45, .istore 4, 47, 4, 0, 0, 0, 0, 0, 0), (47, .aload_n 0, 48, 0, 0, 0, 0, 0, 0, 0), (48, .iload_n 1, 49, 1, 0, 0, 0, 0, 0, 0), (49, .iload_n 2, 50, 2, 0, 0, 0, 0, 0, 0), (50, .iload 4, 52, 4, 0, 0, 0, 0, 0, 0), (52, .invokevirtual 440, 55, 245, 4, 0, 11, 1623, 0, 0), (55, .iload_n 3, 56, 3, 0, 0, 0, 0, 0, 0), (56, .if_icmp .ge 9, 59, 65, 0, 0, 0, 0, 0, 0), (59, .iinc 4 1, 62, 4, 0, 0, 0, 0, 1, 0), (62, .goto (-15), 65, 47, 0, 0, 0, 0, 0, 0)]),
  (100000, [(65, .iload 4, 67, 4, 0, 0, 0, 0, 0, 0), (67, .ireturn, 68, 0, 0, 0, 0, 0, 0, 0)])]
def mmX11_sure : am_M := (yX11_sure, cX11_sure, 5, some .int, 0, 0, 4, 11, [1635, 1633, 1634, 87, 1], tbX11_sure)
def tbX11_seed : List (Nat × List am_I) := [(100000, [(0, .aload_n 0, 1, 0, 0, 0, 0, 0, 0, 0), (1, .iconst 0, 2, 0, 0, 0, 0, 0, 0, 0), (2, .putfield 3, 5, 11, 0, 0, 0, 1661, 0, 0), (5, .aload_n 0, 6, 0, 0, 0, 0, 0, 0, 0), (6, .getfield 241, 9, 11, 24, 0, 0, 1685, 0, 0), (9, .istore_n 2, 10, 2, 0, 0, 0, 0, 0, 0), (10, .aload_n 0, 11, 0, 0, 0, 0, 0, 0, 0), (11, .iload_n 1, 12, 1, 0, 0, 0, 0, 0, 0), (12, .putfield 241, 15, 11, 24, 0, 0, 1685, 0, 0), (15, .iload_n 2, 16, 2, 0, 0, 0, 0, 0, 0), (16, .ireturn, 17, 0, 0, 0, 0, 0, 0, 0)])]
def mmX11_seed : am_M := (yX11_seed, cX11_seed, 3, some .int, 0, 0, 2, 11, [1639, 1637, 1638, 87, 1], tbX11_seed)
def tbX11_keep : List (Nat × List am_I) := [(20, [(0, .aload_n 0, 1, 0, 0, 0, 0, 0, 0, 0), (1, .iconst 0, 2, 0, 0, 0, 0, 0, 0, 0), (2, .putfield 3, 5, 11, 0, 0, 0, 1661, 0, 0), (5, .iload_n 1, 6, 1, 0, 0, 0, 0, 0, 0), (6, .i2l, 7, 0, 0, 0, 0, 0, 0, 0), (7, .lconst 0, 8, 0, 0, 0, 0, 0, 0, 0), (8, .ldc2_w 59, 11, 0, 0, 0, 0, 1207, 0, 2), (11, .invokestatic 34, 14, 149, 3, 1, 0, 1194, 0, 0), (14, .ifCond .ne 5, 17, 19, 0, 0, 0, 0, 0, 0), (17, .iconst 0, 18, 0, 0, 0, 0, 0, 0, 0), (18, .ireturn, 19, 0, 0, 0, 0, 0, 0, 0), (19, .aload_n 0, 20, 0, 0, 0, 0, 0, 0, 0)]),
  (40, [(20, .getfield 445, 23, 11, 49, 0, 0, 1710, 0, 0), (23, .iload_n 1, 24, 1, 0, 0, 0, 0, 0, 0), (24, .iconst 1, 25, 0, 0, 0, 0, 0, 1, 0), (25, .bastore, 26, 0, 0, 0, 0, 0, 0, 0), (26, .aload_n 0, 27, 0, 0, 0, 0, 0, 0, 0), (27, .getfield 449, 30, 11, 50, 0, 0, 1711, 0, 0), (30, .iload_n 1, 31, 1, 0, 0, 0, 0, 0, 0), (31, .aload_n 0, 32, 0, 0, 0, 0, 0, 0, 0), (32, .getfield 31, 35, 11, 3, 0, 0, 1664, 0, 0), (35, .iastore, 36, 0, 0, 0, 0, 0, 0, 0), (36, .aload_n 0, 37, 0, 0, 0, 0, 0, 0, 0), (37, .getfield 452, 40, 11, 51, 0, 0, 1712, 0, 0)]),
  (60, [(40, .iload_n 1, 41, 1, 0, 0, 0, 0, 0, 0), (41, .aload_n 0, 42, 0, 0, 0, 0, 0, 0, 0), (42, .getfield 83, 45, 11, 23, 0, 0, 1684, 0, 0), (45, .iastore, 46, 0, 0, 0, 0, 0, 0, 0), (46, .aload_n 0, 47, 0, 0, 0, 0, 0, 0, 0), (47, .getfield 455, 50, 11, 52, 0, 0, 1713, 0, 0), (50, .iload_n 1, 51, 1, 0, 0, 0, 0, 0, 0), (51, .aload_n 0, 52, 0, 0, 0, 0, 0, 0, 0), (52, .getfield 86, 55, 11, 9, 0, 0, 1670, 0, 0), (55, .iastore, 56, 0, 0, 0, 0, 0, 0, 0), (56, .aload_n 0, 57, 0, 0, 0, 0, 0, 0, 0), (57, .getfield 458, 60, 11, 53, 0, 0, 1714, 0, 0)]),
  (78, [(60, .iload_n 1, 61, 1, 0, 0, 0, 0, 0, 0), (61, .aload_n 0, 62, 0, 0, 0, 0, 0, 0, 0), (62, .getfield 241, 65, 11, 24, 0, 0, 1685, 0, 0), (65, .iastore, 66, 0, 0, 0, 0, 0, 0, 0), (66, .iconst 0, 67, 0, 0, 0, 0, 0, 0, 0), (67, .istore_n 2, 68, 2, 0, 0, 0, 0, 0, 0), (68, .iload_n 2, 69, 2, 0, 0, 0, 0, 0, 0), (69, .aload_n 0, 70, 0, 0, 0, 0, 0, 0, 0), (70, .getfield 207, 73, 11, 26, 0, 0, 1687, 0, 0), (73, .arraylength, 74, 0, 0, 0, 0, 0, 0, 0), (74, .if_icmp .ge 27, 77, 101, 0, 0, 0, 0, 0, 0), (77, .aload_n 0, 78, 0, 0, 0, 0, 0, 0, 0)]),
  (98, [(78, .getfield 461, 81, 11, 48, 0, 0, 1709, 0, 0), (81, .sipush 5001, 84, 0, 0, 0, 0, 0, 5001, 0), (84, .iload_n 1, 85, 1, 0, 0, 0, 0, 0, 0), (85, .imul, 86, 0, 0, 0, 0, 0, 0, 0), (86, .iload_n 2, 87, 2, 0, 0, 0, 0, 0, 0), (87, .iadd, 88, 0, 0, 0, 0, 0, 0, 0), (88, .aload_n 0, 89, 0, 0, 0, 0, 0, 0, 0), (89, .getfield 207, 92, 11, 26, 0, 0, 1687, 0, 0), (92, .iload_n 2, 93, 2, 0, 0, 0, 0, 0, 0), (93, .iaload, 94, 0, 0, 0, 0, 0, 0, 0), (94, .iastore, 95, 0, 0, 0, 0, 0, 0, 0), (95, .iinc 2 1, 98, 2, 0, 0, 0, 0, 1, 0)]),
  (120, [(98, .goto (-30), 101, 68, 0, 0, 0, 0, 0, 0), (101, .iconst 0, 102, 0, 0, 0, 0, 0, 0, 0), (102, .istore_n 2, 103, 2, 0, 0, 0, 0, 0, 0), (103, .iload_n 2, 104, 2, 0, 0, 0, 0, 0, 0), (104, .sipush 200, 107, 0, 0, 0, 0, 0, 200, 0), (107, .if_icmp .gt 33, 110, 140, 0, 0, 0, 0, 0, 0), (110, .aload_n 0, 111, 0, 0, 0, 0, 0, 0, 0), (111, .getfield 461, 114, 11, 48, 0, 0, 1709, 0, 0), (114, .sipush 5001, 117, 0, 0, 0, 0, 0, 5001, 0), (117, .iload_n 1, 118, 1, 0, 0, 0, 0, 0, 0), (118, .imul, 119, 0, 0, 0, 0, 0, 0, 0), (119, .aload_n 0, 120, 0, 0, 0, 0, 0, 0, 0)]),
  (140, [(120, .getfield 207, 123, 11, 26, 0, 0, 1687, 0, 0), (123, .arraylength, 124, 0, 0, 0, 0, 0, 0, 0), (124, .iadd, 125, 0, 0, 0, 0, 0, 0, 0), (125, .iload_n 2, 126, 2, 0, 0, 0, 0, 0, 0), (126, .iadd, 127, 0, 0, 0, 0, 0, 0, 0), (127, .aload_n 0, 128, 0, 0, 0, 0, 0, 0, 0), (128, .getfield 89, 131, 11, 25, 0, 0, 1686, 0, 0), (131, .iload_n 2, 132, 2, 0, 0, 0, 0, 0, 0), (132, .iaload, 133, 0, 0, 0, 0, 0, 0, 0), (133, .iastore, 134, 0, 0, 0, 0, 0, 0, 0), (134, .iinc 2 1, 137, 2, 0, 0, 0, 0, 1, 0), (137, .goto (-34), 140, 103, 0, 0, 0, 0, 0, 0)]),
  (100000, [(140, .iconst 1, 141, 0, 0, 0, 0, 0, 1, 0), (141, .ireturn, 142, 0, 0, 0, 0, 0, 0, 0)])]
def mmX11_keep : am_M := (yX11_keep, cX11_keep, 3, some .boolean, 0, 0, 2, 11, [1643, 1641, 1642, 87, 1], tbX11_keep)
def tbX11_again : List (Nat × List am_I) := [(22, [(0, .aload_n 0, 1, 0, 0, 0, 0, 0, 0, 0), (1, .iconst 0, 2, 0, 0, 0, 0, 0, 0, 0), (2, .putfield 3, 5, 11, 0, 0, 0, 1661, 0, 0), (5, .iload_n 1, 6, 1, 0, 0, 0, 0, 0, 0), (6, .i2l, 7, 0, 0, 0, 0, 0, 0, 0), (7, .lconst 0, 8, 0, 0, 0, 0, 0, 0, 0), (8, .ldc2_w 59, 11, 0, 0, 0, 0, 1207, 0, 2), (11, .invokestatic 34, 14, 149, 3, 1, 0, 1194, 0, 0), (14, .ifCond .eq 25, 17, 39, 0, 0, 0, 0, 0, 0), (17, .aload_n 0, 18, 0, 0, 0, 0, 0, 0, 0), (18, .getfield 445, 21, 11, 49, 0, 0, 1710, 0, 0), (21, .iload_n 1, 22, 1, 0, 0, 0, 0, 0, 0)]),
  (42, [(22, .baload, 23, 0, 0, 0, 0, 0, 0, 0), (23, .ifCond .eq 16, 26, 39, 0, 0, 0, 0, 0, 0), (26, .aload_n 0, 27, 0, 0, 0, 0, 0, 0, 0), (27, .getfield 449, 30, 11, 50, 0, 0, 1711, 0, 0), (30, .iload_n 1, 31, 1, 0, 0, 0, 0, 0, 0), (31, .iaload, 32, 0, 0, 0, 0, 0, 0, 0), (32, .aload_n 0, 33, 0, 0, 0, 0, 0, 0, 0), (33, .getfield 31, 36, 11, 3, 0, 0, 1664, 0, 0), (36, .if_icmp .eq 5, 39, 41, 0, 0, 0, 0, 0, 0), (39, .iconst 0, 40, 0, 0, 0, 0, 0, 0, 0), (40, .ireturn, 41, 0, 0, 0, 0, 0, 0, 0), (41, .aload_n 0, 42, 0, 0, 0, 0, 0, 0, 0)]),
  (62, [(42, .aload_n 0, 43, 0, 0, 0, 0, 0, 0, 0), (43, .getfield 452, 46, 11, 51, 0, 0, 1712, 0, 0), (46, .iload_n 1, 47, 1, 0, 0, 0, 0, 0, 0), (47, .iaload, 48, 0, 0, 0, 0, 0, 0, 0), (48, .putfield 83, 51, 11, 23, 0, 0, 1684, 0, 0), (51, .aload_n 0, 52, 0, 0, 0, 0, 0, 0, 0), (52, .aload_n 0, 53, 0, 0, 0, 0, 0, 0, 0), (53, .getfield 455, 56, 11, 52, 0, 0, 1713, 0, 0), (56, .iload_n 1, 57, 1, 0, 0, 0, 0, 0, 0), (57, .iaload, 58, 0, 0, 0, 0, 0, 0, 0), (58, .putfield 86, 61, 11, 9, 0, 0, 1670, 0, 0), (61, .aload_n 0, 62, 0, 0, 0, 0, 0, 0, 0)]),
  (82, [(62, .aload_n 0, 63, 0, 0, 0, 0, 0, 0, 0), (63, .getfield 458, 66, 11, 53, 0, 0, 1714, 0, 0), (66, .iload_n 1, 67, 1, 0, 0, 0, 0, 0, 0), (67, .iaload, 68, 0, 0, 0, 0, 0, 0, 0), (68, .putfield 241, 71, 11, 24, 0, 0, 1685, 0, 0), (71, .iconst 0, 72, 0, 0, 0, 0, 0, 0, 0), (72, .istore_n 2, 73, 2, 0, 0, 0, 0, 0, 0), (73, .iload_n 2, 74, 2, 0, 0, 0, 0, 0, 0), (74, .aload_n 0, 75, 0, 0, 0, 0, 0, 0, 0), (75, .getfield 207, 78, 11, 26, 0, 0, 1687, 0, 0), (78, .arraylength, 79, 0, 0, 0, 0, 0, 0, 0), (79, .if_icmp .ge 27, 82, 106, 0, 0, 0, 0, 0, 0)]),
  (100, [(82, .aload_n 0, 83, 0, 0, 0, 0, 0, 0, 0), (83, .getfield 207, 86, 11, 26, 0, 0, 1687, 0, 0), (86, .iload_n 2, 87, 2, 0, 0, 0, 0, 0, 0), (87, .aload_n 0, 88, 0, 0, 0, 0, 0, 0, 0), (88, .getfield 461, 91, 11, 48, 0, 0, 1709, 0, 0), (91, .sipush 5001, 94, 0, 0, 0, 0, 0, 5001, 0), (94, .iload_n 1, 95, 1, 0, 0, 0, 0, 0, 0), (95, .imul, 96, 0, 0, 0, 0, 0, 0, 0), (96, .iload_n 2, 97, 2, 0, 0, 0, 0, 0, 0), (97, .iadd, 98, 0, 0, 0, 0, 0, 0, 0), (98, .iaload, 99, 0, 0, 0, 0, 0, 0, 0), (99, .iastore, 100, 0, 0, 0, 0, 0, 0, 0)]),
  (124, [(100, .iinc 2 1, 103, 2, 0, 0, 0, 0, 1, 0), (103, .goto (-30), 106, 73, 0, 0, 0, 0, 0, 0), (106, .iconst 0, 107, 0, 0, 0, 0, 0, 0, 0), (107, .istore_n 2, 108, 2, 0, 0, 0, 0, 0, 0), (108, .iload_n 2, 109, 2, 0, 0, 0, 0, 0, 0), (109, .sipush 200, 112, 0, 0, 0, 0, 0, 200, 0), (112, .if_icmp .gt 33, 115, 145, 0, 0, 0, 0, 0, 0), (115, .aload_n 0, 116, 0, 0, 0, 0, 0, 0, 0), (116, .getfield 89, 119, 11, 25, 0, 0, 1686, 0, 0), (119, .iload_n 2, 120, 2, 0, 0, 0, 0, 0, 0), (120, .aload_n 0, 121, 0, 0, 0, 0, 0, 0, 0), (121, .getfield 461, 124, 11, 48, 0, 0, 1709, 0, 0)]),
  (142, [(124, .sipush 5001, 127, 0, 0, 0, 0, 0, 5001, 0), (127, .iload_n 1, 128, 1, 0, 0, 0, 0, 0, 0), (128, .imul, 129, 0, 0, 0, 0, 0, 0, 0), (129, .aload_n 0, 130, 0, 0, 0, 0, 0, 0, 0), (130, .getfield 207, 133, 11, 26, 0, 0, 1687, 0, 0), (133, .arraylength, 134, 0, 0, 0, 0, 0, 0, 0), (134, .iadd, 135, 0, 0, 0, 0, 0, 0, 0), (135, .iload_n 2, 136, 2, 0, 0, 0, 0, 0, 0), (136, .iadd, 137, 0, 0, 0, 0, 0, 0, 0), (137, .iaload, 138, 0, 0, 0, 0, 0, 0, 0), (138, .iastore, 139, 0, 0, 0, 0, 0, 0, 0), (139, .iinc 2 1, 142, 2, 0, 0, 0, 0, 1, 0)]),
  (100000, [(142, .goto (-34), 145, 108, 0, 0, 0, 0, 0, 0), (145, .iconst 1, 146, 0, 0, 0, 0, 0, 1, 0), (146, .ireturn, 147, 0, 0, 0, 0, 0, 0, 0)])]
def mmX11_again : am_M := (yX11_again, cX11_again, 3, some .boolean, 0, 0, 2, 11, [1647, 1645, 1646, 87, 1], tbX11_again)
def tbX11_rulesTold : List (Nat × List am_I) := [(17, [(0, .iconst 0, 1, 0, 0, 0, 0, 0, 0, 0), (1, .istore_n 1, 2, 1, 0, 0, 0, 0, 0, 0), (2, .iconst 0, 3, 0, 0, 0, 0, 0, 0, 0), (3, .istore_n 2, 4, 2, 0, 0, 0, 0, 0, 0), (4, .iload_n 2, 5, 2, 0, 0, 0, 0, 0, 0), (5, .bipush 12, 7, 0, 0, 0, 0, 0, 12, 0), (7, .if_icmp .ge 28, 10, 35, 0, 0, 0, 0, 0, 0), (10, .iload_n 1, 11, 1, 0, 0, 0, 0, 0, 0), (11, .aload_n 0, 12, 0, 0, 0, 0, 0, 0, 0), (12, .getfield 136, 15, 11, 14, 0, 0, 1675, 0, 0), (15, .iload_n 2, 16, 2, 0, 0, 0, 0, 0, 0), (16, .iaload, 17, 0, 0, 0, 0, 0, 0, 0)]),
  (100000, [(17, .ifCond .le 9, 20, 26, 0, 0, 0, 0, 0, 0), (20, .iconst 1, 21, 0, 0, 0, 0, 0, 1, 0), (21, .iload_n 2, 22, 2, 0, 0, 0, 0, 0, 0), (22, .ishl, 23, 0, 0, 0, 0, 0, 0, 0), (23, .goto 4, 26, 27, 0, 0, 0, 0, 0, 0), (26, .iconst 0, 27, 0, 0, 0, 0, 0, 0, 0), (27, .ior, 28, 0, 0, 0, 0, 0, 0, 0), (28, .istore_n 1, 29, 1, 0, 0, 0, 0, 0, 0), (29, .iinc 2 1, 32, 2, 0, 0, 0, 0, 1, 0), (32, .goto (-28), 35, 4, 0, 0, 0, 0, 0, 0), (35, .iload_n 1, 36, 1, 0, 0, 0, 0, 0, 0), (36, .ireturn, 37, 0, 0, 0, 0, 0, 0, 0)])]
def mmX11_rulesTold : am_M := (yX11_rulesTold, cX11_rulesTold, 3, some .int, 0, 0, 1, 11, [1655, 1654, 74, 87, 1], tbX11_rulesTold)
def tbX11_count : List (Nat × List am_I) := [(55, [(0, .aload_n 0, 1, 0, 0, 0, 0, 0, 0, 0), (1, .iconst 0, 2, 0, 0, 0, 0, 0, 0, 0), (2, .putfield 3, 5, 11, 0, 0, 0, 1661, 0, 0), (5, .iload_n 1, 6, 1, 0, 0, 0, 0, 0, 0), (6, .tableswitch 68 0 5 #[38, 43, 48, 53, 58, 63], 44, 0, 0, 0, 0, 0, 0, 0), (44, .aload_n 0, 45, 0, 0, 0, 0, 0, 0, 0), (45, .getfield 31, 48, 11, 3, 0, 0, 1664, 0, 0), (48, .ireturn, 49, 0, 0, 0, 0, 0, 0, 0), (49, .aload_n 0, 50, 0, 0, 0, 0, 0, 0, 0), (50, .getfield 83, 53, 11, 23, 0, 0, 1684, 0, 0), (53, .ireturn, 54, 0, 0, 0, 0, 0, 0, 0), (54, .aload_n 0, 55, 0, 0, 0, 0, 0, 0, 0)]),
  (75, [(55, .invokevirtual 464, 58, 251, 1, 0, 11, 1652, 0, 0), (58, .ireturn, 59, 0, 0, 0, 0, 0, 0, 0), (59, .aload_n 0, 60, 0, 0, 0, 0, 0, 0, 0), (60, .getfield 96, 63, 11, 10, 0, 0, 1671, 0, 0), (63, .ireturn, 64, 0, 0, 0, 0, 0, 0, 0), (64, .aload_n 0, 65, 0, 0, 0, 0, 0, 0, 0), (65, .getfield 20, 68, 11, 1, 0, 0, 1662, 0, 0), (68, .ireturn, 69, 0, 0, 0, 0, 0, 0, 0), (69, .aload_n 0, 70, 0, 0, 0, 0, 0, 0, 0), (70, .getfield 107, 73, 11, 17, 0, 0, 1678, 0, 0), (73, .ireturn, 74, 0, 0, 0, 0, 0, 0, 0), (74, .iconst (-1), 75, 0, 0, 0, 0, 0, -1, 0)]),
  (100000, [(75, .ireturn, 76, 0, 0, 0, 0, 0, 0, 0)])]
def mmX11_count : am_M := (yX11_count, cX11_count, 2, some .int, 0, 0, 2, 11, [1651, 1649, 1650, 87, 1], tbX11_count)
def tbX11_init : List (Nat × List am_I) := [(23, [(0, .aload_n 0, 1, 0, 0, 0, 0, 0, 0, 0), (1, .invokespecial 467, 4, 0, 0, 5, 0, 1660, 0, 0), (4, .aload_n 0, 5, 0, 0, 0, 0, 0, 0, 0), (5, .bipush 16, 7, 0, 0, 0, 0, 0, 16, 0), (7, .newarray .long, 9, 1, 0, 0, 0, 306, 0, 0), (9, .putfield 16, 12, 11, 2, 2, 0, 1663, 0, 0), (12, .aload_n 0, 13, 0, 0, 0, 0, 0, 0, 0), (13, .bipush 6, 15, 0, 0, 0, 0, 0, 6, 0), (15, .newarray .int, 17, 0, 0, 0, 0, 150, 0, 0), (17, .putfield 46, 20, 11, 4, 2, 0, 1665, 0, 0), (20, .aload_n 0, 21, 0, 0, 0, 0, 0, 0, 0), (21, .bipush 6, 23, 0, 0, 0, 0, 0, 6, 0)]),
  (47, [(23, .newarray .int, 25, 0, 0, 0, 0, 150, 0, 0), (25, .putfield 50, 28, 11, 5, 2, 0, 1666, 0, 0), (28, .aload_n 0, 29, 0, 0, 0, 0, 0, 0, 0), (29, .bipush 6, 31, 0, 0, 0, 0, 0, 6, 0), (31, .newarray .int, 33, 0, 0, 0, 0, 150, 0, 0), (33, .putfield 53, 36, 11, 6, 2, 0, 1667, 0, 0), (36, .aload_n 0, 37, 0, 0, 0, 0, 0, 0, 0), (37, .bipush 6, 39, 0, 0, 0, 0, 0, 6, 0), (39, .newarray .int, 41, 0, 0, 0, 0, 150, 0, 0), (41, .putfield 76, 44, 11, 7, 2, 0, 1668, 0, 0), (44, .aload_n 0, 45, 0, 0, 0, 0, 0, 0, 0), (45, .bipush 6, 47, 0, 0, 0, 0, 0, 6, 0)]),
  (72, [(47, .newarray .int, 49, 0, 0, 0, 0, 150, 0, 0), (49, .putfield 69, 52, 11, 8, 2, 0, 1669, 0, 0), (52, .aload_n 0, 53, 0, 0, 0, 0, 0, 0, 0), (53, .sipush 672, 56, 0, 0, 0, 0, 0, 672, 0), (56, .newarray .int, 58, 0, 0, 0, 0, 150, 0, 0), (58, .putfield 133, 61, 11, 13, 2, 0, 1674, 0, 0), (61, .aload_n 0, 62, 0, 0, 0, 0, 0, 0, 0), (62, .bipush 14, 64, 0, 0, 0, 0, 0, 14, 0), (64, .newarray .int, 66, 0, 0, 0, 0, 150, 0, 0), (66, .putfield 136, 69, 11, 14, 2, 0, 1675, 0, 0), (69, .aload_n 0, 70, 0, 0, 0, 0, 0, 0, 0), (70, .bipush 48, 72, 0, 0, 0, 0, 0, 48, 0)]),
  (95, [(72, .newarray .int, 74, 0, 0, 0, 0, 150, 0, 0), (74, .putfield 197, 77, 11, 15, 2, 0, 1676, 0, 0), (77, .aload_n 0, 78, 0, 0, 0, 0, 0, 0, 0), (78, .bipush 60, 80, 0, 0, 0, 0, 0, 60, 0), (80, .newarray .int, 82, 0, 0, 0, 0, 150, 0, 0), (82, .putfield 110, 85, 11, 16, 2, 0, 1677, 0, 0), (85, .aload_n 0, 86, 0, 0, 0, 0, 0, 0, 0), (86, .bipush 6, 88, 0, 0, 0, 0, 0, 6, 0), (88, .newarray .int, 90, 0, 0, 0, 0, 150, 0, 0), (90, .putfield 200, 93, 11, 22, 2, 0, 1683, 0, 0), (93, .aload_n 0, 94, 0, 0, 0, 0, 0, 0, 0), (94, .iconst 1, 95, 0, 0, 0, 0, 0, 1, 0)]),
  (121, [(95, .putfield 241, 98, 11, 24, 0, 0, 1685, 0, 0), (98, .aload_n 0, 99, 0, 0, 0, 0, 0, 0, 0), (99, .sipush 201, 102, 0, 0, 0, 0, 0, 201, 0), (102, .newarray .int, 104, 0, 0, 0, 0, 150, 0, 0), (104, .putfield 89, 107, 11, 25, 2, 0, 1686, 0, 0), (107, .aload_n 0, 108, 0, 0, 0, 0, 0, 0, 0), (108, .sipush 4800, 111, 0, 0, 0, 0, 0, 4800, 0), (111, .newarray .int, 113, 0, 0, 0, 0, 150, 0, 0), (113, .putfield 207, 116, 11, 26, 2, 0, 1687, 0, 0), (116, .aload_n 0, 117, 0, 0, 0, 0, 0, 0, 0), (117, .bipush 6, 119, 0, 0, 0, 0, 0, 6, 0), (119, .newarray .int, 121, 0, 0, 0, 0, 150, 0, 0)]),
  (133, [(121, .dup, 122, 0, 0, 0, 0, 0, 0, 0), (122, .iconst 0, 123, 0, 0, 0, 0, 0, 0, 0), (123, .iconst (-1), 124, 0, 0, 0, 0, 0, -1, 0), (124, .iastore, 125, 0, 0, 0, 0, 0, 0, 0), (125, .dup, 126, 0, 0, 0, 0, 0, 0, 0), (126, .iconst 1, 127, 0, 0, 0, 0, 0, 1, 0), (127, .iconst (-1), 128, 0, 0, 0, 0, 0, -1, 0), (128, .iastore, 129, 0, 0, 0, 0, 0, 0, 0), (129, .dup, 130, 0, 0, 0, 0, 0, 0, 0), (130, .iconst 2, 131, 0, 0, 0, 0, 0, 2, 0), (131, .iconst (-1), 132, 0, 0, 0, 0, 0, -1, 0), (132, .iastore, 133, 0, 0, 0, 0, 0, 0, 0)]),
  (145, [(133, .dup, 134, 0, 0, 0, 0, 0, 0, 0), (134, .iconst 3, 135, 0, 0, 0, 0, 0, 3, 0), (135, .iconst (-1), 136, 0, 0, 0, 0, 0, -1, 0), (136, .iastore, 137, 0, 0, 0, 0, 0, 0, 0), (137, .dup, 138, 0, 0, 0, 0, 0, 0, 0), (138, .iconst 4, 139, 0, 0, 0, 0, 0, 4, 0), (139, .iconst (-1), 140, 0, 0, 0, 0, 0, -1, 0), (140, .iastore, 141, 0, 0, 0, 0, 0, 0, 0), (141, .dup, 142, 0, 0, 0, 0, 0, 0, 0), (142, .iconst 5, 143, 0, 0, 0, 0, 0, 5, 0), (143, .iconst (-1), 144, 0, 0, 0, 0, 0, -1, 0), (144, .iastore, 145, 0, 0, 0, 0, 0, 0, 0)]),
  (172, [(145, .putfield 238, 148, 11, 27, 2, 0, 1688, 0, 0), (148, .aload_n 0, 149, 0, 0, 0, 0, 0, 0, 0), (149, .sipush 4800, 152, 0, 0, 0, 0, 0, 4800, 0), (152, .newarray .int, 154, 0, 0, 0, 0, 150, 0, 0), (154, .putfield 274, 157, 11, 28, 2, 0, 1689, 0, 0), (157, .aload_n 0, 158, 0, 0, 0, 0, 0, 0, 0), (158, .sipush 201, 161, 0, 0, 0, 0, 0, 201, 0), (161, .newarray .int, 163, 0, 0, 0, 0, 150, 0, 0), (163, .putfield 277, 166, 11, 29, 2, 0, 1690, 0, 0), (166, .aload_n 0, 167, 0, 0, 0, 0, 0, 0, 0), (167, .sipush 241, 170, 0, 0, 0, 0, 0, 241, 0), (170, .newarray .long, 172, 1, 0, 0, 0, 306, 0, 0)]),
  (197, [(172, .putfield 309, 175, 11, 33, 2, 0, 1694, 0, 0), (175, .aload_n 0, 176, 0, 0, 0, 0, 0, 0, 0), (176, .sipush 241, 179, 0, 0, 0, 0, 0, 241, 0), (179, .newarray .long, 181, 1, 0, 0, 0, 306, 0, 0), (181, .putfield 325, 184, 11, 34, 2, 0, 1695, 0, 0), (184, .aload_n 0, 185, 0, 0, 0, 0, 0, 0, 0), (185, .bipush 13, 187, 0, 0, 0, 0, 0, 13, 0), (187, .newarray .long, 189, 1, 0, 0, 0, 306, 0, 0), (189, .putfield 303, 192, 11, 35, 2, 0, 1696, 0, 0), (192, .aload_n 0, 193, 0, 0, 0, 0, 0, 0, 0), (193, .bipush 13, 195, 0, 0, 0, 0, 0, 13, 0), (195, .newarray .long, 197, 1, 0, 0, 0, 306, 0, 0)]),
  (218, [(197, .putfield 306, 200, 11, 36, 2, 0, 1697, 0, 0), (200, .aload_n 0, 201, 0, 0, 0, 0, 0, 0, 0), (201, .sipush 200, 204, 0, 0, 0, 0, 0, 200, 0), (204, .newarray .int, 206, 0, 0, 0, 0, 150, 0, 0), (206, .putfield 354, 209, 11, 38, 2, 0, 1699, 0, 0), (209, .aload_n 0, 210, 0, 0, 0, 0, 0, 0, 0), (210, .bipush 9, 212, 0, 0, 0, 0, 0, 9, 0), (212, .newarray .int, 214, 0, 0, 0, 0, 150, 0, 0), (214, .dup, 215, 0, 0, 0, 0, 0, 0, 0), (215, .iconst 0, 216, 0, 0, 0, 0, 0, 0, 0), (216, .iconst 1, 217, 0, 0, 0, 0, 0, 1, 0), (217, .iastore, 218, 0, 0, 0, 0, 0, 0, 0)]),
  (230, [(218, .dup, 219, 0, 0, 0, 0, 0, 0, 0), (219, .iconst 1, 220, 0, 0, 0, 0, 0, 1, 0), (220, .iconst 1, 221, 0, 0, 0, 0, 0, 1, 0), (221, .iastore, 222, 0, 0, 0, 0, 0, 0, 0), (222, .dup, 223, 0, 0, 0, 0, 0, 0, 0), (223, .iconst 2, 224, 0, 0, 0, 0, 0, 2, 0), (224, .iconst 1, 225, 0, 0, 0, 0, 0, 1, 0), (225, .iastore, 226, 0, 0, 0, 0, 0, 0, 0), (226, .dup, 227, 0, 0, 0, 0, 0, 0, 0), (227, .iconst 3, 228, 0, 0, 0, 0, 0, 3, 0), (228, .iconst 1, 229, 0, 0, 0, 0, 0, 1, 0), (229, .iastore, 230, 0, 0, 0, 0, 0, 0, 0)]),
  (243, [(230, .dup, 231, 0, 0, 0, 0, 0, 0, 0), (231, .iconst 4, 232, 0, 0, 0, 0, 0, 4, 0), (232, .iconst 1, 233, 0, 0, 0, 0, 0, 1, 0), (233, .iastore, 234, 0, 0, 0, 0, 0, 0, 0), (234, .dup, 235, 0, 0, 0, 0, 0, 0, 0), (235, .iconst 5, 236, 0, 0, 0, 0, 0, 5, 0), (236, .iconst 1, 237, 0, 0, 0, 0, 0, 1, 0), (237, .iastore, 238, 0, 0, 0, 0, 0, 0, 0), (238, .dup, 239, 0, 0, 0, 0, 0, 0, 0), (239, .bipush 6, 241, 0, 0, 0, 0, 0, 6, 0), (241, .iconst 1, 242, 0, 0, 0, 0, 0, 1, 0), (242, .iastore, 243, 0, 0, 0, 0, 0, 0, 0)]),
  (261, [(243, .dup, 244, 0, 0, 0, 0, 0, 0, 0), (244, .bipush 7, 246, 0, 0, 0, 0, 0, 7, 0), (246, .iconst 1, 247, 0, 0, 0, 0, 0, 1, 0), (247, .iastore, 248, 0, 0, 0, 0, 0, 0, 0), (248, .dup, 249, 0, 0, 0, 0, 0, 0, 0), (249, .bipush 8, 251, 0, 0, 0, 0, 0, 8, 0), (251, .iconst 1, 252, 0, 0, 0, 0, 0, 1, 0), (252, .iastore, 253, 0, 0, 0, 0, 0, 0, 0), (253, .putfield 368, 256, 11, 39, 2, 0, 1700, 0, 0), (256, .aload_n 0, 257, 0, 0, 0, 0, 0, 0, 0), (257, .bipush 6, 259, 0, 0, 0, 0, 0, 6, 0), (259, .newarray .int, 261, 0, 0, 0, 0, 150, 0, 0)]),
  (285, [(261, .putfield 416, 264, 11, 44, 2, 0, 1705, 0, 0), (264, .aload_n 0, 265, 0, 0, 0, 0, 0, 0, 0), (265, .bipush 6, 267, 0, 0, 0, 0, 0, 6, 0), (267, .newarray .int, 269, 0, 0, 0, 0, 150, 0, 0), (269, .putfield 56, 272, 11, 45, 2, 0, 1706, 0, 0), (272, .aload_n 0, 273, 0, 0, 0, 0, 0, 0, 0), (273, .bipush 6, 275, 0, 0, 0, 0, 0, 6, 0), (275, .newarray .int, 277, 0, 0, 0, 0, 150, 0, 0), (277, .putfield 431, 280, 11, 46, 2, 0, 1707, 0, 0), (280, .aload_n 0, 281, 0, 0, 0, 0, 0, 0, 0), (281, .bipush 6, 283, 0, 0, 0, 0, 0, 6, 0), (283, .newarray .int, 285, 0, 0, 0, 0, 150, 0, 0)]),
  (308, [(285, .putfield 434, 288, 11, 47, 2, 0, 1708, 0, 0), (288, .aload_n 0, 289, 0, 0, 0, 0, 0, 0, 0), (289, .sipush 15003, 292, 0, 0, 0, 0, 0, 15003, 0), (292, .newarray .int, 294, 0, 0, 0, 0, 150, 0, 0), (294, .putfield 461, 297, 11, 48, 2, 0, 1709, 0, 0), (297, .aload_n 0, 298, 0, 0, 0, 0, 0, 0, 0), (298, .iconst 3, 299, 0, 0, 0, 0, 0, 3, 0), (299, .newarray .boolean, 301, 2, 0, 0, 0, 290, 0, 0), (301, .putfield 445, 304, 11, 49, 2, 0, 1710, 0, 0), (304, .aload_n 0, 305, 0, 0, 0, 0, 0, 0, 0), (305, .iconst 3, 306, 0, 0, 0, 0, 0, 3, 0), (306, .newarray .int, 308, 0, 0, 0, 0, 150, 0, 0)]),
  (329, [(308, .putfield 449, 311, 11, 50, 2, 0, 1711, 0, 0), (311, .aload_n 0, 312, 0, 0, 0, 0, 0, 0, 0), (312, .iconst 3, 313, 0, 0, 0, 0, 0, 3, 0), (313, .newarray .int, 315, 0, 0, 0, 0, 150, 0, 0), (315, .putfield 452, 318, 11, 51, 2, 0, 1712, 0, 0), (318, .aload_n 0, 319, 0, 0, 0, 0, 0, 0, 0), (319, .iconst 3, 320, 0, 0, 0, 0, 0, 3, 0), (320, .newarray .int, 322, 0, 0, 0, 0, 150, 0, 0), (322, .putfield 455, 325, 11, 52, 2, 0, 1713, 0, 0), (325, .aload_n 0, 326, 0, 0, 0, 0, 0, 0, 0), (326, .iconst 3, 327, 0, 0, 0, 0, 0, 3, 0), (327, .newarray .int, 329, 0, 0, 0, 0, 150, 0, 0)]),
  (100000, [(329, .putfield 458, 332, 11, 53, 2, 0, 1714, 0, 0), (332, .return_, 333, 0, 0, 0, 0, 0, 0, 0)])]
def mmX11_init : am_M := (yX11_init, cX11_init, 1, none, 32, 26613, 1, 11, [1659, 1658, 0, 87, 2], tbX11_init)
def tbX11_row : List (Nat × List am_I) := [(18, [(0, .aload_n 0, 1, 0, 0, 0, 0, 0, 0, 0), (1, .iconst 0, 2, 0, 0, 0, 0, 0, 0, 0), (2, .putfield 3, 5, 11, 0, 0, 0, 1661, 0, 0), (5, .iload_n 1, 6, 1, 0, 0, 0, 0, 0, 0), (6, .i2l, 7, 0, 0, 0, 0, 0, 0, 0), (7, .lconst 0, 8, 0, 0, 0, 0, 0, 0, 0), (8, .aload_n 0, 9, 0, 0, 0, 0, 0, 0, 0), (9, .getfield 20, 12, 11, 1, 0, 0, 1662, 0, 0), (12, .iconst 1, 13, 0, 0, 0, 0, 0, 1, 0), (13, .isub, 14, 0, 0, 0, 0, 0, 0, 0), (14, .i2l, 15, 0, 0, 0, 0, 0, 0, 0), (15, .invokestatic 34, 18, 149, 3, 1, 0, 1194, 0, 0)]),
  (100000, [(18, .ifCond .ne 10, 21, 28, 0, 0, 0, 0, 0, 0), (21, .aload_n 0, 22, 0, 0, 0, 0, 0, 0, 0), (22, .iconst 1, 23, 0, 0, 0, 0, 0, 1, 0), (23, .putfield 3, 26, 11, 0, 0, 0, 1661, 0, 0), (26, .lconst 0, 27, 0, 0, 0, 0, 0, 0, 0), (27, .lreturn, 28, 0, 0, 0, 0, 0, 0, 0), (28, .aload_n 0, 29, 0, 0, 0, 0, 0, 0, 0), (29, .getfield 16, 32, 11, 2, 0, 0, 1663, 0, 0), (32, .iload_n 1, 33, 1, 0, 0, 0, 0, 0, 0), (33, .laload, 34, 0, 0, 0, 0, 0, 0, 0), (34, .lreturn, 35, 0, 0, 0, 0, 0, 0, 0)])]
def mmX11_row : am_M := (yX11_row, cX11_row, 2, some .long, 0, 0, 2, 11, [1827, 1825, 1826, 87, 1], tbX11_row)
def tbJ6_signum_0f7a4 : List (Nat × List am_I) := [(100000, [(0, .iload_n 0, 1, 0, 0, 0, 0, 0, 0, 0), (1, .bipush 31, 3, 0, 0, 0, 0, 0, 31, 0), (3, .ishr, 4, 0, 0, 0, 0, 0, 0, 0), (4, .iload_n 0, 5, 0, 0, 0, 0, 0, 0, 0), (5, .ineg, 6, 0, 0, 0, 0, 0, 0, 0), (6, .bipush 31, 8, 0, 0, 0, 0, 0, 31, 0), (8, .iushr, 9, 0, 0, 0, 0, 0, 0, 0), (9, .ior, 10, 0, 0, 0, 0, 0, 0, 0), (10, .ireturn, 11, 0, 0, 0, 0, 0, 0, 0)])]
def mmJ6_signum_0f7a4 : am_M := (yJ6_signum_0f7a4, cJ6_signum_0f7a4, 1, some .int, 0, 0, 1, 0, [814, 813, 0, 99, 0], tbJ6_signum_0f7a4)
def am_all : List am_M := [mmX0_init, mmX0_restart, mmX0_copy, mmX0_placeAt, mmX0_noted, mmX0_spoke, mmX0_note, mmX0_move, mmX0_drawOfTen, mmX0_off, mmX0_costTo, mmX0_settledFrom, mmX0_widest, mmX0_turnsRound, mmX1_init, mmX1_add, mmX1_copy, mmX1_value, mmX1_thing, mmX1_reckon, mmX1_join, mmX2_init, mmX2_leastCost, mmX2_spread, mmX2_reckonCosts, mmX2_leastAt, mmX2_hopedFor, mmX2_inReach, mmX3_init, mmX3_tabulate, mmX3_worth, mmX3_sum, mmX3_brings, mmX3_bestThing, mmX3_playBest, mmX3_playByTurns, mmX3_changes, mmX3_mostSeeingBoth, mmX3_spell, mmX3_ruleNumber, mmX4_init, mmX4_hearsAfter, mmX5_init, mmX5_addFour, mmX5_read, mmX5_startAnew, mmX5_take, mmX5_takeDigit, mmX5_takeAhead, mmX5_takeBehind, mmX5_open, mmX5_close, mmX5_finishNumber, mmX5_putOff, mmX5_finishDownTo, mmX5_rankOf, mmX6_init, mmX6_swing, mmX6_widest, mmX6_turns, mmX6_calmFrom, mmX7_init, mmX7_clear, mmX7_add, mmX7_tellOne, mmX7_tellTwo, mmX7_tellThree, mmX7_tellFraction, mmX8_init, mmX8_minutes, mmX8_measure, mmX8_minutesBy, mmX8_findWay, mmX9_init, mmX9_has, mmX9_hasTwo, mmX9_isNear, mmX9_isSeen, mmX9_isDeed, mmX9_toldRules, mmX9_look, mmX9_hears, mmX9_deed, mmX9_speech, mmX9_pass, mmX9_wind, mmX10_init, mmX10_person, mmX10_set, mmX10_link, mmX10_beam, mmX10_sheet, mmX10_sign, mmX10_end, mmX10_rule, mmX10_does, mmX10_go, mmX10_begin, mmX10_place, mmX10_was, mmX10_cost, mmX10_crossed, mmX10_by, mmX10_would, mmX10_rules, mmX10_pair, mmX10_echo, mmX10_waits, mmX10_swings, mmX10_steer, mmX10_blind, mmX10_pull, mmX10_edge, mmX10_gentle, mmX10_weight, mmX10_pays, mmX10_two, mmX10_stand, mmX10_gap, mmX10_says, mmX10_soon, mmX10_know, mmX10_crier, mmX10_deaf, mmX10_warn, mmX10_fog, mmX10_chance, mmX10_sure, mmX10_seed, mmX10_keep, mmX10_again, mmX10_count, mmX10_row, mmX10_isWithin, mmX10_putTo, mmX10_withBit, mmX10_hasBit, mmX10_powerOfTen, mmX10_sheetEntry, mmX10_canSteer, mmX10_isRuleNumber, mmX10_tryOut, mmX10_doneByAll, mmX10_sameMinute, mmX10_saidTooSoon, mmX10_heardByAll, mmX10_answeredOfHundred, mmX11_thrown, mmX11_refuse, mmX11_in, mmX11_has, mmX11_flag, mmX11_put, mmX11_enters, mmX11_common, mmX11_entersFraction, mmX11_isPerson, mmX11_arePair, mmX11_mostOf, mmX11_person, mmX11_set, mmX11_with, mmX11_link, mmX11_beam, mmX11_sheet, mmX11_sign, mmX11_end, mmX11_isDigit, mmX11_among, mmX11_marks, mmX11_thing, mmX11_ahead, mmX11_ranked, mmX11_reads, mmX11_rule, mmX11_pays, mmX11_acted, mmX11_worked, mmX11_indexOf, mmX11_wasOf, mmX11_placeAt, mmX11_lateOf, mmX11_heardBy, mmX11_looks, mmX11_doesNow, mmX11_draws, mmX11_blows, mmX11_passes, mmX11_does, mmX11_go, mmX11_begins, mmX11_begin, mmX11_place, mmX11_was, mmX11_costNow, mmX11_cost, mmX11_crossed, mmX11_by, mmX11_putsBy, mmX11_takesBack, mmX11_costs, mmX11_would, mmX11_rules, mmX11_pair, mmX11_echo, mmX11_waits, mmX11_swings, mmX11_sumsWinds, mmX11_costOf, mmX11_then, mmX11_steers, mmX11_isSteering, mmX11_steer, mmX11_power, mmX11_blind, mmX11_pulls, mmX11_greatest, mmX11_calm, mmX11_pull, mmX11_edge, mmX11_gentle, mmX11_weight, mmX11_worth, mmX11_thingOf, mmX11_worthOf, mmX11_ruleAt, mmX11_bestOfTwo, mmX11_two, mmX11_partOf, mmX11_answers, mmX11_stands, mmX11_isStand, mmX11_stand, mmX11_gap, mmX11_stepTo, mmX11_fars, mmX11_minutesTo, mmX11_says, mmX11_soon, mmX11_know, mmX11_crier, mmX11_deaf, mmX11_warn, mmX11_fog, mmX11_fogOf, mmX11_casesBy, mmX11_chance, mmX11_sure, mmX11_seed, mmX11_keep, mmX11_again, mmX11_rulesTold, mmX11_count, mmX11_init, mmX11_row, mmJ6_signum_0f7a4]
def am_MB0 : List am_M := [mmX0_init, mmX0_restart, mmX0_copy, mmX0_placeAt, mmX0_noted, mmX0_spoke, mmX0_note, mmX0_move, mmX0_drawOfTen, mmX0_off, mmX0_costTo, mmX0_settledFrom, mmX0_widest, mmX0_turnsRound, mmX1_init, mmX1_add]
def am_MB1 : List am_M := [mmX1_copy, mmX1_value, mmX1_thing, mmX1_reckon, mmX1_join, mmX2_init, mmX2_leastCost, mmX2_spread, mmX2_reckonCosts, mmX2_leastAt, mmX2_hopedFor, mmX2_inReach, mmX3_init, mmX3_tabulate, mmX3_worth, mmX3_sum]
def am_MB2 : List am_M := [mmX3_brings, mmX3_bestThing, mmX3_playBest, mmX3_playByTurns, mmX3_changes, mmX3_mostSeeingBoth, mmX3_spell, mmX3_ruleNumber, mmX4_init, mmX4_hearsAfter, mmX5_init, mmX5_addFour, mmX5_read, mmX5_startAnew, mmX5_take, mmX5_takeDigit]
def am_MB3 : List am_M := [mmX5_takeAhead, mmX5_takeBehind, mmX5_open, mmX5_close, mmX5_finishNumber, mmX5_putOff, mmX5_finishDownTo, mmX5_rankOf, mmX6_init, mmX6_swing, mmX6_widest, mmX6_turns, mmX6_calmFrom, mmX7_init, mmX7_clear, mmX7_add]
def am_MB4 : List am_M := [mmX7_tellOne, mmX7_tellTwo, mmX7_tellThree, mmX7_tellFraction, mmX8_init, mmX8_minutes, mmX8_measure, mmX8_minutesBy, mmX8_findWay, mmX9_init, mmX9_has, mmX9_hasTwo, mmX9_isNear, mmX9_isSeen, mmX9_isDeed, mmX9_toldRules]
def am_MB5 : List am_M := [mmX9_look, mmX9_hears, mmX9_deed, mmX9_speech, mmX9_pass, mmX9_wind, mmX10_init, mmX10_person, mmX10_set, mmX10_link, mmX10_beam, mmX10_sheet, mmX10_sign, mmX10_end, mmX10_rule, mmX10_does]
def am_MB6 : List am_M := [mmX10_go, mmX10_begin, mmX10_place, mmX10_was, mmX10_cost, mmX10_crossed, mmX10_by, mmX10_would, mmX10_rules, mmX10_pair, mmX10_echo, mmX10_waits, mmX10_swings, mmX10_steer, mmX10_blind, mmX10_pull]
def am_MB7 : List am_M := [mmX10_edge, mmX10_gentle, mmX10_weight, mmX10_pays, mmX10_two, mmX10_stand, mmX10_gap, mmX10_says, mmX10_soon, mmX10_know, mmX10_crier, mmX10_deaf, mmX10_warn, mmX10_fog, mmX10_chance, mmX10_sure]
def am_MB8 : List am_M := [mmX10_seed, mmX10_keep, mmX10_again, mmX10_count, mmX10_row, mmX10_isWithin, mmX10_putTo, mmX10_withBit, mmX10_hasBit, mmX10_powerOfTen, mmX10_sheetEntry, mmX10_canSteer, mmX10_isRuleNumber, mmX10_tryOut, mmX10_doneByAll, mmX10_sameMinute]
def am_MB9 : List am_M := [mmX10_saidTooSoon, mmX10_heardByAll, mmX10_answeredOfHundred, mmX11_thrown, mmX11_refuse, mmX11_in, mmX11_has, mmX11_flag, mmX11_put, mmX11_enters, mmX11_common, mmX11_entersFraction, mmX11_isPerson, mmX11_arePair, mmX11_mostOf, mmX11_person]
def am_MB10 : List am_M := [mmX11_set, mmX11_with, mmX11_link, mmX11_beam, mmX11_sheet, mmX11_sign, mmX11_end, mmX11_isDigit, mmX11_among, mmX11_marks, mmX11_thing, mmX11_ahead, mmX11_ranked, mmX11_reads, mmX11_rule, mmX11_pays]
def am_MB11 : List am_M := [mmX11_acted, mmX11_worked, mmX11_indexOf, mmX11_wasOf, mmX11_placeAt, mmX11_lateOf, mmX11_heardBy, mmX11_looks, mmX11_doesNow, mmX11_draws, mmX11_blows, mmX11_passes, mmX11_does, mmX11_go, mmX11_begins, mmX11_begin]
def am_MB12 : List am_M := [mmX11_place, mmX11_was, mmX11_costNow, mmX11_cost, mmX11_crossed, mmX11_by, mmX11_putsBy, mmX11_takesBack, mmX11_costs, mmX11_would, mmX11_rules, mmX11_pair, mmX11_echo, mmX11_waits, mmX11_swings, mmX11_sumsWinds]
def am_MB13 : List am_M := [mmX11_costOf, mmX11_then, mmX11_steers, mmX11_isSteering, mmX11_steer, mmX11_power, mmX11_blind, mmX11_pulls, mmX11_greatest, mmX11_calm, mmX11_pull, mmX11_edge, mmX11_gentle, mmX11_weight, mmX11_worth, mmX11_thingOf]
def am_MB14 : List am_M := [mmX11_worthOf, mmX11_ruleAt, mmX11_bestOfTwo, mmX11_two, mmX11_partOf, mmX11_answers, mmX11_stands, mmX11_isStand, mmX11_stand, mmX11_gap, mmX11_stepTo, mmX11_fars, mmX11_minutesTo, mmX11_says, mmX11_soon, mmX11_know]
def am_MB15 : List am_M := [mmX11_crier, mmX11_deaf, mmX11_warn, mmX11_fog, mmX11_fogOf, mmX11_casesBy, mmX11_chance, mmX11_sure, mmX11_seed, mmX11_keep, mmX11_again, mmX11_rulesTold, mmX11_count, mmX11_init, mmX11_row, mmJ6_signum_0f7a4]
def am_MT (mi : Nat) : Option am_M :=
  bif Nat.blt mi 16 then am_MB0[mi - 0]? else
  bif Nat.blt mi 32 then am_MB1[mi - 16]? else
  bif Nat.blt mi 48 then am_MB2[mi - 32]? else
  bif Nat.blt mi 64 then am_MB3[mi - 48]? else
  bif Nat.blt mi 80 then am_MB4[mi - 64]? else
  bif Nat.blt mi 96 then am_MB5[mi - 80]? else
  bif Nat.blt mi 112 then am_MB6[mi - 96]? else
  bif Nat.blt mi 128 then am_MB7[mi - 112]? else
  bif Nat.blt mi 144 then am_MB8[mi - 128]? else
  bif Nat.blt mi 160 then am_MB9[mi - 144]? else
  bif Nat.blt mi 176 then am_MB10[mi - 160]? else
  bif Nat.blt mi 192 then am_MB11[mi - 176]? else
  bif Nat.blt mi 208 then am_MB12[mi - 192]? else
  bif Nat.blt mi 224 then am_MB13[mi - 208]? else
  bif Nat.blt mi 240 then am_MB14[mi - 224]? else
  bif Nat.blt mi 256 then am_MB15[mi - 240]? else
  none
end
section
/-! THE SYSTEM'S STATE: numbers by cell and place; its cells. -/
/-- ints (fields and rows), longs, what refers where (0: how many courses are kept; 1..3: kept 0..2, one more than which, 0 none; 4, 5: hope, hopeNext; 6: signs) -/
abbrev am_S : Type := (Nat → Nat → Int32) × ((Nat → Nat → Int64) × (Nat → Nat))
def gI (S : am_S) (o k : Nat) : Int32 := S.1 o k
def gJ (S : am_S) (o k : Nat) : Int64 := S.2.1 o k
def gR (S : am_S) (c : Nat) : Nat := S.2.2 c
def am_up2 {α : Type} (f : Nat → Nat → α) (o k : Nat) (v : α) : Nat → Nat → α := fun a b => if a = o then (if b = k then v else f a b) else f a b
def am_upr {α : Type} (f : Nat → Nat → α) (o : Nat) (g : Nat → α) : Nat → Nat → α := fun a b => if a = o then g b else f a b
def uI (S : am_S) (o k : Nat) (v : Int32) : am_S := (am_up2 S.1 o k v, S.2)
def uJ (S : am_S) (o k : Nat) (v : Int64) : am_S := (S.1, am_up2 S.2.1 o k v, S.2.2)
/-- a whole row -/
def rI (S : am_S) (o : Nat) (g : Nat → Int32) : am_S := (am_upr S.1 o g, S.2)
def rJ (S : am_S) (o : Nat) (g : Nat → Int64) : am_S := (S.1, am_upr S.2.1 o g, S.2.2)
def uR (S : am_S) (c v : Nat) : am_S := (S.1, S.2.1, fun a => if a = c then v else S.2.2 a)
/-- each cell: its kind (below 12 an object of that class; 20 ints, 21 longs, 22 truths, 23 .. 25 references), its length -/
def am_kl : List (Nat × Nat) := [(10, 0), (9, 0), (23, 6), (24, 12), (20, 6), (20, 6), (4, 0), (20, 4), (4, 0), (20, 4), (4, 0), (20, 4), (4, 0), (20, 4), (4, 0), (20, 4), (4, 0), (20, 4), (1, 0), (20, 40), (20, 40), (1, 0), (20, 40), (20, 40), (1, 0), (20, 40), (20, 40), (1, 0), (20, 40), (20, 40), (1, 0), (20, 40), (20, 40), (1, 0), (20, 40), (20, 40), (1, 0), (20, 40), (20, 40), (1, 0), (20, 40), (20, 40), (1, 0), (20, 40), (20, 40), (1, 0), (20, 40), (20, 40), (1, 0), (20, 40), (20, 40), (1, 0), (20, 40), (20, 40), (0, 0), (20, 200), (20, 1200), (20, 1200), (20, 1200), (20, 1200), (0, 0), (20, 200), (20, 1200), (20, 1200), (20, 1200), (20, 1200), (25, 3), (5, 0), (20, 60), (1, 0), (20, 40), (20, 40), (20, 40), (22, 6), (7, 0), (21, 6), (8, 0), (20, 30), (20, 4), (2, 0), (21, 11), (21, 61), (21, 61), (21, 61), (6, 0), (20, 200), (3, 0), (20, 9), (1, 0), (20, 40), (20, 40), (20, 81), (20, 3), (20, 3), (20, 3), (20, 3), (20, 4), (11, 0), (21, 16), (20, 6), (20, 6), (20, 6), (20, 6), (20, 6), (20, 672), (20, 14), (20, 48), (20, 60), (20, 6), (20, 201), (20, 4800), (20, 6), (20, 4800), (20, 201), (21, 241), (21, 241), (21, 13), (21, 13), (20, 200), (20, 9), (20, 6), (20, 6), (20, 6), (20, 6), (20, 15003), (22, 3), (20, 3), (20, 3), (20, 3), (20, 3), (21, 1)]
def am_kn (m o : Nat) : Nat × Nat :=
  bif Nat.blt o 131 then am_kl.getD o (99, 0) else bif Nat.blt o (131 + 6 * m) then (match (o - 131) % 6 with
    | 0 => (0, 0)
    | 1 => (20, 200)
    | _ => (20, 1200)) else (99, 0)
/-- a field: 0 a number; 1 refers to a cell c; 2 to the c-th behind its own; 3 as gR c; 4 as gR c, 0 null -/
def am_fkl (ci : Nat) : List (Nat × Nat) := match ci with
  | 0 => [(0, 0), (0, 0), (0, 0), (0, 0), (2, 1), (2, 2), (2, 3), (2, 4), (2, 5)]
  | 1 => [(2, 1), (0, 0), (2, 2)]
  | 2 => [(1, 80), (1, 81), (1, 82), (1, 83), (0, 0)]
  | 3 => [(1, 87), (1, 88), (1, 91), (1, 92), (1, 93), (1, 94), (1, 95), (1, 96)]
  | 4 => [(0, 0), (0, 0), (0, 0), (0, 0), (0, 0), (2, 1)]
  | 5 => [(1, 68), (0, 0), (1, 69), (1, 72), (0, 0), (1, 73), (0, 0), (0, 0), (0, 0), (0, 0)]
  | 6 => [(1, 85), (0, 0)]
  | 7 => [(1, 75), (0, 0)]
  | 8 => [(1, 77), (1, 78), (0, 0)]
  | 9 => [(1, 2), (0, 0), (1, 3), (1, 4), (0, 0), (0, 0), (0, 0), (1, 5)]
  | 10 => [(1, 1), (1, 54), (1, 60), (1, 66), (1, 67), (1, 74), (1, 76), (1, 79), (1, 84), (1, 86)]
  | _ => [(0, 0), (0, 0), (1, 98), (0, 0), (1, 99), (1, 100), (1, 101), (1, 102), (1, 103), (0, 0), (0, 0), (0, 0), (0, 0), (1, 104), (1, 105), (1, 106), (1, 107), (0, 0), (0, 0), (0, 0), (0, 0), (4, 6), (1, 108), (0, 0), (0, 0), (1, 109), (1, 110), (1, 111), (1, 112), (1, 113), (0, 0), (0, 0), (0, 0), (3, 4), (3, 5), (1, 116), (1, 117), (0, 0), (1, 118), (1, 119), (0, 0), (0, 0), (0, 0), (0, 0), (1, 120), (1, 121), (1, 122), (1, 123), (1, 124), (1, 125), (1, 126), (1, 127), (1, 128), (1, 129)]
def am_fk (ci k : Nat) : Nat × Nat := (am_fkl ci).getD k (0, 0)
def am_fv (S : am_S) (ci o k : Nat) : Value := match am_fk ci k with
  | (0, _) => .int (gI S o k)
  | (1, c) => .ref c
  | (2, c) => .ref (o + c)
  | (3, c) => .ref (gR S c)
  | (_, c) => match gR S c with
    | 0 => .null
    | n + 1 => .ref (n + 1)
def am_kr (n : Nat) : Option Nat := match n with
  | 0 => none
  | n + 1 => some (131 + 6 * n)
def am_ck (S : am_S) (o : Nat) (q : Nat × Nat) : am_E := match q with
  | (20, n) => .inl (0, n, gI S o)
  | (21, n) => .inr (.inl (n, gJ S o))
  | (22, n) => .inl (2, n, gI S o)
  | (23, _) => .inr (.inr (.inl (3, [some 6, some 8, some 10, some 12, some 14, some 16])))
  | (24, _) => .inr (.inr (.inl (4, [some 18, some 21, some 24, some 27, some 30, some 33, some 36, some 39, some 42, some 45, some 48, some 51])))
  | (25, _) => .inr (.inr (.inl (5, [am_kr (gR S 1), am_kr (gR S 2), am_kr (gR S 3)])))
  | (ci, _) => .inr (.inr (.inr (ci, (List.range (am_fkl ci).length).map (am_fv S ci o))))
def am_H (S : am_S) : am_G := (List.range (131 + 6 * gR S 0)).map (fun o => am_ck S o (am_kn (gR S 0) o))
theorem am_kn_lt {m o : Nat} {q : Nat × Nat} (h : am_kn m o = q) (hq : q.1 ≠ 99) : o < 131 + 6 * m := by
  unfold am_kn at h
  cases h1 : Nat.blt o 131 with
  | true =>
    have := Nat.blt_eq.mp h1
    omega
  | false =>
    rw [h1] at h
    cases h2 : Nat.blt o (131 + 6 * m) with
    | true => exact Nat.blt_eq.mp h2
    | false =>
      rw [h2] at h
      exact absurd (by rw [← h]; rfl) hq
theorem am_H_get {S : am_S} {o : Nat} {q : Nat × Nat} (h : am_kn (gR S 0) o = q) (hq : q.1 ≠ 99) : (am_H S)[o]? = some (am_ck S o q) := by
  have hlt := am_kn_lt h hq
  simp only [am_H, List.getElem?_map, List.getElem?_range hlt, Option.map_some, h]
theorem am_H_ext {S S2 : am_S} {o : Nat} {e : am_E} (h0 : gR S2 0 = gR S 0) (h1 : am_ck S2 o (am_kn (gR S 0) o) = e) (h2 : ∀ a, a ≠ o → am_ck S2 a (am_kn (gR S 0) a) = am_ck S a (am_kn (gR S 0) a)) : (am_H S).set o e = am_H S2 := by
  apply List.ext_getElem?
  intro i
  simp only [am_H, List.getElem?_set, List.getElem?_map, List.length_map, List.length_range, h0]
  by_cases hi : o = i
  · subst hi
    rw [if_pos rfl]
    by_cases hl : o < 131 + 6 * gR S 0
    · rw [if_pos hl, List.getElem?_range hl, Option.map_some, h1]
    · rw [if_neg hl]
      have : (List.range (131 + 6 * gR S 0))[o]? = none := by simp; omega
      rw [this]
      rfl
  · rw [if_neg hi]
    by_cases hl : i < 131 + 6 * gR S 0
    · rw [List.getElem?_range hl, Option.map_some, Option.map_some, h2 i (fun z => hi z.symm)]
    · have : (List.range (131 + 6 * gR S 0))[i]? = none := by simp; omega
      rw [this]
      rfl
theorem am_fv_o {S S2 : am_S} {ci o : Nat} (h1 : ∀ k, gI S2 o k = gI S o k) (h2 : ∀ c, gR S2 c = gR S c) (k : Nat) : am_fv S2 ci o k = am_fv S ci o k := by
  unfold am_fv
  split <;> simp only [h1, h2]
theorem am_ck_o {S S2 : am_S} {o : Nat} (h1 : ∀ k, gI S2 o k = gI S o k) (h2 : ∀ c, gR S2 c = gR S c) (h3 : ∀ k, gJ S2 o k = gJ S o k) (q : Nat × Nat) : am_ck S2 o q = am_ck S o q := by
  have e1 : gI S2 o = gI S o := funext h1
  have e3 : gJ S2 o = gJ S o := funext h3
  have e4 : am_fv S2 = am_fv S ∨ True := Or.inr trivial
  unfold am_ck
  split <;> first | rfl | simp only [e1] | simp only [e3] | simp only [h2] | skip
  · have e5 : ∀ ci, am_fv S2 ci o = am_fv S ci o := fun ci => funext fun k => am_fv_o h1 h2 k
    rw [e5]
theorem gI_uI (S : am_S) (o k : Nat) (v : Int32) (a b : Nat) : gI (uI S o k v) a b = if a = o then (if b = k then v else gI S a b) else gI S a b := rfl
theorem gI_rI (S : am_S) (o : Nat) (g : Nat → Int32) (a b : Nat) : gI (rI S o g) a b = if a = o then g b else gI S a b := rfl
theorem gJ_uJ (S : am_S) (o k : Nat) (v : Int64) (a b : Nat) : gJ (uJ S o k v) a b = if a = o then (if b = k then v else gJ S a b) else gJ S a b := rfl
theorem gJ_rJ (S : am_S) (o : Nat) (g : Nat → Int64) (a b : Nat) : gJ (rJ S o g) a b = if a = o then g b else gJ S a b := rfl
theorem gJ_uI (S : am_S) (o k : Nat) (v : Int32) (a b : Nat) : gJ (uI S o k v) a b = gJ S a b := rfl
theorem gI_uJ (S : am_S) (o k : Nat) (v : Int64) (a b : Nat) : gI (uJ S o k v) a b = gI S a b := rfl
theorem gR_uI (S : am_S) (o k : Nat) (v : Int32) (c : Nat) : gR (uI S o k v) c = gR S c := rfl
theorem gR_uJ (S : am_S) (o k : Nat) (v : Int64) (c : Nat) : gR (uJ S o k v) c = gR S c := rfl
theorem gR_rI (S : am_S) (o : Nat) (g : Nat → Int32) (c : Nat) : gR (rI S o g) c = gR S c := rfl
theorem gJ_rI (S : am_S) (o : Nat) (g : Nat → Int32) (a b : Nat) : gJ (rI S o g) a b = gJ S a b := rfl
theorem gI_rJ (S : am_S) (o : Nat) (g : Nat → Int64) (a b : Nat) : gI (rJ S o g) a b = gI S a b := rfl
/-- an int field is written -/
theorem am_H_putI {S : am_S} {o ci b : Nat} {x : Int32} (h : am_kn (gR S 0) o = (ci, 0)) (hci : ci < 12) (hb : am_fk ci b = (0, 0)) : (am_H S).set o (.inr (.inr (.inr (ci, ((List.range (am_fkl ci).length).map (am_fv S ci o)).set b (.int x))))) = am_H (uI S o b x) := by
  refine am_H_ext rfl ?_ (fun a ha => am_ck_o (S := S) (S2 := uI S o b x) (fun k => by rw [gI_uI, if_neg ha]) (fun _ => rfl) (fun _ => rfl) _)
  rw [h]
  have e : ∀ k, am_fv (uI S o b x) ci o k = if k = b then .int x else am_fv S ci o k := by
    intro k
    by_cases hk : k = b
    · subst hk
      rw [if_pos rfl]
      unfold am_fv
      rw [hb]
      show Value.int (gI (uI S o k x) o k) = _
      rw [gI_uI, if_pos rfl, if_pos rfl]
    · rw [if_neg hk]
      unfold am_fv
      split <;> first | rfl | (rw [gI_uI, if_pos rfl, if_neg hk])
  have e2 : ((List.range (am_fkl ci).length).map (am_fv S ci o)).set b (.int x) = (List.range (am_fkl ci).length).map (am_fv (uI S o b x) ci o) := by
    apply List.ext_getElem?
    intro i
    simp only [List.getElem?_set, List.getElem?_map, List.length_map, List.length_range]
    by_cases hi : i < (am_fkl ci).length
    · rw [List.getElem?_range hi]
      simp only [Option.map_some, e]
      by_cases hib : b = i
      · subst hib
        simp [hi]
      · have : ¬ i = b := fun z => hib z.symm
        simp [hib, this]
    · have hn : (List.range (am_fkl ci).length)[i]? = none := by simp; omega
      rw [hn]
      simp only [Option.map_none]
      split
      · split
        · omega
        · rfl
      · rfl
  rw [e2]
  match ci, hci with
  | 0, _ => rfl
  | 1, _ => rfl
  | 2, _ => rfl
  | 3, _ => rfl
  | 4, _ => rfl
  | 5, _ => rfl
  | 6, _ => rfl
  | 7, _ => rfl
  | 8, _ => rfl
  | 9, _ => rfl
  | 10, _ => rfl
  | 11, _ => rfl
theorem am_H_putA {S : am_S} {o n i t : Nat} {x : Int32} (h : am_kn (gR S 0) o = (20 + t, n)) (ht : t = 0 ∨ t = 2) : (am_H S).set o (.inl (t, n, upd (gI S o) i x)) = am_H (uI S o i x) := by
  refine am_H_ext rfl ?_ (fun a ha => am_ck_o (S := S) (S2 := uI S o i x) (fun k => by rw [gI_uI, if_neg ha]) (fun _ => rfl) (fun _ => rfl) _)
  rw [h]
  have e : gI (uI S o i x) o = upd (gI S o) i x := by
    funext j
    rw [gI_uI, if_pos rfl]
    rfl
  rcases ht with rfl | rfl
  · show Sum.inl (0, n, gI (uI S o i x) o) = _
    rw [e]
  · show Sum.inl (2, n, gI (uI S o i x) o) = _
    rw [e]
theorem am_H_putJ {S : am_S} {o n i : Nat} {x : Int64} (h : am_kn (gR S 0) o = (21, n)) : (am_H S).set o (.inr (.inl (n, vp_updL (gJ S o) i x))) = am_H (uJ S o i x) := by
  refine am_H_ext rfl ?_ (fun a ha => am_ck_o (S := S) (S2 := uJ S o i x) (fun k => rfl) (fun _ => rfl) (fun k => by rw [gJ_uJ, if_neg ha]) _)
  rw [h]
  have e : gJ (uJ S o i x) o = vp_updL (gJ S o) i x := by
    funext j
    rw [gJ_uJ, if_pos rfl]
    rfl
  show Sum.inr (Sum.inl (n, gJ (uJ S o i x) o)) = _
  rw [e]
theorem am_H_rowI {S : am_S} {o n : Nat} {g : Nat → Int32} (h : am_kn (gR S 0) o = (20, n)) : (am_H S).set o (.inl (0, n, g)) = am_H (rI S o g) := by
  refine am_H_ext rfl ?_ (fun a ha => am_ck_o (S := S) (S2 := rI S o g) (fun k => by rw [gI_rI, if_neg ha]) (fun _ => rfl) (fun _ => rfl) _)
  rw [h]
  have e : gI (rI S o g) o = g := by
    funext j
    rw [gI_rI, if_pos rfl]
  show Sum.inl (0, n, gI (rI S o g) o) = _
  rw [e]
theorem am_H_rowJ {S : am_S} {o n : Nat} {g : Nat → Int64} (h : am_kn (gR S 0) o = (21, n)) : (am_H S).set o (.inr (.inl (n, g))) = am_H (rJ S o g) := by
  refine am_H_ext rfl ?_ (fun a ha => am_ck_o (S := S) (S2 := rJ S o g) (fun k => rfl) (fun _ => rfl) (fun k => by rw [gJ_rJ, if_neg ha]) _)
  rw [h]
  have e : gJ (rJ S o g) o = g := by
    funext j
    rw [gJ_rJ, if_pos rfl]
  show Sum.inr (Sum.inl (n, gJ (rJ S o g) o)) = _
  rw [e]
end
section
/-! ROWS of the abstract machine over the system's state: one for each instruction. -/
theorem am_vp {i : Int32} {n : Nat} (h1 : 0 ≤ i) (h2 : i < Int32.ofNat n) (hn : n < 2147483648) : vp_in i n := by
  rw [vp_in_iff]
  rw [Int32.le_iff_toInt_le] at h1
  rw [Int32.lt_iff_toInt_lt] at h2
  have e0 : (0 : Int32).toInt = 0 := by decide
  have e1 : (Int32.ofNat n).toInt = (n : Int) := nI_toInt (n := n) hn
  omega
theorem am_ck_O {S : am_S} {o ci : Nat} (h : ci < 12) : am_ck S o (ci, 0) = .inr (.inr (.inr (ci, (List.range (am_fkl ci).length).map (am_fv S ci o)))) := by
  match ci, h with
  | 0, _ => rfl
  | 1, _ => rfl
  | 2, _ => rfl
  | 3, _ => rfl
  | 4, _ => rfl
  | 5, _ => rfl
  | 6, _ => rfl
  | 7, _ => rfl
  | 8, _ => rfl
  | 9, _ => rfl
  | 10, _ => rfl
  | 11, _ => rfl
theorem am_cnt {st : List Value} {n : Nat} (h : Nat.ble ((st.map fun v => v.category).sum) n = true) : (st.map fun v => v.category).sum ≤ n := Nat.le_of_ble_eq_true h
section AMR
variable {C : am_C} {M : am_M} {scr : Option (Nat × (Nat → Int32))} {Q : Option Value → am_G → Prop} {X : am_P} {pc npc a b t u pos pp : Nat} {cv : Int32} {cl : Int64} {L : am_L} {st : List Value} {G : am_G} {S : am_S} {nc ns : Nat}

theorem r_iconst {n : Int} (hk : am_lk (am_mt M) pc = some (pp, .iconst n, npc, a, b, t, u, pos, cv, cl)) (k : am_Ex C M scr Q X npc L (.int cv :: st) G nc ns) : am_Ex C M scr Q X pc L st G nc ns := am_Ex_in (by
  unfold am_step
  rw [hk]
  exact k)
theorem r_bipush {n : Int} (hk : am_lk (am_mt M) pc = some (pp, .bipush n, npc, a, b, t, u, pos, cv, cl)) (k : am_Ex C M scr Q X npc L (.int cv :: st) G nc ns) : am_Ex C M scr Q X pc L st G nc ns := am_Ex_in (by
  unfold am_step
  rw [hk]
  exact k)
theorem r_sipush {n : Int} (hk : am_lk (am_mt M) pc = some (pp, .sipush n, npc, a, b, t, u, pos, cv, cl)) (k : am_Ex C M scr Q X npc L (.int cv :: st) G nc ns) : am_Ex C M scr Q X pc L st G nc ns := am_Ex_in (by
  unfold am_step
  rw [hk]
  exact k)
theorem r_lconst {n : Fin 2} (hk : am_lk (am_mt M) pc = some (pp, .lconst n, npc, a, b, t, u, pos, cv, cl)) (k : am_Ex C M scr Q X npc L (.long cl :: st) G nc ns) : am_Ex C M scr Q X pc L st G nc ns := am_Ex_in (by
  unfold am_step
  rw [hk]
  exact k)
theorem r_ldc2_w {n : Nat} (hk : am_lk (am_mt M) pc = some (pp, .ldc2_w n, npc, a, b, t, u, pos, cv, cl)) (k : am_Ex C M scr Q X npc L (.long cl :: st) G nc ns) : am_Ex C M scr Q X pc L st G nc ns := am_Ex_in (by
  unfold am_step
  rw [hk]
  exact k)
theorem r_ldc {n : Nat} (hk : am_lk (am_mt M) pc = some (pp, .ldc n, npc, a, b, 0, u, pos, cv, cl)) (k : am_Ex C M scr Q X npc L (.int cv :: st) G nc ns) : am_Ex C M scr Q X pc L st G nc ns := am_Ex_in (by
  unfold am_step
  rw [hk]
  exact k)
theorem r_ldcS {n : Nat} (hk : am_lk (am_mt M) pc = some (pp, .ldc n, npc, a, b, 1, u, pos, cv, cl)) (k : am_Ex C M scr Q X npc L (.ref b :: st) G nc ns) : am_Ex C M scr Q X pc L st G nc ns := am_Ex_in (by
  unfold am_step
  rw [hk]
  exact k)
theorem r_ldc_w {n : Nat} (hk : am_lk (am_mt M) pc = some (pp, .ldc_w n, npc, a, b, 0, u, pos, cv, cl)) (k : am_Ex C M scr Q X npc L (.int cv :: st) G nc ns) : am_Ex C M scr Q X pc L st G nc ns := am_Ex_in (by
  unfold am_step
  rw [hk]
  exact k)
theorem r_ldc_wS {n : Nat} (hk : am_lk (am_mt M) pc = some (pp, .ldc_w n, npc, a, b, 1, u, pos, cv, cl)) (k : am_Ex C M scr Q X npc L (.ref b :: st) G nc ns) : am_Ex C M scr Q X pc L st G nc ns := am_Ex_in (by
  unfold am_step
  rw [hk]
  exact k)
theorem r_iload_n {n : Fin 4} {x : Int32} (hk : am_lk (am_mt M) pc = some (pp, .iload_n n, npc, a, b, t, u, pos, cv, cl)) (hl : L[a]? = some (some (.int x))) (k : am_Ex C M scr Q X npc L (.int x :: st) G nc ns) : am_Ex C M scr Q X pc L st G nc ns := am_Ex_in (by
  unfold am_step
  rw [hk]
  simp only [am_ins]
  rw [hl]
  exact k)
theorem r_iload {n : Nat} {x : Int32} (hk : am_lk (am_mt M) pc = some (pp, .iload n, npc, a, b, t, u, pos, cv, cl)) (hl : L[a]? = some (some (.int x))) (k : am_Ex C M scr Q X npc L (.int x :: st) G nc ns) : am_Ex C M scr Q X pc L st G nc ns := am_Ex_in (by
  unfold am_step
  rw [hk]
  simp only [am_ins]
  rw [hl]
  exact k)
theorem r_lload_n {n : Fin 4} {x : Int64} (hk : am_lk (am_mt M) pc = some (pp, .lload_n n, npc, a, b, t, u, pos, cv, cl)) (hl : L[a]? = some (some (.long x))) (k : am_Ex C M scr Q X npc L (.long x :: st) G nc ns) : am_Ex C M scr Q X pc L st G nc ns := am_Ex_in (by
  unfold am_step
  rw [hk]
  simp only [am_ins]
  rw [hl]
  exact k)
theorem r_lload {n : Nat} {x : Int64} (hk : am_lk (am_mt M) pc = some (pp, .lload n, npc, a, b, t, u, pos, cv, cl)) (hl : L[a]? = some (some (.long x))) (k : am_Ex C M scr Q X npc L (.long x :: st) G nc ns) : am_Ex C M scr Q X pc L st G nc ns := am_Ex_in (by
  unfold am_step
  rw [hk]
  simp only [am_ins]
  rw [hl]
  exact k)
theorem r_aload_n {n : Fin 4} {x : Nat} (hk : am_lk (am_mt M) pc = some (pp, .aload_n n, npc, a, b, t, u, pos, cv, cl)) (hl : L[a]? = some (some (.ref x))) (k : am_Ex C M scr Q X npc L (.ref x :: st) G nc ns) : am_Ex C M scr Q X pc L st G nc ns := am_Ex_in (by
  unfold am_step
  rw [hk]
  simp only [am_ins]
  rw [hl]
  exact k)
theorem r_aload {n : Nat} {x : Nat} (hk : am_lk (am_mt M) pc = some (pp, .aload n, npc, a, b, t, u, pos, cv, cl)) (hl : L[a]? = some (some (.ref x))) (k : am_Ex C M scr Q X npc L (.ref x :: st) G nc ns) : am_Ex C M scr Q X pc L st G nc ns := am_Ex_in (by
  unfold am_step
  rw [hk]
  simp only [am_ins]
  rw [hl]
  exact k)
theorem r_istore_n {n : Fin 4} {x : Int32} (hk : am_lk (am_mt M) pc = some (pp, .istore_n n, npc, a, b, t, u, pos, cv, cl)) (k : am_Ex C M scr Q X npc (am_st1 L a (.int x)) st G nc ns) : am_Ex C M scr Q X pc L (.int x :: st) G nc ns := am_Ex_in (by
  unfold am_step
  rw [hk]
  exact k)
theorem r_istore {n : Nat} {x : Int32} (hk : am_lk (am_mt M) pc = some (pp, .istore n, npc, a, b, t, u, pos, cv, cl)) (k : am_Ex C M scr Q X npc (am_st1 L a (.int x)) st G nc ns) : am_Ex C M scr Q X pc L (.int x :: st) G nc ns := am_Ex_in (by
  unfold am_step
  rw [hk]
  exact k)
theorem r_astore_n {n : Fin 4} {x : Nat} (hk : am_lk (am_mt M) pc = some (pp, .astore_n n, npc, a, b, t, u, pos, cv, cl)) (k : am_Ex C M scr Q X npc (am_st1 L a (.ref x)) st G nc ns) : am_Ex C M scr Q X pc L (.ref x :: st) G nc ns := am_Ex_in (by
  unfold am_step
  rw [hk]
  exact k)
theorem r_astore {n : Nat} {x : Nat} (hk : am_lk (am_mt M) pc = some (pp, .astore n, npc, a, b, t, u, pos, cv, cl)) (k : am_Ex C M scr Q X npc (am_st1 L a (.ref x)) st G nc ns) : am_Ex C M scr Q X pc L (.ref x :: st) G nc ns := am_Ex_in (by
  unfold am_step
  rw [hk]
  exact k)
theorem r_lstore_n {n : Fin 4} {x : Int64} (hk : am_lk (am_mt M) pc = some (pp, .lstore_n n, npc, a, b, t, u, pos, cv, cl)) (k : am_Ex C M scr Q X npc (am_st2 L a (.long x)) st G nc ns) : am_Ex C M scr Q X pc L (.long x :: st) G nc ns := am_Ex_in (by
  unfold am_step
  rw [hk]
  exact k)
theorem r_lstore {n : Nat} {x : Int64} (hk : am_lk (am_mt M) pc = some (pp, .lstore n, npc, a, b, t, u, pos, cv, cl)) (k : am_Ex C M scr Q X npc (am_st2 L a (.long x)) st G nc ns) : am_Ex C M scr Q X pc L (.long x :: st) G nc ns := am_Ex_in (by
  unfold am_step
  rw [hk]
  exact k)
theorem r_iinc {n : Nat} {n2 : Int} {x : Int32} (hk : am_lk (am_mt M) pc = some (pp, .iinc n n2, npc, a, b, t, u, pos, cv, cl)) (hl : L[a]? = some (some (.int x))) (k : am_Ex C M scr Q X npc (am_st1 L a (.int (x + cv))) st G nc ns) : am_Ex C M scr Q X pc L st G nc ns := am_Ex_in (by
  unfold am_step
  rw [hk]
  simp only [am_ins]
  rw [hl]
  exact k)
theorem r_iadd {x y : Int32} (hk : am_lk (am_mt M) pc = some (pp, .iadd, npc, a, b, t, u, pos, cv, cl)) (k : am_Ex C M scr Q X npc L (.int (x + y) :: st) G nc ns) : am_Ex C M scr Q X pc L (.int y :: .int x :: st) G nc ns := am_Ex_in (by
  unfold am_step
  rw [hk]
  exact k)
theorem r_isub {x y : Int32} (hk : am_lk (am_mt M) pc = some (pp, .isub, npc, a, b, t, u, pos, cv, cl)) (k : am_Ex C M scr Q X npc L (.int (x - y) :: st) G nc ns) : am_Ex C M scr Q X pc L (.int y :: .int x :: st) G nc ns := am_Ex_in (by
  unfold am_step
  rw [hk]
  exact k)
theorem r_imul {x y : Int32} (hk : am_lk (am_mt M) pc = some (pp, .imul, npc, a, b, t, u, pos, cv, cl)) (k : am_Ex C M scr Q X npc L (.int (x * y) :: st) G nc ns) : am_Ex C M scr Q X pc L (.int y :: .int x :: st) G nc ns := am_Ex_in (by
  unfold am_step
  rw [hk]
  exact k)
theorem r_iand {x y : Int32} (hk : am_lk (am_mt M) pc = some (pp, .iand, npc, a, b, t, u, pos, cv, cl)) (k : am_Ex C M scr Q X npc L (.int (x &&& y) :: st) G nc ns) : am_Ex C M scr Q X pc L (.int y :: .int x :: st) G nc ns := am_Ex_in (by
  unfold am_step
  rw [hk]
  exact k)
theorem r_ior {x y : Int32} (hk : am_lk (am_mt M) pc = some (pp, .ior, npc, a, b, t, u, pos, cv, cl)) (k : am_Ex C M scr Q X npc L (.int (x ||| y) :: st) G nc ns) : am_Ex C M scr Q X pc L (.int y :: .int x :: st) G nc ns := am_Ex_in (by
  unfold am_step
  rw [hk]
  exact k)
theorem r_ixor {x y : Int32} (hk : am_lk (am_mt M) pc = some (pp, .ixor, npc, a, b, t, u, pos, cv, cl)) (k : am_Ex C M scr Q X npc L (.int (x ^^^ y) :: st) G nc ns) : am_Ex C M scr Q X pc L (.int y :: .int x :: st) G nc ns := am_Ex_in (by
  unfold am_step
  rw [hk]
  exact k)
theorem r_ishl {x y : Int32} (hk : am_lk (am_mt M) pc = some (pp, .ishl, npc, a, b, t, u, pos, cv, cl)) (k : am_Ex C M scr Q X npc L (.int (x <<< (y &&& 31)) :: st) G nc ns) : am_Ex C M scr Q X pc L (.int y :: .int x :: st) G nc ns := am_Ex_in (by
  unfold am_step
  rw [hk]
  exact k)
theorem r_ishr {x y : Int32} (hk : am_lk (am_mt M) pc = some (pp, .ishr, npc, a, b, t, u, pos, cv, cl)) (k : am_Ex C M scr Q X npc L (.int (x >>> (y &&& 31)) :: st) G nc ns) : am_Ex C M scr Q X pc L (.int y :: .int x :: st) G nc ns := am_Ex_in (by
  unfold am_step
  rw [hk]
  exact k)
theorem r_iushr {x y : Int32} (hk : am_lk (am_mt M) pc = some (pp, .iushr, npc, a, b, t, u, pos, cv, cl)) (k : am_Ex C M scr Q X npc L (.int ((x.toUInt32 >>> (y.toUInt32 &&& Int32.toUInt32 31)).toInt32) :: st) G nc ns) : am_Ex C M scr Q X pc L (.int y :: .int x :: st) G nc ns := am_Ex_in (by
  unfold am_step
  rw [hk]
  exact k)
theorem r_idiv {x y : Int32} (hk : am_lk (am_mt M) pc = some (pp, .idiv, npc, a, b, t, u, pos, cv, cl)) (hy : ¬ y = 0) (k : am_Ex C M scr Q X npc L (.int (x / y) :: st) G nc ns) : am_Ex C M scr Q X pc L (.int y :: .int x :: st) G nc ns := am_Ex_in (by
  unfold am_step
  rw [hk]
  exact ⟨hy, k⟩)
theorem r_irem {x y : Int32} (hk : am_lk (am_mt M) pc = some (pp, .irem, npc, a, b, t, u, pos, cv, cl)) (hy : ¬ y = 0) (k : am_Ex C M scr Q X npc L (.int (x - x / y * y) :: st) G nc ns) : am_Ex C M scr Q X pc L (.int y :: .int x :: st) G nc ns := am_Ex_in (by
  unfold am_step
  rw [hk]
  exact ⟨hy, k⟩)
theorem r_ladd {x y : Int64} (hk : am_lk (am_mt M) pc = some (pp, .ladd, npc, a, b, t, u, pos, cv, cl)) (k : am_Ex C M scr Q X npc L (.long (x + y) :: st) G nc ns) : am_Ex C M scr Q X pc L (.long y :: .long x :: st) G nc ns := am_Ex_in (by
  unfold am_step
  rw [hk]
  exact k)
theorem r_lsub {x y : Int64} (hk : am_lk (am_mt M) pc = some (pp, .lsub, npc, a, b, t, u, pos, cv, cl)) (k : am_Ex C M scr Q X npc L (.long (x - y) :: st) G nc ns) : am_Ex C M scr Q X pc L (.long y :: .long x :: st) G nc ns := am_Ex_in (by
  unfold am_step
  rw [hk]
  exact k)
theorem r_lmul {x y : Int64} (hk : am_lk (am_mt M) pc = some (pp, .lmul, npc, a, b, t, u, pos, cv, cl)) (k : am_Ex C M scr Q X npc L (.long (x * y) :: st) G nc ns) : am_Ex C M scr Q X pc L (.long y :: .long x :: st) G nc ns := am_Ex_in (by
  unfold am_step
  rw [hk]
  exact k)
theorem r_ldiv {x y : Int64} (hk : am_lk (am_mt M) pc = some (pp, .ldiv, npc, a, b, t, u, pos, cv, cl)) (hy : ¬ y = 0) (k : am_Ex C M scr Q X npc L (.long (x / y) :: st) G nc ns) : am_Ex C M scr Q X pc L (.long y :: .long x :: st) G nc ns := am_Ex_in (by
  unfold am_step
  rw [hk]
  exact ⟨hy, k⟩)
theorem r_lrem {x y : Int64} (hk : am_lk (am_mt M) pc = some (pp, .lrem, npc, a, b, t, u, pos, cv, cl)) (hy : ¬ y = 0) (k : am_Ex C M scr Q X npc L (.long (x - x / y * y) :: st) G nc ns) : am_Ex C M scr Q X pc L (.long y :: .long x :: st) G nc ns := am_Ex_in (by
  unfold am_step
  rw [hk]
  exact ⟨hy, k⟩)
theorem r_lcmp {x y : Int64} (hk : am_lk (am_mt M) pc = some (pp, .lcmp, npc, a, b, t, u, pos, cv, cl)) (k : am_Ex C M scr Q X npc L (.int (lg_cmp x y) :: st) G nc ns) : am_Ex C M scr Q X pc L (.long y :: .long x :: st) G nc ns := am_Ex_in (by
  unfold am_step
  rw [hk]
  exact k)
theorem r_ineg {x : Int32} (hk : am_lk (am_mt M) pc = some (pp, .ineg, npc, a, b, t, u, pos, cv, cl)) (k : am_Ex C M scr Q X npc L (.int (-x) :: st) G nc ns) : am_Ex C M scr Q X pc L (.int x :: st) G nc ns := am_Ex_in (by
  unfold am_step
  rw [hk]
  exact k)
theorem r_i2l {x : Int32} (hk : am_lk (am_mt M) pc = some (pp, .i2l, npc, a, b, t, u, pos, cv, cl)) (k : am_Ex C M scr Q X npc L (.long x.toInt64 :: st) G nc ns) : am_Ex C M scr Q X pc L (.int x :: st) G nc ns := am_Ex_in (by
  unfold am_step
  rw [hk]
  exact k)
theorem r_i2b {x : Int32} (hk : am_lk (am_mt M) pc = some (pp, .i2b, npc, a, b, t, u, pos, cv, cl)) (k : am_Ex C M scr Q X npc L (.int x.toInt8.toInt32 :: st) G nc ns) : am_Ex C M scr Q X pc L (.int x :: st) G nc ns := am_Ex_in (by
  unfold am_step
  rw [hk]
  exact k)
theorem r_i2s {x : Int32} (hk : am_lk (am_mt M) pc = some (pp, .i2s, npc, a, b, t, u, pos, cv, cl)) (k : am_Ex C M scr Q X npc L (.int x.toInt16.toInt32 :: st) G nc ns) : am_Ex C M scr Q X pc L (.int x :: st) G nc ns := am_Ex_in (by
  unfold am_step
  rw [hk]
  exact k)
theorem r_i2c {x : Int32} (hk : am_lk (am_mt M) pc = some (pp, .i2c, npc, a, b, t, u, pos, cv, cl)) (k : am_Ex C M scr Q X npc L (.int (x.toUInt32 % 65536).toInt32 :: st) G nc ns) : am_Ex C M scr Q X pc L (.int x :: st) G nc ns := am_Ex_in (by
  unfold am_step
  rw [hk]
  exact k)
theorem r_lneg {x : Int64} (hk : am_lk (am_mt M) pc = some (pp, .lneg, npc, a, b, t, u, pos, cv, cl)) (k : am_Ex C M scr Q X npc L (.long (-x) :: st) G nc ns) : am_Ex C M scr Q X pc L (.long x :: st) G nc ns := am_Ex_in (by
  unfold am_step
  rw [hk]
  exact k)
theorem r_dup {v : Value} (hk : am_lk (am_mt M) pc = some (pp, .dup, npc, a, b, t, u, pos, cv, cl)) (hv : v.category = 1) (k : am_Ex C M scr Q X npc L (v :: v :: st) G nc ns) : am_Ex C M scr Q X pc L (v :: st) G nc ns := am_Ex_in (by
  unfold am_step
  rw [hk]
  simp only [am_ins]
  rw [hv]
  exact k)
theorem r_dup2 {v w : Value} (hk : am_lk (am_mt M) pc = some (pp, .dup2, npc, a, b, t, u, pos, cv, cl)) (hv : v.category = 1) (hw : w.category = 1) (k : am_Ex C M scr Q X npc L (v :: w :: v :: w :: st) G nc ns) : am_Ex C M scr Q X pc L (v :: w :: st) G nc ns := am_Ex_in (by
  unfold am_step
  rw [hk]
  simp only [am_ins]
  rw [hv, hw]
  exact k)
theorem r_pop {v : Value} (hk : am_lk (am_mt M) pc = some (pp, .pop, npc, a, b, t, u, pos, cv, cl)) (hv : v.category = 1) (k : am_Ex C M scr Q X npc L st G nc ns) : am_Ex C M scr Q X pc L (v :: st) G nc ns := am_Ex_in (by
  unfold am_step
  rw [hk]
  simp only [am_ins]
  rw [hv]
  exact k)
theorem r_goto {n : Int} (hk : am_lk (am_mt M) pc = some (pp, .goto n, npc, a, b, t, u, pos, cv, cl)) (k : am_Ex C M scr Q X a L st G nc ns) : am_Ex C M scr Q X pc L st G nc ns := am_Ex_in (by
  unfold am_step
  rw [hk]
  exact k)
theorem r_if_eq {n : Int} {x : Int32} (hk : am_lk (am_mt M) pc = some (pp, .ifCond .eq n, npc, a, b, t, u, pos, cv, cl)) (k1 : x = 0 → am_Ex C M scr Q X a L st G nc ns) (k2 : ¬ x = 0 → am_Ex C M scr Q X npc L st G nc ns) : am_Ex C M scr Q X pc L (.int x :: st) G nc ns := am_Ex_in (by
  unfold am_step
  rw [hk]
  exact ⟨k1, k2⟩)
theorem r_if_ne {n : Int} {x : Int32} (hk : am_lk (am_mt M) pc = some (pp, .ifCond .ne n, npc, a, b, t, u, pos, cv, cl)) (k1 : ¬ x = 0 → am_Ex C M scr Q X a L st G nc ns) (k2 : x = 0 → am_Ex C M scr Q X npc L st G nc ns) : am_Ex C M scr Q X pc L (.int x :: st) G nc ns := am_Ex_in (by
  unfold am_step
  rw [hk]
  exact ⟨k1, k2⟩)
theorem r_if_lt {n : Int} {x : Int32} (hk : am_lk (am_mt M) pc = some (pp, .ifCond .lt n, npc, a, b, t, u, pos, cv, cl)) (k1 : x < 0 → am_Ex C M scr Q X a L st G nc ns) (k2 : ¬ x < 0 → am_Ex C M scr Q X npc L st G nc ns) : am_Ex C M scr Q X pc L (.int x :: st) G nc ns := am_Ex_in (by
  unfold am_step
  rw [hk]
  exact ⟨k1, k2⟩)
theorem r_if_ge {n : Int} {x : Int32} (hk : am_lk (am_mt M) pc = some (pp, .ifCond .ge n, npc, a, b, t, u, pos, cv, cl)) (k1 : 0 ≤ x → am_Ex C M scr Q X a L st G nc ns) (k2 : ¬ 0 ≤ x → am_Ex C M scr Q X npc L st G nc ns) : am_Ex C M scr Q X pc L (.int x :: st) G nc ns := am_Ex_in (by
  unfold am_step
  rw [hk]
  exact ⟨k1, k2⟩)
theorem r_if_gt {n : Int} {x : Int32} (hk : am_lk (am_mt M) pc = some (pp, .ifCond .gt n, npc, a, b, t, u, pos, cv, cl)) (k1 : 0 < x → am_Ex C M scr Q X a L st G nc ns) (k2 : ¬ 0 < x → am_Ex C M scr Q X npc L st G nc ns) : am_Ex C M scr Q X pc L (.int x :: st) G nc ns := am_Ex_in (by
  unfold am_step
  rw [hk]
  exact ⟨k1, k2⟩)
theorem r_if_le {n : Int} {x : Int32} (hk : am_lk (am_mt M) pc = some (pp, .ifCond .le n, npc, a, b, t, u, pos, cv, cl)) (k1 : x ≤ 0 → am_Ex C M scr Q X a L st G nc ns) (k2 : ¬ x ≤ 0 → am_Ex C M scr Q X npc L st G nc ns) : am_Ex C M scr Q X pc L (.int x :: st) G nc ns := am_Ex_in (by
  unfold am_step
  rw [hk]
  exact ⟨k1, k2⟩)
theorem r_icmp_eq {n : Int} {x y : Int32} (hk : am_lk (am_mt M) pc = some (pp, .if_icmp .eq n, npc, a, b, t, u, pos, cv, cl)) (k1 : x = y → am_Ex C M scr Q X a L st G nc ns) (k2 : ¬ x = y → am_Ex C M scr Q X npc L st G nc ns) : am_Ex C M scr Q X pc L (.int y :: .int x :: st) G nc ns := am_Ex_in (by
  unfold am_step
  rw [hk]
  exact ⟨k1, k2⟩)
theorem r_icmp_ne {n : Int} {x y : Int32} (hk : am_lk (am_mt M) pc = some (pp, .if_icmp .ne n, npc, a, b, t, u, pos, cv, cl)) (k1 : ¬ x = y → am_Ex C M scr Q X a L st G nc ns) (k2 : x = y → am_Ex C M scr Q X npc L st G nc ns) : am_Ex C M scr Q X pc L (.int y :: .int x :: st) G nc ns := am_Ex_in (by
  unfold am_step
  rw [hk]
  exact ⟨k1, k2⟩)
theorem r_icmp_lt {n : Int} {x y : Int32} (hk : am_lk (am_mt M) pc = some (pp, .if_icmp .lt n, npc, a, b, t, u, pos, cv, cl)) (k1 : x < y → am_Ex C M scr Q X a L st G nc ns) (k2 : ¬ x < y → am_Ex C M scr Q X npc L st G nc ns) : am_Ex C M scr Q X pc L (.int y :: .int x :: st) G nc ns := am_Ex_in (by
  unfold am_step
  rw [hk]
  exact ⟨k1, k2⟩)
theorem r_icmp_ge {n : Int} {x y : Int32} (hk : am_lk (am_mt M) pc = some (pp, .if_icmp .ge n, npc, a, b, t, u, pos, cv, cl)) (k1 : y ≤ x → am_Ex C M scr Q X a L st G nc ns) (k2 : ¬ y ≤ x → am_Ex C M scr Q X npc L st G nc ns) : am_Ex C M scr Q X pc L (.int y :: .int x :: st) G nc ns := am_Ex_in (by
  unfold am_step
  rw [hk]
  exact ⟨k1, k2⟩)
theorem r_icmp_gt {n : Int} {x y : Int32} (hk : am_lk (am_mt M) pc = some (pp, .if_icmp .gt n, npc, a, b, t, u, pos, cv, cl)) (k1 : y < x → am_Ex C M scr Q X a L st G nc ns) (k2 : ¬ y < x → am_Ex C M scr Q X npc L st G nc ns) : am_Ex C M scr Q X pc L (.int y :: .int x :: st) G nc ns := am_Ex_in (by
  unfold am_step
  rw [hk]
  exact ⟨k1, k2⟩)
theorem r_icmp_le {n : Int} {x y : Int32} (hk : am_lk (am_mt M) pc = some (pp, .if_icmp .le n, npc, a, b, t, u, pos, cv, cl)) (k1 : x ≤ y → am_Ex C M scr Q X a L st G nc ns) (k2 : ¬ x ≤ y → am_Ex C M scr Q X npc L st G nc ns) : am_Ex C M scr Q X pc L (.int y :: .int x :: st) G nc ns := am_Ex_in (by
  unfold am_step
  rw [hk]
  exact ⟨k1, k2⟩)
theorem r_ifnullR {n : Int} {x : Nat} (hk : am_lk (am_mt M) pc = some (pp, .ifnull n, npc, a, b, t, u, pos, cv, cl)) (k : am_Ex C M scr Q X npc L st G nc ns) : am_Ex C M scr Q X pc L (.ref x :: st) G nc ns := am_Ex_in (by
  unfold am_step
  rw [hk]
  exact k)
theorem r_ifnullN {n : Int} (hk : am_lk (am_mt M) pc = some (pp, .ifnull n, npc, a, b, t, u, pos, cv, cl)) (k : am_Ex C M scr Q X a L st G nc ns) : am_Ex C M scr Q X pc L (.null :: st) G nc ns := am_Ex_in (by
  unfold am_step
  rw [hk]
  exact k)
theorem r_ifnonnullR {n : Int} {x : Nat} (hk : am_lk (am_mt M) pc = some (pp, .ifnonnull n, npc, a, b, t, u, pos, cv, cl)) (k : am_Ex C M scr Q X a L st G nc ns) : am_Ex C M scr Q X pc L (.ref x :: st) G nc ns := am_Ex_in (by
  unfold am_step
  rw [hk]
  exact k)
theorem r_ifnonnullN {n : Int} (hk : am_lk (am_mt M) pc = some (pp, .ifnonnull n, npc, a, b, t, u, pos, cv, cl)) (k : am_Ex C M scr Q X npc L st G nc ns) : am_Ex C M scr Q X pc L (.null :: st) G nc ns := am_Ex_in (by
  unfold am_step
  rw [hk]
  exact k)
theorem r_table {d lo hi : Int} {offs : Array Int} {x : Int32} (hk : am_lk (am_mt M) pc = some (pp, .tableswitch d lo hi offs, npc, a, b, t, u, pos, cv, cl)) (k1 : x.toInt < lo ∨ hi < x.toInt → am_Ex C M scr Q X (am_tg pc d) L st G nc ns) (k2 : ∀ off : Int, ¬ x.toInt < lo → ¬ hi < x.toInt → offs[(x.toInt - lo).toNat]? = some off → am_Ex C M scr Q X (am_tg pc off) L st G nc ns) : am_Ex C M scr Q X pc L (.int x :: st) G nc ns := am_Ex_in (by
  unfold am_step
  rw [hk]
  exact ⟨k1, k2⟩)
theorem r_lookup {d : Int} {ps : Array (Int × Int)} {x : Int32} (hk : am_lk (am_mt M) pc = some (pp, .lookupswitch d ps, npc, a, b, t, u, pos, cv, cl)) (k : am_Ex C M scr Q X (am_tg pc (Op.lookupswitch.offset ps.toList d x.toInt)) L st G nc ns) : am_Ex C M scr Q X pc L (.int x :: st) G nc ns := am_Ex_in (by
  unfold am_step
  rw [hk]
  exact k)
theorem r_lookupT {d : Int} {ps : Array (Int × Int)} {x : Int32} {tgt : Nat} (hk : am_lk (am_mt M) pc = some (pp, .lookupswitch d ps, npc, a, b, t, u, pos, cv, cl)) (ht : am_tg pc (Op.lookupswitch.offset ps.toList d x.toInt) = tgt) (k : am_Ex C M scr Q X tgt L st G nc ns) : am_Ex C M scr Q X pc L (.int x :: st) G nc ns := r_lookup hk (by rw [ht]; exact k)
theorem r_tableIn {d lo hi : Int} {offs : Array Int} {x : Int32} {off : Int} {tgt : Nat} (hk : am_lk (am_mt M) pc = some (pp, .tableswitch d lo hi offs, npc, a, b, t, u, pos, cv, cl)) (h1 : ¬ x.toInt < lo) (h2 : ¬ hi < x.toInt) (ho : offs[(x.toInt - lo).toNat]? = some off) (ht : am_tg pc off = tgt) (k : am_Ex C M scr Q X tgt L st G nc ns) : am_Ex C M scr Q X pc L (.int x :: st) G nc ns := r_table hk (fun z => by omega) (fun off2 _ _ h3 => by cases ho.symm.trans h3; rw [ht]; exact k)
theorem r_tableOut {d lo hi : Int} {offs : Array Int} {x : Int32} {tgt : Nat} (hk : am_lk (am_mt M) pc = some (pp, .tableswitch d lo hi offs, npc, a, b, t, u, pos, cv, cl)) (h1 : x.toInt < lo ∨ hi < x.toInt) (ht : am_tg pc d = tgt) (k : am_Ex C M scr Q X tgt L st G nc ns) : am_Ex C M scr Q X pc L (.int x :: st) G nc ns := r_table hk (fun _ => by rw [ht]; exact k) (fun _ h2 h3 _ => by omega)
theorem r_getI {n o : Nat} (hk : am_lk (am_mt M) pc = some (pp, .getfield n, npc, a, b, t, u, pos, cv, cl)) (hq : am_kn (gR S 0) o = (a, 0)) (ha : a < 12) (hb : b < (am_fkl a).length) (hf : am_fk a b = (0, 0)) (k : am_Ex C M scr Q X npc L (.int (gI S o b) :: st) (am_H S) nc ns) : am_Ex C M scr Q X pc L (.ref o :: st) (am_H S) nc ns := am_Ex_in (by
  unfold am_step
  rw [hk]
  simp only [am_ins]
  rw [am_H_get hq (by intro z; simp only at z; omega), am_ck_O ha]
  refine ⟨rfl, ?_⟩
  rw [List.getElem?_map, List.getElem?_range hb]
  have e : am_fv S a o b = .int (gI S o b) := by
    unfold am_fv
    rw [hf]
    rfl
  show am_Ex C M scr Q X npc L (am_fv S a o b :: st) (am_H S) nc ns
  rw [e]
  exact k)
theorem r_getC {n o : Nat} {c : Nat} (hk : am_lk (am_mt M) pc = some (pp, .getfield n, npc, a, b, t, u, pos, cv, cl)) (hq : am_kn (gR S 0) o = (a, 0)) (ha : a < 12) (hb : b < (am_fkl a).length) (hf : am_fk a b = (1, c)) (k : am_Ex C M scr Q X npc L (.ref c :: st) (am_H S) nc ns) : am_Ex C M scr Q X pc L (.ref o :: st) (am_H S) nc ns := am_Ex_in (by
  unfold am_step
  rw [hk]
  simp only [am_ins]
  rw [am_H_get hq (by intro z; simp only at z; omega), am_ck_O ha]
  refine ⟨rfl, ?_⟩
  rw [List.getElem?_map, List.getElem?_range hb]
  have e : am_fv S a o b = .ref c := by
    unfold am_fv
    rw [hf]
    rfl
  show am_Ex C M scr Q X npc L (am_fv S a o b :: st) (am_H S) nc ns
  rw [e]
  exact k)
theorem r_getO {n o : Nat} {c : Nat} (hk : am_lk (am_mt M) pc = some (pp, .getfield n, npc, a, b, t, u, pos, cv, cl)) (hq : am_kn (gR S 0) o = (a, 0)) (ha : a < 12) (hb : b < (am_fkl a).length) (hf : am_fk a b = (2, c)) (k : am_Ex C M scr Q X npc L (.ref (o + c) :: st) (am_H S) nc ns) : am_Ex C M scr Q X pc L (.ref o :: st) (am_H S) nc ns := am_Ex_in (by
  unfold am_step
  rw [hk]
  simp only [am_ins]
  rw [am_H_get hq (by intro z; simp only at z; omega), am_ck_O ha]
  refine ⟨rfl, ?_⟩
  rw [List.getElem?_map, List.getElem?_range hb]
  have e : am_fv S a o b = .ref (o + c) := by
    unfold am_fv
    rw [hf]
    rfl
  show am_Ex C M scr Q X npc L (am_fv S a o b :: st) (am_H S) nc ns
  rw [e]
  exact k)
theorem r_getD {n o : Nat} {c : Nat} (hk : am_lk (am_mt M) pc = some (pp, .getfield n, npc, a, b, t, u, pos, cv, cl)) (hq : am_kn (gR S 0) o = (a, 0)) (ha : a < 12) (hb : b < (am_fkl a).length) (hf : am_fk a b = (3, c)) (k : am_Ex C M scr Q X npc L (.ref (gR S c) :: st) (am_H S) nc ns) : am_Ex C M scr Q X pc L (.ref o :: st) (am_H S) nc ns := am_Ex_in (by
  unfold am_step
  rw [hk]
  simp only [am_ins]
  rw [am_H_get hq (by intro z; simp only at z; omega), am_ck_O ha]
  refine ⟨rfl, ?_⟩
  rw [List.getElem?_map, List.getElem?_range hb]
  have e : am_fv S a o b = .ref (gR S c) := by
    unfold am_fv
    rw [hf]
    rfl
  show am_Ex C M scr Q X npc L (am_fv S a o b :: st) (am_H S) nc ns
  rw [e]
  exact k)
theorem r_getE {n o : Nat} {c r : Nat} (hk : am_lk (am_mt M) pc = some (pp, .getfield n, npc, a, b, t, u, pos, cv, cl)) (hq : am_kn (gR S 0) o = (a, 0)) (ha : a < 12) (hb : b < (am_fkl a).length) (hf : am_fk a b = (4, c)) (hr : gR S c = r + 1) (k : am_Ex C M scr Q X npc L (.ref (r + 1) :: st) (am_H S) nc ns) : am_Ex C M scr Q X pc L (.ref o :: st) (am_H S) nc ns := am_Ex_in (by
  unfold am_step
  rw [hk]
  simp only [am_ins]
  rw [am_H_get hq (by intro z; simp only at z; omega), am_ck_O ha]
  refine ⟨rfl, ?_⟩
  rw [List.getElem?_map, List.getElem?_range hb]
  have e : am_fv S a o b = .ref (r + 1) := by
    unfold am_fv
    rw [hf]
    simp only [hr]
  show am_Ex C M scr Q X npc L (am_fv S a o b :: st) (am_H S) nc ns
  rw [e]
  exact k)
theorem r_putI {n o : Nat} {x : Int32} (hk : am_lk (am_mt M) pc = some (pp, .putfield n, npc, a, b, 0, u, pos, cv, cl)) (hq : am_kn (gR S 0) o = (a, 0)) (ha : a < 12) (hb : b < (am_fkl a).length) (hf : am_fk a b = (0, 0)) (k : am_Ex C M scr Q X npc L st (am_H (uI S o b x)) nc ns) : am_Ex C M scr Q X pc L (.int x :: .ref o :: st) (am_H S) nc ns := am_Ex_in (by
  unfold am_step
  rw [hk]
  simp only [am_ins]
  rw [am_H_get hq (by intro z; simp only at z; omega), am_ck_O ha]
  refine ⟨rfl, by rw [List.length_map, List.length_range]; exact hb, ?_⟩
  show am_Ex C M scr Q X npc L st ((am_H S).set o _) nc ns
  rw [am_H_putI hq ha hf]
  exact k)
theorem r_putZ {n o : Nat} {x : Int32} (hk : am_lk (am_mt M) pc = some (pp, .putfield n, npc, a, b, 1, u, pos, cv, cl)) (hq : am_kn (gR S 0) o = (a, 0)) (ha : a < 12) (hb : b < (am_fkl a).length) (hf : am_fk a b = (0, 0)) (hx : x = 0 ∨ x = 1) (k : am_Ex C M scr Q X npc L st (am_H (uI S o b x)) nc ns) : am_Ex C M scr Q X pc L (.int x :: .ref o :: st) (am_H S) nc ns := am_Ex_in (by
  unfold am_step
  rw [hk]
  simp only [am_ins]
  rw [am_H_get hq (by intro z; simp only at z; omega), am_ck_O ha]
  refine ⟨rfl, by rw [List.length_map, List.length_range]; exact hb, ?_⟩
  refine ⟨hx, ?_⟩
  show am_Ex C M scr Q X npc L st ((am_H S).set o _) nc ns
  rw [am_H_putI hq ha hf]
  exact k)
theorem r_iald {o N : Nat} {i : Int32} (hk : am_lk (am_mt M) pc = some (pp, .iaload, npc, a, b, t, u, pos, cv, cl)) (hq : am_kn (gR S 0) o = (20, N)) (hN : N < 2147483648) (h1 : 0 ≤ i) (h2 : i < Int32.ofNat N) (k : am_Ex C M none Q X npc L (.int (gI S o i.toNatClampNeg) :: st) (am_H S) nc ns) : am_Ex C M none Q X pc L (.int i :: .ref o :: st) (am_H S) nc ns := am_Ex_in (by
  unfold am_step
  rw [hk]
  have hv := am_vp h1 h2 hN
  simp only [am_ins]
  rw [am_H_get hq (by intro z; cases z)]
  exact ⟨rfl, hv, k⟩)
theorem r_bald {o N : Nat} {i : Int32} (hk : am_lk (am_mt M) pc = some (pp, .baload, npc, a, b, t, u, pos, cv, cl)) (hq : am_kn (gR S 0) o = (22, N)) (hN : N < 2147483648) (h1 : 0 ≤ i) (h2 : i < Int32.ofNat N) (k : am_Ex C M scr Q X npc L (.int (gI S o i.toNatClampNeg) :: st) (am_H S) nc ns) : am_Ex C M scr Q X pc L (.int i :: .ref o :: st) (am_H S) nc ns := am_Ex_in (by
  unfold am_step
  rw [hk]
  have hv := am_vp h1 h2 hN
  simp only [am_ins]
  rw [am_H_get hq (by intro z; cases z)]
  exact ⟨rfl, hv, k⟩)
theorem r_lald {o N : Nat} {i : Int32} (hk : am_lk (am_mt M) pc = some (pp, .laload, npc, a, b, t, u, pos, cv, cl)) (hq : am_kn (gR S 0) o = (21, N)) (hN : N < 2147483648) (h1 : 0 ≤ i) (h2 : i < Int32.ofNat N) (k : am_Ex C M scr Q X npc L (.long (gJ S o i.toNatClampNeg) :: st) (am_H S) nc ns) : am_Ex C M scr Q X pc L (.int i :: .ref o :: st) (am_H S) nc ns := am_Ex_in (by
  unfold am_step
  rw [hk]
  have hv := am_vp h1 h2 hN
  simp only [am_ins]
  rw [am_H_get hq (by intro z; cases z)]
  exact ⟨hv, k⟩)
theorem r_iast {o N : Nat} {i : Int32} {x : Int32} (hk : am_lk (am_mt M) pc = some (pp, .iastore, npc, a, b, t, u, pos, cv, cl)) (hq : am_kn (gR S 0) o = (20, N)) (hN : N < 2147483648) (h1 : 0 ≤ i) (h2 : i < Int32.ofNat N) (k : am_Ex C M scr Q X npc L st (am_H (uI S o i.toNatClampNeg x)) nc ns) : am_Ex C M scr Q X pc L (.int x :: .int i :: .ref o :: st) (am_H S) nc ns := am_Ex_in (by
  unfold am_step
  rw [hk]
  have hv := am_vp h1 h2 hN
  simp only [am_ins]
  rw [am_H_get hq (by intro z; cases z)]
  refine ⟨rfl, hv, ?_⟩
  show am_Ex C M scr Q X npc L st ((am_H S).set o (.inl (0, N, upd (gI S o) i.toNatClampNeg x))) nc ns
  rw [am_H_putA (t := 0) hq (Or.inl rfl)]
  exact k)
theorem r_bast {o N : Nat} {i : Int32} {x : Int32} (hk : am_lk (am_mt M) pc = some (pp, .bastore, npc, a, b, t, u, pos, cv, cl)) (hq : am_kn (gR S 0) o = (22, N)) (hN : N < 2147483648) (hx : x = 0 ∨ x = 1) (h1 : 0 ≤ i) (h2 : i < Int32.ofNat N) (k : am_Ex C M scr Q X npc L st (am_H (uI S o i.toNatClampNeg x)) nc ns) : am_Ex C M scr Q X pc L (.int x :: .int i :: .ref o :: st) (am_H S) nc ns := am_Ex_in (by
  unfold am_step
  rw [hk]
  have hv := am_vp h1 h2 hN
  simp only [am_ins]
  rw [am_H_get hq (by intro z; cases z)]
  refine ⟨rfl, hx, hv, ?_⟩
  show am_Ex C M scr Q X npc L st ((am_H S).set o (.inl (2, N, upd (gI S o) i.toNatClampNeg x))) nc ns
  rw [am_H_putA (t := 2) hq (Or.inr rfl)]
  exact k)
theorem r_last {o N : Nat} {i : Int32} {x : Int64} (hk : am_lk (am_mt M) pc = some (pp, .lastore, npc, a, b, t, u, pos, cv, cl)) (hq : am_kn (gR S 0) o = (21, N)) (hN : N < 2147483648) (h1 : 0 ≤ i) (h2 : i < Int32.ofNat N) (k : am_Ex C M scr Q X npc L st (am_H (uJ S o i.toNatClampNeg x)) nc ns) : am_Ex C M scr Q X pc L (.long x :: .int i :: .ref o :: st) (am_H S) nc ns := am_Ex_in (by
  unfold am_step
  rw [hk]
  have hv := am_vp h1 h2 hN
  simp only [am_ins]
  rw [am_H_get hq (by intro z; cases z)]
  refine ⟨hv, ?_⟩
  show am_Ex C M scr Q X npc L st ((am_H S).set o (.inr (.inl (N, vp_updL (gJ S o) i.toNatClampNeg x)))) nc ns
  rw [am_H_putJ hq]
  exact k)
theorem r_alen {o N q : Nat} (hk : am_lk (am_mt M) pc = some (pp, .arraylength, npc, a, b, t, u, pos, cv, cl)) (hq : am_kn (gR S 0) o = (q, N)) (hq2 : q = 20 ∨ q = 21 ∨ q = 22) (k : am_Ex C M none Q X npc L (.int (Int32.ofNat N) :: st) (am_H S) nc ns) : am_Ex C M none Q X pc L (.ref o :: st) (am_H S) nc ns := am_Ex_in (by
  unfold am_step
  rw [hk]
  simp only [am_ins]
  rw [am_H_get hq (by rcases hq2 with rfl | rfl | rfl <;> intro z <;> cases z)]
  rcases hq2 with rfl | rfl | rfl
  · exact ⟨by decide, k⟩
  · exact k
  · exact ⟨by decide, k⟩)
theorem r_aaldP {o N : Nat} {i : Int32} (hk : am_lk (am_mt M) pc = some (pp, .aaload, npc, a, b, t, u, pos, cv, cl)) (hq : am_kn (gR S 0) o = (23, N)) (h1 : 0 ≤ i) (h2 : i < 6) (k : am_Ex C M scr Q X npc L (.ref (6 + 2 * i.toNatClampNeg) :: st) (am_H S) nc ns) : am_Ex C M scr Q X pc L (.int i :: .ref o :: st) (am_H S) nc ns := am_Ex_in (by
  unfold am_step
  rw [hk]
  have hv : vp_in i 6 := am_vp h1 h2 (by decide)
  simp only [am_ins]
  rw [am_H_get hq (by intro z; cases z)]
  refine ⟨by decide, by decide, hv, ?_⟩
  obtain ⟨j, hj, rfl⟩ := vp_in_of hv (by decide)
  rw [nI_clamp (by omega)] at k ⊢
  match j, hj with
  | 0, _ => exact k
  | 1, _ => exact k
  | 2, _ => exact k
  | 3, _ => exact k
  | 4, _ => exact k
  | 5, _ => exact k)
theorem r_aaldF {o N : Nat} {i : Int32} (hk : am_lk (am_mt M) pc = some (pp, .aaload, npc, a, b, t, u, pos, cv, cl)) (hq : am_kn (gR S 0) o = (24, N)) (h1 : 0 ≤ i) (h2 : i < 12) (k : am_Ex C M scr Q X npc L (.ref (18 + 3 * i.toNatClampNeg) :: st) (am_H S) nc ns) : am_Ex C M scr Q X pc L (.int i :: .ref o :: st) (am_H S) nc ns := am_Ex_in (by
  unfold am_step
  rw [hk]
  have hv : vp_in i 12 := am_vp h1 h2 (by decide)
  simp only [am_ins]
  rw [am_H_get hq (by intro z; cases z)]
  refine ⟨by decide, by decide, hv, ?_⟩
  obtain ⟨j, hj, rfl⟩ := vp_in_of hv (by decide)
  rw [nI_clamp (by omega)] at k ⊢
  match j, hj with
  | 0, _ => exact k
  | 1, _ => exact k
  | 2, _ => exact k
  | 3, _ => exact k
  | 4, _ => exact k
  | 5, _ => exact k
  | 6, _ => exact k
  | 7, _ => exact k
  | 8, _ => exact k
  | 9, _ => exact k
  | 10, _ => exact k
  | 11, _ => exact k)
theorem r_iret {x : Int32} (hk : am_lk (am_mt M) pc = some (pp, .ireturn, npc, a, b, t, u, pos, cv, cl)) (hr : am_mr M = some .int) (k : Q (some (.int x)) G) : am_Ex C M scr Q X pc L [.int x] G nc ns := am_Ex_in (by
  unfold am_step
  rw [hk]
  simp only [am_ins]
  rw [hr]
  exact k)
theorem r_zret {x : Int32} (hk : am_lk (am_mt M) pc = some (pp, .ireturn, npc, a, b, t, u, pos, cv, cl)) (hr : am_mr M = some .boolean) (hx : x = 0 ∨ x = 1) (k : Q (some (.int x)) G) : am_Ex C M scr Q X pc L [.int x] G nc ns := am_Ex_in (by
  unfold am_step
  rw [hk]
  simp only [am_ins]
  rw [hr]
  exact ⟨hx, k⟩)
theorem r_lret {x : Int64} (hk : am_lk (am_mt M) pc = some (pp, .lreturn, npc, a, b, t, u, pos, cv, cl)) (k : Q (some (.long x)) G) : am_Ex C M scr Q X pc L [.long x] G nc ns := am_Ex_in (by
  unfold am_step
  rw [hk]
  exact k)
theorem r_vret (hk : am_lk (am_mt M) pc = some (pp, .return_, npc, a, b, t, u, pos, cv, cl)) (k : Q none G) : am_Ex C M scr Q X pc L [] G nc ns := am_Ex_in (by
  unfold am_step
  rw [hk]
  exact k)
theorem r_max {n : Nat} {x y : Int32} (hk : am_lk (am_mt M) pc = some (pp, .invokestatic n, npc, a, b, 6, u, pos, cv, cl)) (hc : (st.map fun v => v.category).sum ≤ 8) (k : am_Ex C M scr Q X npc L (.int (if x < y then y else x) :: st) G nc ns) : am_Ex C M scr Q X pc L (.int y :: .int x :: st) G nc ns := am_Ex_in (by
  unfold am_step
  rw [hk]
  exact ⟨hc, k⟩)
theorem r_min {n : Nat} {x y : Int32} (hk : am_lk (am_mt M) pc = some (pp, .invokestatic n, npc, a, b, 7, u, pos, cv, cl)) (hc : (st.map fun v => v.category).sum ≤ 8) (k : am_Ex C M scr Q X npc L (.int (if y < x then y else x) :: st) G nc ns) : am_Ex C M scr Q X pc L (.int y :: .int x :: st) G nc ns := am_Ex_in (by
  unfold am_step
  rw [hk]
  exact ⟨hc, k⟩)
theorem r_abs {n : Nat} {x : Int32} (hk : am_lk (am_mt M) pc = some (pp, .invokestatic n, npc, a, b, 8, u, pos, cv, cl)) (hc : (st.map fun v => v.category).sum ≤ 8) (k : am_Ex C M scr Q X npc L (.int (if 0 ≤ x then x else 0 - x) :: st) G nc ns) : am_Ex C M scr Q X pc L (.int x :: st) G nc ns := am_Ex_in (by
  unfold am_step
  rw [hk]
  exact ⟨hc, k⟩)
theorem r_maxl {n : Nat} {x y : Int64} (hk : am_lk (am_mt M) pc = some (pp, .invokestatic n, npc, a, b, 9, u, pos, cv, cl)) (hc : (st.map fun v => v.category).sum ≤ 8) (k : am_Ex C M scr Q X npc L (.long (if y < x then x else y) :: st) G nc ns) : am_Ex C M scr Q X pc L (.long y :: .long x :: st) G nc ns := am_Ex_in (by
  unfold am_step
  rw [hk]
  exact ⟨hc, k⟩)
theorem r_absl {n : Nat} {x : Int64} (hk : am_lk (am_mt M) pc = some (pp, .invokestatic n, npc, a, b, 10, u, pos, cv, cl)) (hc : (st.map fun v => v.category).sum ≤ 8) (k : am_Ex C M scr Q X npc L (.long (if 0 < x then x else -x) :: st) G nc ns) : am_Ex C M scr Q X pc L (.long x :: st) G nc ns := am_Ex_in (by
  unfold am_step
  rw [hk]
  exact ⟨hc, k⟩)
theorem r_copyI {n o0 o1 n0 n1 : Nat} {sp dp w : Int32} (hk : am_lk (am_mt M) pc = some (pp, .invokestatic n, npc, a, b, 11, u, pos, cv, cl)) (hc : (st.map fun v => v.category).sum ≤ 8) (h0 : am_kn (gR S 0) o0 = (20, n0)) (h1 : am_kn (gR S 0) o1 = (20, n1)) (p1 : ¬ sp < 0) (p2 : ¬ dp < 0) (p3 : ¬ w < 0) (p4 : sp.toNatClampNeg + w.toNatClampNeg ≤ n0) (p5 : dp.toNatClampNeg + w.toNatClampNeg ≤ n1) (k : am_Ex C M scr Q X npc L st (am_H (rI S o1 (va_cpy (gI S o0) (gI S o1) sp.toNatClampNeg dp.toNatClampNeg w.toNatClampNeg))) nc ns) : am_Ex C M scr Q X pc L (.int w :: .int dp :: .ref o1 :: .int sp :: .ref o0 :: st) (am_H S) nc ns := am_Ex_in (by
  unfold am_step
  rw [hk]
  simp only [am_ins, am_cpy]
  rw [am_H_get h0 (by intro z; cases z), am_H_get h1 (by intro z; cases z)]
  refine ⟨p1, p2, p3, hc, rfl, rfl, p4, p5, ?_⟩
  show am_Ex C M scr Q X npc L st ((am_H S).set o1 _) nc ns
  rw [am_H_rowI h1]
  exact k)
theorem r_copyJ {n o0 o1 n0 n1 : Nat} {sp dp w : Int32} (hk : am_lk (am_mt M) pc = some (pp, .invokestatic n, npc, a, b, 11, u, pos, cv, cl)) (hc : (st.map fun v => v.category).sum ≤ 8) (h0 : am_kn (gR S 0) o0 = (21, n0)) (h1 : am_kn (gR S 0) o1 = (21, n1)) (p1 : ¬ sp < 0) (p2 : ¬ dp < 0) (p3 : ¬ w < 0) (p4 : sp.toNatClampNeg + w.toNatClampNeg ≤ n0) (p5 : dp.toNatClampNeg + w.toNatClampNeg ≤ n1) (k : am_Ex C M scr Q X npc L st (am_H (rJ S o1 (va_cpy (gJ S o0) (gJ S o1) sp.toNatClampNeg dp.toNatClampNeg w.toNatClampNeg))) nc ns) : am_Ex C M scr Q X pc L (.int w :: .int dp :: .ref o1 :: .int sp :: .ref o0 :: st) (am_H S) nc ns := am_Ex_in (by
  unfold am_step
  rw [hk]
  simp only [am_ins, am_cpy]
  rw [am_H_get h0 (by intro z; cases z), am_H_get h1 (by intro z; cases z)]
  refine ⟨p1, p2, p3, hc, p4, p5, ?_⟩
  show am_Ex C M scr Q X npc L st ((am_H S).set o1 _) nc ns
  rw [am_H_rowJ h1]
  exact k)
/-- a contract: at depth d the callee mi answers r and leaves S2 -/
def am_CT (d mi : Nat) (As : List Value) (S : am_S) (r : Option Value) (S2 : am_S) : Prop := am_Call am_MT d mi As (am_H S) (fun r1 G1 => r1 = r ∧ G1 = am_H S2)
theorem r_callV {n mi d n1 o : Nat} {As : List Value} {r : Option Value} {S2 : am_S} (hk : am_lk (am_mt M) pc = some (pp, .invokevirtual n, npc, mi, n1, 0, u, pos, cv, cl)) (hc : am_CT d mi As S r S2) (hst : (st.take n1).reverse = As) (ho : st[n1 - 1]? = some (.ref o)) (hq : am_kn (gR S 0) o = (u, 0)) (hu : u < 12) (hn : Nat.ble n1 st.length = true) (hcat : ((st.drop n1).map fun v => v.category).sum ≤ 8) (k : am_Ex (am_Call am_MT d) M scr Q X npc L (am_psh r (st.drop n1)) (am_H S2) nc ns) : am_Ex (am_Call am_MT d) M scr Q X pc L st (am_H S) nc ns := am_Ex_in (by
  unfold am_step
  rw [hk]
  simp only [am_ins, am_inv, am_rcv]
  rw [ho]
  simp only
  rw [am_H_get hq (by intro z; simp only at z; omega), am_ck_O hu, hst]
  exact ⟨rfl, Nat.le_of_ble_eq_true hn, hcat, _, hc, fun r1 G1 hr => by rw [hr.1, hr.2]; exact k⟩)
theorem r_callS {n mi d n1 : Nat} {As : List Value} {r : Option Value} {S2 : am_S} (hk : am_lk (am_mt M) pc = some (pp, .invokestatic n, npc, mi, n1, t, u, pos, cv, cl)) (ht : t = 1 ∨ t = 2) (hc : am_CT d mi As S r S2) (hst : (st.take n1).reverse = As) (hn : Nat.ble n1 st.length = true) (hcat : ((st.drop n1).map fun v => v.category).sum ≤ 8) (k : am_Ex (am_Call am_MT d) M scr Q X npc L (am_psh r (st.drop n1)) (am_H S2) nc ns) : am_Ex (am_Call am_MT d) M scr Q X pc L st (am_H S) nc ns := am_Ex_in (by
  unfold am_step
  rw [hk]
  rcases ht with rfl | rfl
  all_goals
    simp only [am_ins, am_inv]
    rw [hst]
    exact ⟨Nat.le_of_ble_eq_true hn, hcat, _, hc, fun r1 G1 hr => by rw [hr.1, hr.2]; exact k⟩)
end AMR
theorem am_CT_in {d mi : Nat} {As : List Value} {S S2 : am_S} {r : Option Value} (M : am_M) (hM : am_MT mi = some M) (hl : Nat.ble (am_ent As).length (am_mL M) = true) (hv : As.all (fun v => match v with
  | .double _ => false
  | _ => true) = true) (h : am_Ex (am_Call am_MT d) M none (fun r1 G1 => r1 = r ∧ G1 = am_H S2) (fun _ _ _ _ _ _ => False) 0 (am_entL (am_mL M) As) [] (am_H S) 0 0) : am_CT (d + 1) mi As S r S2 := by
  refine ⟨M, hM, Nat.le_of_ble_eq_true hl, fun v hv1 hc => ?_, h⟩
  have h2 := List.all_eq_true.mp hv v hv1
  cases v with
  | long x => exact ⟨x, rfl⟩
  | double x => cases h2
  | int _ => cases hc
  | ref _ => cases hc
  | null => cases hc
  | _ => cases hc
/-- the methods by their numbers -/
abbrev iX0_init : Nat := 0
abbrev iX0_restart : Nat := 1
abbrev iX0_copy : Nat := 2
abbrev iX0_placeAt : Nat := 3
abbrev iX0_noted : Nat := 4
abbrev iX0_spoke : Nat := 5
abbrev iX0_note : Nat := 6
abbrev iX0_move : Nat := 7
abbrev iX0_drawOfTen : Nat := 8
abbrev iX0_off : Nat := 9
abbrev iX0_costTo : Nat := 10
abbrev iX0_settledFrom : Nat := 11
abbrev iX0_widest : Nat := 12
abbrev iX0_turnsRound : Nat := 13
abbrev iX1_init : Nat := 14
abbrev iX1_add : Nat := 15
abbrev iX1_copy : Nat := 16
abbrev iX1_value : Nat := 17
abbrev iX1_thing : Nat := 18
abbrev iX1_reckon : Nat := 19
abbrev iX1_join : Nat := 20
abbrev iX2_init : Nat := 21
abbrev iX2_leastCost : Nat := 22
abbrev iX2_spread : Nat := 23
abbrev iX2_reckonCosts : Nat := 24
abbrev iX2_leastAt : Nat := 25
abbrev iX2_hopedFor : Nat := 26
abbrev iX2_inReach : Nat := 27
abbrev iX3_init : Nat := 28
abbrev iX3_tabulate : Nat := 29
abbrev iX3_worth : Nat := 30
abbrev iX3_sum : Nat := 31
abbrev iX3_brings : Nat := 32
abbrev iX3_bestThing : Nat := 33
abbrev iX3_playBest : Nat := 34
abbrev iX3_playByTurns : Nat := 35
abbrev iX3_changes : Nat := 36
abbrev iX3_mostSeeingBoth : Nat := 37
abbrev iX3_spell : Nat := 38
abbrev iX3_ruleNumber : Nat := 39
abbrev iX4_init : Nat := 40
abbrev iX4_hearsAfter : Nat := 41
abbrev iX5_init : Nat := 42
abbrev iX5_addFour : Nat := 43
abbrev iX5_read : Nat := 44
abbrev iX5_startAnew : Nat := 45
abbrev iX5_take : Nat := 46
abbrev iX5_takeDigit : Nat := 47
abbrev iX5_takeAhead : Nat := 48
abbrev iX5_takeBehind : Nat := 49
abbrev iX5_open : Nat := 50
abbrev iX5_close : Nat := 51
abbrev iX5_finishNumber : Nat := 52
abbrev iX5_putOff : Nat := 53
abbrev iX5_finishDownTo : Nat := 54
abbrev iX5_rankOf : Nat := 55
abbrev iX6_init : Nat := 56
abbrev iX6_swing : Nat := 57
abbrev iX6_widest : Nat := 58
abbrev iX6_turns : Nat := 59
abbrev iX6_calmFrom : Nat := 60
abbrev iX7_init : Nat := 61
abbrev iX7_clear : Nat := 62
abbrev iX7_add : Nat := 63
abbrev iX7_tellOne : Nat := 64
abbrev iX7_tellTwo : Nat := 65
abbrev iX7_tellThree : Nat := 66
abbrev iX7_tellFraction : Nat := 67
abbrev iX8_init : Nat := 68
abbrev iX8_minutes : Nat := 69
abbrev iX8_measure : Nat := 70
abbrev iX8_minutesBy : Nat := 71
abbrev iX8_findWay : Nat := 72
abbrev iX9_init : Nat := 73
abbrev iX9_has : Nat := 74
abbrev iX9_hasTwo : Nat := 75
abbrev iX9_isNear : Nat := 76
abbrev iX9_isSeen : Nat := 77
abbrev iX9_isDeed : Nat := 78
abbrev iX9_toldRules : Nat := 79
abbrev iX9_look : Nat := 80
abbrev iX9_hears : Nat := 81
abbrev iX9_deed : Nat := 82
abbrev iX9_speech : Nat := 83
abbrev iX9_pass : Nat := 84
abbrev iX9_wind : Nat := 85
abbrev iX10_init : Nat := 86
abbrev iX10_person : Nat := 87
abbrev iX10_set : Nat := 88
abbrev iX10_link : Nat := 89
abbrev iX10_beam : Nat := 90
abbrev iX10_sheet : Nat := 91
abbrev iX10_sign : Nat := 92
abbrev iX10_end : Nat := 93
abbrev iX10_rule : Nat := 94
abbrev iX10_does : Nat := 95
abbrev iX10_go : Nat := 96
abbrev iX10_begin : Nat := 97
abbrev iX10_place : Nat := 98
abbrev iX10_was : Nat := 99
abbrev iX10_cost : Nat := 100
abbrev iX10_crossed : Nat := 101
abbrev iX10_by : Nat := 102
abbrev iX10_would : Nat := 103
abbrev iX10_rules : Nat := 104
abbrev iX10_pair : Nat := 105
abbrev iX10_echo : Nat := 106
abbrev iX10_waits : Nat := 107
abbrev iX10_swings : Nat := 108
abbrev iX10_steer : Nat := 109
abbrev iX10_blind : Nat := 110
abbrev iX10_pull : Nat := 111
abbrev iX10_edge : Nat := 112
abbrev iX10_gentle : Nat := 113
abbrev iX10_weight : Nat := 114
abbrev iX10_pays : Nat := 115
abbrev iX10_two : Nat := 116
abbrev iX10_stand : Nat := 117
abbrev iX10_gap : Nat := 118
abbrev iX10_says : Nat := 119
abbrev iX10_soon : Nat := 120
abbrev iX10_know : Nat := 121
abbrev iX10_crier : Nat := 122
abbrev iX10_deaf : Nat := 123
abbrev iX10_warn : Nat := 124
abbrev iX10_fog : Nat := 125
abbrev iX10_chance : Nat := 126
abbrev iX10_sure : Nat := 127
abbrev iX10_seed : Nat := 128
abbrev iX10_keep : Nat := 129
abbrev iX10_again : Nat := 130
abbrev iX10_count : Nat := 131
abbrev iX10_row : Nat := 132
abbrev iX10_isWithin : Nat := 133
abbrev iX10_putTo : Nat := 134
abbrev iX10_withBit : Nat := 135
abbrev iX10_hasBit : Nat := 136
abbrev iX10_powerOfTen : Nat := 137
abbrev iX10_sheetEntry : Nat := 138
abbrev iX10_canSteer : Nat := 139
abbrev iX10_isRuleNumber : Nat := 140
abbrev iX10_tryOut : Nat := 141
abbrev iX10_doneByAll : Nat := 142
abbrev iX10_sameMinute : Nat := 143
abbrev iX10_saidTooSoon : Nat := 144
abbrev iX10_heardByAll : Nat := 145
abbrev iX10_answeredOfHundred : Nat := 146
abbrev iX11_thrown : Nat := 147
abbrev iX11_refuse : Nat := 148
abbrev iX11_in : Nat := 149
abbrev iX11_has : Nat := 150
abbrev iX11_flag : Nat := 151
abbrev iX11_put : Nat := 152
abbrev iX11_enters : Nat := 153
abbrev iX11_common : Nat := 154
abbrev iX11_entersFraction : Nat := 155
abbrev iX11_isPerson : Nat := 156
abbrev iX11_arePair : Nat := 157
abbrev iX11_mostOf : Nat := 158
abbrev iX11_person : Nat := 159
abbrev iX11_set : Nat := 160
abbrev iX11_with : Nat := 161
abbrev iX11_link : Nat := 162
abbrev iX11_beam : Nat := 163
abbrev iX11_sheet : Nat := 164
abbrev iX11_sign : Nat := 165
abbrev iX11_end : Nat := 166
abbrev iX11_isDigit : Nat := 167
abbrev iX11_among : Nat := 168
abbrev iX11_marks : Nat := 169
abbrev iX11_thing : Nat := 170
abbrev iX11_ahead : Nat := 171
abbrev iX11_ranked : Nat := 172
abbrev iX11_reads : Nat := 173
abbrev iX11_rule : Nat := 174
abbrev iX11_pays : Nat := 175
abbrev iX11_acted : Nat := 176
abbrev iX11_worked : Nat := 177
abbrev iX11_indexOf : Nat := 178
abbrev iX11_wasOf : Nat := 179
abbrev iX11_placeAt : Nat := 180
abbrev iX11_lateOf : Nat := 181
abbrev iX11_heardBy : Nat := 182
abbrev iX11_looks : Nat := 183
abbrev iX11_doesNow : Nat := 184
abbrev iX11_draws : Nat := 185
abbrev iX11_blows : Nat := 186
abbrev iX11_passes : Nat := 187
abbrev iX11_does : Nat := 188
abbrev iX11_go : Nat := 189
abbrev iX11_begins : Nat := 190
abbrev iX11_begin : Nat := 191
abbrev iX11_place : Nat := 192
abbrev iX11_was : Nat := 193
abbrev iX11_costNow : Nat := 194
abbrev iX11_cost : Nat := 195
abbrev iX11_crossed : Nat := 196
abbrev iX11_by : Nat := 197
abbrev iX11_putsBy : Nat := 198
abbrev iX11_takesBack : Nat := 199
abbrev iX11_costs : Nat := 200
abbrev iX11_would : Nat := 201
abbrev iX11_rules : Nat := 202
abbrev iX11_pair : Nat := 203
abbrev iX11_echo : Nat := 204
abbrev iX11_waits : Nat := 205
abbrev iX11_swings : Nat := 206
abbrev iX11_sumsWinds : Nat := 207
abbrev iX11_costOf : Nat := 208
abbrev iX11_then : Nat := 209
abbrev iX11_steers : Nat := 210
abbrev iX11_isSteering : Nat := 211
abbrev iX11_steer : Nat := 212
abbrev iX11_power : Nat := 213
abbrev iX11_blind : Nat := 214
abbrev iX11_pulls : Nat := 215
abbrev iX11_greatest : Nat := 216
abbrev iX11_calm : Nat := 217
abbrev iX11_pull : Nat := 218
abbrev iX11_edge : Nat := 219
abbrev iX11_gentle : Nat := 220
abbrev iX11_weight : Nat := 221
abbrev iX11_worth : Nat := 222
abbrev iX11_thingOf : Nat := 223
abbrev iX11_worthOf : Nat := 224
abbrev iX11_ruleAt : Nat := 225
abbrev iX11_bestOfTwo : Nat := 226
abbrev iX11_two : Nat := 227
abbrev iX11_partOf : Nat := 228
abbrev iX11_answers : Nat := 229
abbrev iX11_stands : Nat := 230
abbrev iX11_isStand : Nat := 231
abbrev iX11_stand : Nat := 232
abbrev iX11_gap : Nat := 233
abbrev iX11_stepTo : Nat := 234
abbrev iX11_fars : Nat := 235
abbrev iX11_minutesTo : Nat := 236
abbrev iX11_says : Nat := 237
abbrev iX11_soon : Nat := 238
abbrev iX11_know : Nat := 239
abbrev iX11_crier : Nat := 240
abbrev iX11_deaf : Nat := 241
abbrev iX11_warn : Nat := 242
abbrev iX11_fog : Nat := 243
abbrev iX11_fogOf : Nat := 244
abbrev iX11_casesBy : Nat := 245
abbrev iX11_chance : Nat := 246
abbrev iX11_sure : Nat := 247
abbrev iX11_seed : Nat := 248
abbrev iX11_keep : Nat := 249
abbrev iX11_again : Nat := 250
abbrev iX11_rulesTold : Nat := 251
abbrev iX11_count : Nat := 252
abbrev iX11_init : Nat := 253
abbrev iX11_row : Nat := 254
abbrev iJ6_signum_0f7a4 : Nat := 255
theorem gI_uI_ne {S : am_S} {o k : Nat} {v : Int32} {a : Nat} (h : a ≠ o) : gI (uI S o k v) a = gI S a := funext fun b => by rw [gI_uI, if_neg h]
theorem gI_rI_ne {S : am_S} {o : Nat} {g : Nat → Int32} {a : Nat} (h : a ≠ o) : gI (rI S o g) a = gI S a := funext fun b => by rw [gI_rI, if_neg h]
theorem gI_rI_eq {S : am_S} {o : Nat} {g : Nat → Int32} : gI (rI S o g) o = g := funext fun b => by rw [gI_rI, if_pos rfl]
theorem gI_uI_eq {S : am_S} {o k : Nat} {v : Int32} : gI (uI S o k v) o = upd (gI S o) k v := funext fun b => by rw [gI_uI, if_pos rfl]; rfl
theorem gI_uJ_f {S : am_S} {o k : Nat} {v : Int64} : gI (uJ S o k v) = gI S := rfl
theorem gI_rJ_f {S : am_S} {o : Nat} {g : Nat → Int64} : gI (rJ S o g) = gI S := rfl
theorem gJ_uI_f {S : am_S} {o k : Nat} {v : Int32} : gJ (uI S o k v) = gJ S := rfl
theorem gJ_rI_f {S : am_S} {o : Nat} {g : Nat → Int32} : gJ (rI S o g) = gJ S := rfl
theorem gJ_uJ_ne {S : am_S} {o k : Nat} {v : Int64} {a : Nat} (h : a ≠ o) : gJ (uJ S o k v) a = gJ S a := funext fun b => by rw [gJ_uJ, if_neg h]
theorem gJ_rJ_ne {S : am_S} {o : Nat} {g : Nat → Int64} {a : Nat} (h : a ≠ o) : gJ (rJ S o g) a = gJ S a := funext fun b => by rw [gJ_rJ, if_neg h]
theorem gJ_rJ_eq {S : am_S} {o : Nat} {g : Nat → Int64} : gJ (rJ S o g) o = g := funext fun b => by rw [gJ_rJ, if_pos rfl]
theorem cl_200 : (Int32.ofNat 200).toNatClampNeg = 200 := by decide
theorem cl_1200 : (Int32.ofNat 1200).toNatClampNeg = 1200 := by decide
theorem uI_rI (S : am_S) (o k : Nat) (v : Int32) : uI S o k v = rI S o (upd (gI S o) k v) := by
  unfold uI rI
  congr 1
  funext a b
  simp only [am_up2, am_upr, upd, gI]
  by_cases h : a = o
  · subst h
    simp
  · simp [h]
theorem rI_id (S : am_S) (o : Nat) : rI S o (gI S o) = S := by
  unfold rI
  conv => rhs; rw [← Prod.eta S]
  congr 1
  funext a b
  simp only [am_upr, gI]
  by_cases h : a = o
  · subst h; simp
  · simp [h]
theorem rI_rI (S : am_S) (o : Nat) (g h : Nat → Int32) : rI (rI S o g) o h = rI S o h := by
  unfold rI
  congr 1
  funext a b
  simp only [am_upr]
  by_cases h : a = o <;> simp [h]
theorem uI_rIs (S : am_S) (o k : Nat) (v : Int32) (g : Nat → Int32) : uI (rI S o g) o k v = rI S o (upd g k v) := by rw [uI_rI, rI_rI, gI_rI_eq]
theorem uI_rI_comm (S : am_S) (o k p : Nat) (v : Int32) (g : Nat → Int32) (h : o ≠ p) : uI (rI S p g) o k v = rI (uI S o k v) p g := by
  unfold uI rI
  congr 1
  funext a b
  simp only [am_up2, am_upr]
  by_cases h1 : a = o
  · subst h1; simp [h]
  · simp [h1]
theorem rI_rI_comm (S : am_S) (o p : Nat) (f g : Nat → Int32) (h : o ≠ p) : rI (rI S p g) o f = rI (rI S o f) p g := by
  unfold rI
  congr 1
  funext a b
  simp only [am_upr]
  by_cases h1 : a = o
  · subst h1; simp [h]
  · simp [h1]
theorem uI_uI (S : am_S) (o k : Nat) (v w : Int32) : uI (uI S o k v) o k w = uI S o k w := by
  unfold uI
  congr 1
  funext a b
  simp only [am_up2]
  by_cases h1 : a = o
  · by_cases h2 : b = k <;> simp [h1, h2]
  · simp [h1]
theorem uI_same (S : am_S) (o k : Nat) : uI S o k (gI S o k) = S := by
  unfold uI
  conv => rhs; rw [← Prod.eta S]
  congr 1
  funext a b
  simp only [am_up2, gI]
  by_cases h1 : a = o
  · by_cases h2 : b = k <;> simp [h1, h2]
  · simp [h1]
theorem uI_uI_comm (S : am_S) (o k p j : Nat) (v w : Int32) (h : o ≠ p ∨ k ≠ j) : uI (uI S p j w) o k v = uI (uI S o k v) p j w := by
  unfold uI
  congr 1
  funext a b
  simp only [am_up2]
  by_cases h1 : a = o <;> by_cases h2 : b = k <;> by_cases h3 : a = p <;> by_cases h4 : b = j <;> simp_all
def b01 (P : Prop) [Decidable P] : Int32 := if P then 1 else 0
theorem b01_t {P : Prop} [Decidable P] (h : P) : b01 P = 1 := if_pos h
theorem b01_f {P : Prop} [Decidable P] (h : ¬ P) : b01 P = 0 := if_neg h
theorem b01_eq0 {P : Prop} [Decidable P] : b01 P = 0 ↔ ¬ P := by unfold b01; split <;> simp_all
theorem b01_or {P : Prop} [Decidable P] : b01 P = 0 ∨ b01 P = 1 := by unfold b01; split <;> simp
end
section
/-! CONTRACTS: small methods of the class -/
theorem ct_X10_isWithin {d : Nat} {S : am_S} {v l m : Int32} : am_CT (d + 1) iX10_isWithin [.int v, .int l, .int m] S (some (.int (b01 (l ≤ v ∧ v ≤ m)))) S := by
  refine am_CT_in mmX10_isWithin rfl rfl rfl ?_
  refine r_iload_n rfl rfl ?_
  refine r_iload_n rfl rfl ?_
  refine r_icmp_lt rfl (fun h2 => ?_) (fun h2 => ?_)
  · refine r_iconst rfl ?_
    refine r_zret rfl rfl (by simp) ?_
    exact ⟨by grind [b01], rfl⟩
  · refine r_iload_n rfl rfl ?_
    refine r_iload_n rfl rfl ?_
    refine r_icmp_gt rfl (fun h7 => ?_) (fun h7 => ?_)
    · refine r_iconst rfl ?_
      refine r_zret rfl rfl (by simp) ?_
      exact ⟨by grind [b01], rfl⟩
    · refine r_iconst rfl ?_
      refine r_goto rfl ?_
      refine r_zret rfl rfl (by simp) ?_
      exact ⟨by grind [b01], rfl⟩
def fPut (v m : Int32) : Int32 := if v < -m then -m else if m < v then m else v
theorem ct_X10_putTo {d : Nat} {S : am_S} {v m : Int32} : am_CT (d + 1) iX10_putTo [.int v, .int m] S (some (.int (fPut v m))) S := by
  refine am_CT_in mmX10_putTo rfl rfl rfl ?_
  refine r_iload_n rfl rfl ?_
  refine r_iload_n rfl rfl ?_
  refine r_ineg rfl ?_
  refine r_icmp_ge rfl (fun h3 => ?_) (fun h3 => ?_)
  · refine r_iload_n rfl rfl ?_
    refine r_iload_n rfl rfl ?_
    refine r_icmp_le rfl (fun h13 => ?_) (fun h13 => ?_)
    · refine r_iload_n rfl rfl ?_
      refine r_iret rfl rfl ?_
      exact ⟨by grind [fPut], rfl⟩
    · refine r_iload_n rfl rfl ?_
      refine r_goto rfl ?_
      refine r_iret rfl rfl ?_
      exact ⟨by grind [fPut], rfl⟩
  · refine r_iload_n rfl rfl ?_
    refine r_ineg rfl ?_
    refine r_goto rfl ?_
    refine r_iret rfl rfl ?_
    exact ⟨by grind [fPut], rfl⟩
def fWith (w i f : Int32) : Int32 := if f = 0 then w &&& ((1 <<< (i &&& 31)) ^^^ (-1)) else w ||| (1 <<< (i &&& 31))
theorem ct_X10_withBit {d : Nat} {S : am_S} {w i f : Int32} : am_CT (d + 1) iX10_withBit [.int w, .int i, .int f] S (some (.int (fWith w i f))) S := by
  refine am_CT_in mmX10_withBit rfl rfl rfl ?_
  refine r_iload_n rfl rfl ?_
  refine r_if_eq rfl (fun h1 => ?_) (fun h1 => ?_)
  · refine r_iload_n rfl rfl ?_
    refine r_iconst rfl ?_
    refine r_iload_n rfl rfl ?_
    refine r_ishl rfl ?_
    refine r_iconst rfl ?_
    refine r_ixor rfl ?_
    refine r_iand rfl ?_
    refine r_iret rfl rfl ?_
    exact ⟨by simp [fWith, *], rfl⟩
  · refine r_iload_n rfl rfl ?_
    refine r_iconst rfl ?_
    refine r_iload_n rfl rfl ?_
    refine r_ishl rfl ?_
    refine r_ior rfl ?_
    refine r_goto rfl ?_
    refine r_iret rfl rfl ?_
    exact ⟨by simp [fWith, *], rfl⟩
abbrev fBit (w i : Int32) : Prop := ¬ (w >>> (i &&& 31)) &&& 1 = 0
theorem ct_X10_hasBit {d : Nat} {S : am_S} {w i : Int32} : am_CT (d + 1) iX10_hasBit [.int w, .int i] S (some (.int (b01 (fBit w i)))) S := by
  refine am_CT_in mmX10_hasBit rfl rfl rfl ?_
  refine r_iload_n rfl rfl ?_
  refine r_iload_n rfl rfl ?_
  refine r_ishr rfl ?_
  refine r_iconst rfl ?_
  refine r_iand rfl ?_
  refine r_if_eq rfl (fun h5 => ?_) (fun h5 => ?_)
  · refine r_iconst rfl ?_
    refine r_zret rfl rfl (by simp) ?_
    exact ⟨by simp only [b01, fBit]; grind, rfl⟩
  · refine r_iconst rfl ?_
    refine r_goto rfl ?_
    refine r_zret rfl rfl (by simp) ?_
    exact ⟨by simp only [b01, fBit]; grind, rfl⟩
/-! a course: cell o -/
def IsC (S : am_S) (o : Nat) : Prop := am_kn (gR S 0) o = (0, 0) ∧ am_kn (gR S 0) (o + 1) = (20, 200) ∧ am_kn (gR S 0) (o + 2) = (20, 1200) ∧ am_kn (gR S 0) (o + 3) = (20, 1200) ∧ am_kn (gR S 0) (o + 4) = (20, 1200) ∧ am_kn (gR S 0) (o + 5) = (20, 1200)
theorem ct_X0_restart {d : Nat} {S : am_S} {o : Nat} (hC : IsC S o) : am_CT (d + 1) iX0_restart [.ref o] S none (uI (uI S o 0 0) (o + 1) 0 (gI S o 1)) := by
  obtain ⟨hk, hk1, hk2, hk3, hk4, hk5⟩ := hC
  refine am_CT_in mmX0_restart rfl rfl rfl ?_
  refine r_aload_n rfl rfl ?_
  refine r_iconst rfl ?_
  refine r_putI rfl hk (by decide) (by decide) rfl ?_
  refine r_aload_n rfl rfl ?_
  refine r_getO rfl hk (by decide) (by decide) rfl ?_
  refine r_iconst rfl ?_
  refine r_aload_n rfl rfl ?_
  refine r_getI rfl hk (by decide) (by decide) rfl ?_
  refine r_iast rfl hk1 (by first | decide | assumption) (by decide) (by decide) ?_
  refine r_vret rfl ?_
  exact ⟨rfl, by simp [gI_uI, sb_cl0]⟩
def fPlace (S : am_S) (o : Nat) (m : Int32) : Int32 := if m < 0 ∨ 199 < m then gI S o 1 else gI S (o + 1) m.toNatClampNeg
theorem ct_X0_placeAt {d : Nat} {S : am_S} {o : Nat} {m : Int32} (hC : IsC S o) : am_CT (d + 1) iX0_placeAt [.ref o, .int m] S (some (.int (fPlace S o m))) S := by
  obtain ⟨hk, hk1, hk2, hk3, hk4, hk5⟩ := hC
  refine am_CT_in mmX0_placeAt rfl rfl rfl ?_
  refine r_iload_n rfl rfl ?_
  refine r_if_lt rfl (fun h1 => ?_) (fun h1 => ?_)
  · refine r_aload_n rfl rfl ?_
    refine r_getI rfl hk (by decide) (by decide) rfl ?_
    refine r_goto rfl ?_
    refine r_iret rfl rfl ?_
    exact ⟨by grind [fPlace], rfl⟩
  · refine r_iload_n rfl rfl ?_
    refine r_sipush rfl ?_
    refine r_icmp_le rfl (fun h8 => ?_) (fun h8 => ?_)
    · refine r_aload_n rfl rfl ?_
      refine r_getO rfl hk (by decide) (by decide) rfl ?_
      refine r_iload_n rfl rfl ?_
      refine r_iald rfl hk1 (by first | decide | assumption) (by grind) (by grind) ?_
      refine r_iret rfl rfl ?_
      exact ⟨by grind [fPlace], rfl⟩
    · refine r_aload_n rfl rfl ?_
      refine r_getI rfl hk (by decide) (by decide) rfl ?_
      refine r_goto rfl ?_
      refine r_iret rfl rfl ?_
      exact ⟨by grind [fPlace], rfl⟩
def fNoted (S : am_S) (q : Nat) (p m : Int32) : Int32 := if m < 0 ∨ 199 < m ∨ p * 200 + m < 0 ∨ 1200 ≤ p * 200 + m then 0 else gI S q (p * 200 + m).toNatClampNeg
theorem ct_X0_noted {d : Nat} {S : am_S} {o q : Nat} {p m : Int32} (hk : am_kn (gR S 0) q = (20, 1200)) : am_CT (d + 1) iX0_noted [.ref o, .ref q, .int p, .int m] S (some (.int (fNoted S q p m))) S := by
  refine am_CT_in mmX0_noted rfl rfl rfl ?_
  refine r_iload_n rfl rfl ?_
  refine r_sipush rfl ?_
  refine r_imul rfl ?_
  refine r_iload_n rfl rfl ?_
  refine r_iadd rfl ?_
  refine r_istore rfl ?_
  refine r_iload_n rfl rfl ?_
  refine r_if_lt rfl (fun h10 => ?_) (fun h10 => ?_)
  · refine r_iconst rfl ?_
    refine r_goto rfl ?_
    refine r_iret rfl rfl ?_
    exact ⟨by grind [fNoted], rfl⟩
  · refine r_iload_n rfl rfl ?_
    refine r_sipush rfl ?_
    refine r_icmp_gt rfl (fun h17 => ?_) (fun h17 => ?_)
    · refine r_iconst rfl ?_
      refine r_goto rfl ?_
      refine r_iret rfl rfl ?_
      exact ⟨by grind [fNoted], rfl⟩
    · refine r_iload rfl rfl ?_
      refine r_if_lt rfl (fun h22 => ?_) (fun h22 => ?_)
      · refine r_iconst rfl ?_
        refine r_goto rfl ?_
        refine r_iret rfl rfl ?_
        exact ⟨by grind [fNoted], rfl⟩
      · refine r_iload rfl rfl ?_
        refine r_aload_n rfl rfl ?_
        refine r_alen rfl hk (by decide) ?_
        refine r_icmp_lt rfl (fun h29 => ?_) (fun h29 => ?_)
        · refine r_aload_n rfl rfl ?_
          refine r_iload rfl rfl ?_
          refine r_iald rfl hk (by first | decide | assumption) (by grind) (by grind) ?_
          refine r_iret rfl rfl ?_
          exact ⟨by grind [fNoted], rfl⟩
        · refine r_iconst rfl ?_
          refine r_goto rfl ?_
          refine r_iret rfl rfl ?_
          exact ⟨by grind [fNoted], rfl⟩
def absI (x : Int32) : Int32 := if 0 ≤ x then x else 0 - x
def maxI (x y : Int32) : Int32 := if x < y then y else x
def sumI (f : Nat → Int32) : Nat → Int32
  | 0 => 0
  | n + 1 => sumI f n + f n
/-- the greatest of f a .. f (a + n - 1) and of 0 -/
def topI (f : Nat → Int32) (a : Nat) : Nat → Int32
  | 0 => 0
  | n + 1 => maxI (topI f a n) (f (a + n))
theorem nI_neg {n : Nat} (h : n < 2147483648) : ¬ nI n < 0 := nI_pos h
theorem nI_gtc {n c : Nat} (h : n ≤ c) (hc : c < 2147483648) : ¬ nI c < nI n := nI_nlt h hc
theorem fPlace_nI {S : am_S} {o j : Nat} (h : j ≤ 199) : fPlace S o (nI j) = gI S (o + 1) j := by
  have h1 : ¬ (nI j < 0 ∨ 199 < nI j) := by
    rintro (z | z)
    · exact nI_pos (by omega) z
    · exact nI_nlt (a := 199) (b := j) h (by omega) z
  rw [fPlace, if_neg h1, nI_clamp (by omega)]
theorem ct_X0_off {d : Nat} {S : am_S} {o : Nat} {m due : Int32} (hC : IsC S o) : am_CT (d + 2) iX0_off [.ref o, .int m, .int due] S (some (.int (absI (fPlace S o m - due)))) S := by
  have hC2 := hC
  obtain ⟨hk, hk1, hk2, hk3, hk4, hk5⟩ := hC2
  refine am_CT_in mmX0_off rfl rfl rfl ?_
  refine r_aload_n rfl rfl ?_
  refine r_iload_n rfl rfl ?_
  refine r_callV rfl (ct_X0_placeAt hC) rfl rfl hk (by decide) rfl (am_cnt rfl) ?_
  refine r_iload_n rfl rfl ?_
  refine r_isub rfl ?_
  refine r_abs rfl (am_cnt rfl) ?_
  refine r_iret rfl rfl ?_
  exact ⟨rfl, rfl⟩
theorem ct_X0_costTo {d : Nat} {S : am_S} {o nw : Nat} {due : Int32} (hC : IsC S o) (hn : gI S o 0 = nI nw) (hb : nw ≤ 199) : am_CT (d + 3) iX0_costTo [.ref o, .int due] S (some (.int (sumI (fun j => absI (gI S (o + 1) (j + 1) - due)) nw))) S := by
  have hk := hC.1
  refine am_CT_in mmX0_costTo rfl rfl rfl ?_
  have loop : ∀ (k j : Nat), j ≤ nw → nw < j + k → am_Ex (am_Call am_MT (d + 2)) mmX0_costTo none (fun r1 G1 => r1 = some (.int (sumI (fun j => absI (gI S (o + 1) (j + 1) - due)) nw)) ∧ G1 = am_H S) (fun _ _ _ _ _ _ => False) 4 [some (.ref o), some (.int due), some (.int (sumI (fun j => absI (gI S (o + 1) (j + 1) - due)) j)), some (.int (nI (j + 1)))] [] (am_H S) 0 0 := by
    intro k
    induction k with
    | zero => intro j h1 h2; omega
    | succ k ih =>
      intro j h1 h2
      refine r_iload_n rfl rfl ?_
      refine r_aload_n rfl rfl ?_
      refine r_getI rfl hk (by decide) (by decide) rfl ?_
      refine r_icmp_gt rfl (fun h9 => ?_) (fun h9 => ?_)
      · rw [hn, nI_ltI (by omega) (by omega)] at h9
        obtain rfl : j = nw := by omega
        refine r_iload_n rfl rfl ?_
        refine r_iret rfl rfl ?_
        exact ⟨rfl, rfl⟩
      · rw [hn, nI_ltI (by omega) (by omega)] at h9
        have hj : j < nw := by omega
        refine r_iload_n rfl rfl ?_
        refine r_aload_n rfl rfl ?_
        refine r_iload_n rfl rfl ?_
        refine r_iload_n rfl rfl ?_
        refine r_callV rfl (ct_X0_off hC) rfl rfl hk (by decide) rfl (am_cnt rfl) ?_
        refine r_iadd rfl ?_
        refine r_istore_n rfl ?_
        refine r_iinc rfl rfl ?_
        refine r_goto rfl ?_
        rw [fPlace_nI (by omega), nI_1]
        exact ih (j + 1) (by omega) (by omega)
  refine r_iconst rfl ?_
  refine r_istore_n rfl ?_
  refine r_iconst rfl ?_
  refine r_istore_n rfl ?_
  exact loop (nw + 1) 0 (by omega) (by omega)
end
section
/-! A course: the rest of its methods. -/
def trun (p : Nat → Prop) [DecidablePred p] : Nat → Nat
  | 0 => 0
  | n + 1 => if p n then trun p n + 1 else 0
theorem trun_le (p : Nat → Prop) [DecidablePred p] : ∀ n, trun p n ≤ n
  | 0 => Nat.le_refl _
  | n + 1 => by
    have := trun_le p n
    unfold trun
    split <;> omega
theorem trun_all (p : Nat → Prop) [DecidablePred p] : ∀ (j n : Nat), j ≤ n → (∀ i, n - j ≤ i → i < n → p i) → (j = n ∨ ¬ p (n - j - 1)) → trun p n = j
  | j, 0, h, _, _ => by
    have : j = 0 := by omega
    subst this
    rfl
  | 0, n + 1, _, _, h3 => by
    rcases h3 with h3 | h3
    · omega
    · unfold trun
      rw [if_neg (by simpa using h3)]
  | j + 1, n + 1, h1, h2, h3 => by
    unfold trun
    rw [if_pos (h2 n (by omega) (by omega)), trun_all p j n (by omega) (fun i a b => h2 i (by omega) (by omega)) (by
      rcases h3 with h3 | h3
      · exact Or.inl (by omega)
      · exact Or.inr (by rwa [show n - j - 1 = n + 1 - (j + 1) - 1 by omega]))]
/-- the first of those of 0 .. n from which on p always holds; none: -1 -/
def setI (p : Nat → Prop) [DecidablePred p] (n : Nat) : Int32 := if trun p (n + 1) = 0 then -1 else nI (n + 1 - trun p (n + 1))
theorem nI_m1 {n : Nat} (h : 0 < n) : nI n + (-1) = nI (n - 1) := sb_m1 h
theorem ct_X0_settledFrom {d : Nat} {S : am_S} {o nw : Nat} {due : Int32} (hC : IsC S o) (hn : gI S o 0 = nI nw) (hb : nw ≤ 199) : am_CT (d + 2) iX0_settledFrom [.ref o, .int due] S (some (.int (setI (fun m => gI S (o + 1) m = due) nw))) (S) := by
  refine am_CT_in mmX0_settledFrom rfl rfl rfl ?_
  have hk := hC.1
  have loop : ∀ (k : Nat) (j : Nat), (j ≤ nw + 1) → (nw + 1 < j + k) → (∀ i, nw + 1 - j ≤ i → i < nw + 1 → gI S (o + 1) i = due) → am_Ex (am_Call am_MT (d + 1)) mmX0_settledFrom none (fun r1 G1 => r1 = (some (.int (setI (fun m => gI S (o + 1) m = due) nw))) ∧ G1 = am_H (S)) (fun _ _ _ _ _ _ => False) 7 [some (.ref o), some (.int due), some (.int (if j = 0 then -1 else nI (nw + 1 - j))), some (.int (nI (nw + 1 - j) + (-1)))] [] (am_H (S)) 0 0 := by
    intro k
    induction k with
    | zero =>
      intro j h1 h2 h3
      omega
    | succ k ih =>
      intro j h1 h2 h3
      have hz : ∀ jj, jj = j → (jj = nw + 1 ∨ ¬ gI S (o + 1) (nw + 1 - jj - 1) = due) → (if j = 0 then (-1 : Int32) else nI (nw + 1 - j)) = setI (fun m => gI S (o + 1) m = due) nw := by
        intro jj hj hz
        subst hj
        rw [setI, trun_all (fun m => gI S (o + 1) m = due) jj (nw + 1) h1 h3 hz]
      by_cases hjn : j = nw + 1
      · subst hjn
        refine r_iload_n rfl rfl ?_
        refine r_if_lt rfl (fun h8 => ?_) (fun h8 => ?_)
        · rw [hz (nw + 1) rfl (Or.inl rfl)]
          refine r_iload_n rfl rfl ?_
          refine r_iret rfl rfl ?_
          exact ⟨rfl, rfl⟩
        · rw [Nat.sub_self] at h8
          exact absurd (by decide) h8
      · rw [nI_m1 (by omega)]
        have e1 : nw + 1 - j - 1 = nw - j := by omega
        rw [e1]
        refine r_iload_n rfl rfl ?_
        refine r_if_lt rfl (fun h8 => ?_) (fun h8 => ?_)
        · exact absurd h8 (nI_neg (by omega))
        · refine r_aload_n rfl rfl ?_
          refine r_iload_n rfl rfl ?_
          refine r_callV rfl (ct_X0_placeAt hC) rfl rfl hk (by decide) rfl (am_cnt rfl) ?_
          refine r_iload_n rfl rfl ?_
          refine r_icmp_ne rfl (fun h17 => ?_) (fun h17 => ?_)
          · rw [fPlace_nI (by omega)] at h17
            rw [hz j rfl (Or.inr (by rw [e1]; exact h17))]
            refine r_iload_n rfl rfl ?_
            refine r_iret rfl rfl ?_
            exact ⟨rfl, rfl⟩
          · rw [fPlace_nI (by omega)] at h17
            refine r_iload_n rfl rfl ?_
            refine r_istore_n rfl ?_
            refine r_iinc rfl rfl ?_
            refine r_goto rfl ?_
            have e2 := ih (j + 1) (by omega) (by omega) (fun i a b => by
              by_cases hi : i = nw - j
              · rw [hi]; exact h17
              · exact h3 i (by omega) b)
            rw [if_neg (by omega), show nw + 1 - (j + 1) = nw - j by omega] at e2
            exact e2
  refine r_iconst rfl ?_
  refine r_istore_n rfl ?_
  refine r_aload_n rfl rfl ?_
  refine r_getI rfl hk (by decide) (by decide) rfl ?_
  refine r_istore_n rfl ?_
  rw [hn]
  have e2 := loop (nw + 2) 0 (by omega) (by omega) (fun i a b => by omega)
  rw [if_pos rfl, nI_m1 (by omega)] at e2
  exact e2
theorem nI_between {x : Int32} {n : Nat} (h1 : 0 ≤ x) (h2 : x.toNatClampNeg = n) : x = nI n := by
  obtain ⟨j, hj, rfl⟩ := nI_of (Int32.not_lt.mpr h1)
  rw [nI_clamp hj] at h2
  rw [h2]
theorem ct_X0_widest {d : Nat} {S : am_S} {o f t : Nat} {due : Int32} (hC : IsC S o) (hf : f ≤ 200) (ht : t ≤ 199) : am_CT (d + 3) iX0_widest [.ref o, .int (nI f), .int (nI t), .int due] S (some (.int (topI (fun j => absI (gI S (o + 1) j - due)) f (t + 1 - f)))) (S) := by
  refine am_CT_in mmX0_widest rfl rfl rfl ?_
  have hk := hC.1
  have loop : ∀ (k : Nat) (j : Nat), (f + j ≤ t + 1 ∨ j = 0) → (t + 1 < j + k) → am_Ex (am_Call am_MT (d + 2)) mmX0_widest none (fun r1 G1 => r1 = (some (.int (topI (fun j => absI (gI S (o + 1) j - due)) f (t + 1 - f)))) ∧ G1 = am_H (S)) (fun _ _ _ _ _ _ => False) 6 [some (.ref o), some (.int (nI f)), some (.int (nI t)), some (.int due), some (.int (topI (fun j => absI (gI S (o + 1) j - due)) f j)), some (.int (nI (f + j)))] [] (am_H (S)) 0 0 := by
    intro k
    induction k with
    | zero =>
      intro j h1 h2
      omega
    | succ k ih =>
      intro j h1 h2
      refine r_iload rfl rfl ?_
      refine r_iload_n rfl rfl ?_
      refine r_icmp_gt rfl (fun h9 => ?_) (fun h9 => ?_)
      · rw [nI_ltI (by omega) (by omega)] at h9
        obtain rfl : j = t + 1 - f := by omega
        refine r_iload rfl rfl ?_
        refine r_iret rfl rfl ?_
        exact ⟨rfl, rfl⟩
      · rw [nI_ltI (by omega) (by omega)] at h9
        refine r_iload rfl rfl ?_
        refine r_aload_n rfl rfl ?_
        refine r_iload rfl rfl ?_
        refine r_iload_n rfl rfl ?_
        refine r_callV rfl (ct_X0_off hC) rfl rfl hk (by decide) rfl (am_cnt rfl) ?_
        refine r_max rfl (am_cnt rfl) ?_
        refine r_istore rfl ?_
        refine r_iinc rfl rfl ?_
        refine r_goto rfl ?_
        rw [fPlace_nI (by omega), nI_1]
        exact ih (j + 1) (by omega) (by omega)
  refine r_iconst rfl ?_
  refine r_istore rfl ?_
  refine r_iload_n rfl rfl ?_
  refine r_istore rfl ?_
  exact loop (t + 2) 0 (Or.inr rfl) (by omega)
/-- sign changes of f 0 .. f (n - 1), noughts left out: how many, and the last side -/
def sgn (x : Int32) : Int32 := (x >>> ((31 : Int32) &&& 31)) ||| (((-x).toUInt32 >>> ((31 : Int32).toUInt32 &&& Int32.toUInt32 31)).toInt32)
theorem ct_J6_signum_0f7a4 {d : Nat} {S : am_S} {x : Int32} : am_CT (d + 1) iJ6_signum_0f7a4 [.int x] S (some (.int (sgn x))) (S) := by
  refine am_CT_in mmJ6_signum_0f7a4 rfl rfl rfl ?_
  refine r_iload_n rfl rfl ?_
  refine r_bipush rfl ?_
  refine r_ishr rfl ?_
  refine r_iload_n rfl rfl ?_
  refine r_ineg rfl ?_
  refine r_bipush rfl ?_
  refine r_iushr rfl ?_
  refine r_ior rfl ?_
  refine r_iret rfl rfl ?_
  exact ⟨rfl, rfl⟩
def turnI (f : Nat → Int32) : Nat → Int32 × Int32
  | 0 => (0, 0)
  | n + 1 => ((turnI f n).1 + (if sgn (f n) * (turnI f n).2 < 0 then 1 else 0), if sgn (f n) = 0 then (turnI f n).2 else sgn (f n))
theorem ct_X0_turnsRound {d : Nat} {S : am_S} {o nw : Nat} {due : Int32} (hC : IsC S o) (hn : gI S o 0 = nI nw) (hb : nw ≤ 199) : am_CT (d + 2) iX0_turnsRound [.ref o, .int due] S (some (.int (turnI (fun m => gI S (o + 1) m - due) (nw + 1)).1)) (S) := by
  refine am_CT_in mmX0_turnsRound rfl rfl rfl ?_
  have hk := hC.1
  have loop : ∀ (k : Nat) (j : Nat) (n : Int32) (sd : Int32) (v5 : Option Value), (j ≤ nw + 1) → (nw + 1 < j + k) → ((n, sd) = turnI (fun m => gI S (o + 1) m - due) j) → am_Ex (am_Call am_MT (d + 1)) mmX0_turnsRound none (fun r1 G1 => r1 = (some (.int (turnI (fun m => gI S (o + 1) m - due) (nw + 1)).1)) ∧ G1 = am_H (S)) (fun _ _ _ _ _ _ => False) 7 [some (.ref o), some (.int due), some (.int n), some (.int sd), some (.int (nI j)), v5] [] (am_H (S)) 0 0 := by
    intro k
    induction k with
    | zero =>
      intro j n sd v5 h1 h2 h3
      omega
    | succ k ih =>
      intro j n sd v5 h1 h2 h3
      refine r_iload rfl rfl ?_
      refine r_aload_n rfl rfl ?_
      refine r_getI rfl hk (by decide) (by decide) rfl ?_
      refine r_icmp_gt rfl (fun h13 => ?_) (fun h13 => ?_)
      · rw [hn, nI_ltI (by omega) (by omega)] at h13
        obtain rfl : j = nw + 1 := by omega
        rw [show n = _ from congrArg Prod.fst h3]
        refine r_iload_n rfl rfl ?_
        refine r_iret rfl rfl ?_
        exact ⟨rfl, rfl⟩
      · rw [hn, nI_ltI (by omega) (by omega)] at h13
        refine r_aload_n rfl rfl ?_
        refine r_iload rfl rfl ?_
        refine r_callV rfl (ct_X0_placeAt hC) rfl rfl hk (by decide) rfl (am_cnt rfl) ?_
        refine r_iload_n rfl rfl ?_
        refine r_isub rfl ?_
        refine r_callS rfl (by decide) ct_J6_signum_0f7a4 rfl rfl (am_cnt rfl) ?_
        refine r_istore rfl ?_
        refine r_iload_n rfl rfl ?_
        refine r_iload rfl rfl ?_
        refine r_iload_n rfl rfl ?_
        refine r_imul rfl ?_
        refine r_if_ge rfl (fun h34 => ?_) (fun h34 => ?_)
        · refine r_iconst rfl ?_
          refine r_iadd rfl ?_
          refine r_istore_n rfl ?_
          refine r_iload rfl rfl ?_
          refine r_if_ne rfl (fun h46 => ?_) (fun h46 => ?_)
          · refine r_iload rfl rfl ?_
            refine r_istore_n rfl ?_
            refine r_iinc rfl rfl ?_
            refine r_goto rfl ?_
            rw [fPlace_nI (by omega)] at h34 h46
            rw [fPlace_nI (by omega), nI_1]
            exact ih (j + 1) _ _ _ (by omega) (by omega) (by rw [turnI, ← h3]; simp only; grind)
          · refine r_iload_n rfl rfl ?_
            refine r_goto rfl ?_
            refine r_istore_n rfl ?_
            refine r_iinc rfl rfl ?_
            refine r_goto rfl ?_
            rw [fPlace_nI (by omega)] at h34 h46
            rw [fPlace_nI (by omega), nI_1]
            exact ih (j + 1) _ _ _ (by omega) (by omega) (by rw [turnI, ← h3]; simp only; grind)
        · refine r_iconst rfl ?_
          refine r_goto rfl ?_
          refine r_iadd rfl ?_
          refine r_istore_n rfl ?_
          refine r_iload rfl rfl ?_
          refine r_if_ne rfl (fun h46 => ?_) (fun h46 => ?_)
          · refine r_iload rfl rfl ?_
            refine r_istore_n rfl ?_
            refine r_iinc rfl rfl ?_
            refine r_goto rfl ?_
            rw [fPlace_nI (by omega)] at h34 h46
            rw [fPlace_nI (by omega), nI_1]
            exact ih (j + 1) _ _ _ (by omega) (by omega) (by rw [turnI, ← h3]; simp only; grind)
          · refine r_iload_n rfl rfl ?_
            refine r_goto rfl ?_
            refine r_istore_n rfl ?_
            refine r_iinc rfl rfl ?_
            refine r_goto rfl ?_
            rw [fPlace_nI (by omega)] at h34 h46
            rw [fPlace_nI (by omega), nI_1]
            exact ih (j + 1) _ _ _ (by omega) (by omega) (by rw [turnI, ← h3]; simp only; grind)
  refine r_iconst rfl ?_
  refine r_istore_n rfl ?_
  refine r_iconst rfl ?_
  refine r_istore_n rfl ?_
  refine r_iconst rfl ?_
  refine r_istore rfl ?_
  exact loop (nw + 2) 0 _ _ _ (by omega) (by omega) rfl
theorem ct_X0_note {d : Nat} {S : am_S} {o p nw : Nat} {a b c e : Int32} (hC : IsC S o) (hn : gI S o 0 = nI nw) (hb : nw ≤ 199) (hp : p < 6) : am_CT (d + 1) iX0_note [.ref o, .int (nI p), .int a, .int b, .int c, .int e] S (none) (uI (uI (uI (uI S (o + 2) (p * 200 + nw) a) (o + 3) (p * 200 + nw) b) (o + 4) (p * 200 + nw) c) (o + 5) (p * 200 + nw) e) := by
  refine am_CT_in mmX0_note rfl rfl rfl ?_
  obtain ⟨hk, hk1, hk2, hk3, hk4, hk5⟩ := hC
  have e1 : nI p * 200 + gI S o 0 = nI (p * 200 + nw) := by
    rw [hn]
    exact (congrArg (fun z => z + nI nw) (pk_mul p 200)).trans (nI_add _ _)
  have e2 : (nI p * 200 + gI S o 0).toNatClampNeg = p * 200 + nw := by rw [e1, nI_clamp (by omega)]
  have e3 : 0 ≤ nI p * 200 + gI S o 0 := by rw [e1]; exact nI_pos' (by omega)
  have e4 : nI p * 200 + gI S o 0 < Int32.ofNat 1200 := by rw [e1]; exact nI_lt (by omega) (by omega)
  refine r_iload_n rfl rfl ?_
  refine r_sipush rfl ?_
  refine r_imul rfl ?_
  refine r_aload_n rfl rfl ?_
  refine r_getI rfl hk (by decide) (by decide) rfl ?_
  refine r_iadd rfl ?_
  refine r_istore rfl ?_
  refine r_iload rfl rfl ?_
  refine r_if_lt rfl (fun h14 => ?_) (fun h14 => ?_)
  · exact absurd e3 (Int32.not_le.mpr h14)
  · refine r_iload rfl rfl ?_
    refine r_aload_n rfl rfl ?_
    refine r_getO rfl hk (by decide) (by decide) rfl ?_
    refine r_alen rfl hk2 (by decide) ?_
    refine r_icmp_ge rfl (fun h24 => ?_) (fun h24 => ?_)
    · exact absurd e4 (Int32.not_lt.mpr h24)
    · refine r_aload_n rfl rfl ?_
      refine r_getO rfl hk (by decide) (by decide) rfl ?_
      refine r_iload rfl rfl ?_
      refine r_iload_n rfl rfl ?_
      refine r_iast rfl hk2 (by first | decide | assumption) (by first | exact e3 | exact e4) (by first | exact e3 | exact e4) ?_
      refine r_aload_n rfl rfl ?_
      refine r_getO rfl hk (by decide) (by decide) rfl ?_
      refine r_iload rfl rfl ?_
      refine r_iload_n rfl rfl ?_
      refine r_iast rfl hk3 (by first | decide | assumption) (by first | exact e3 | exact e4) (by first | exact e3 | exact e4) ?_
      refine r_aload_n rfl rfl ?_
      refine r_getO rfl hk (by decide) (by decide) rfl ?_
      refine r_iload rfl rfl ?_
      refine r_iload rfl rfl ?_
      refine r_iast rfl hk4 (by first | decide | assumption) (by first | exact e3 | exact e4) (by first | exact e3 | exact e4) ?_
      refine r_aload_n rfl rfl ?_
      refine r_getO rfl hk (by decide) (by decide) rfl ?_
      refine r_iload rfl rfl ?_
      refine r_iload rfl rfl ?_
      refine r_iast rfl hk5 (by first | decide | assumption) (by first | exact e3 | exact e4) (by first | exact e3 | exact e4) ?_
      refine r_vret rfl ?_
      rw [e2]
      exact ⟨rfl, rfl⟩
theorem ct_X0_move {d : Nat} {S : am_S} {o nw : Nat} {v : Int32} (hC : IsC S o) (hn : gI S o 0 = nI nw) (hb : nw < 199) : am_CT (d + 2) iX0_move [.ref o, .int v] S (none) (uI (uI S (o + 1) (nw + 1) (fPut (gI S (o + 1) nw + v) 999)) o 0 (nI (nw + 1))) := by
  refine am_CT_in mmX0_move rfl rfl rfl ?_
  obtain ⟨hk, hk1, hk2, hk3, hk4, hk5⟩ := hC
  have e1 : gI S o 0 + 1 = nI (nw + 1) := by rw [hn, nI_1]
  have e2 : (gI S o 0).toNatClampNeg = nw := by rw [hn, nI_clamp (by omega)]
  have e3 : (gI S o 0 + 1).toNatClampNeg = nw + 1 := by rw [e1, nI_clamp (by omega)]
  have s1 : 0 ≤ gI S o 0 := by rw [hn]; exact nI_pos' (by omega)
  have s2 : gI S o 0 < 200 := by rw [hn]; exact nI_lt (b := 200) (by omega) (by omega)
  have s3 : 0 ≤ gI S o 0 + 1 := by rw [e1]; exact nI_pos' (by omega)
  have s4 : gI S o 0 + 1 < 200 := by rw [e1]; exact nI_lt (b := 200) (by omega) (by omega)
  have s5 : ¬ 199 ≤ gI S o 0 := by rw [hn]; exact nI_ge (b := 199) (by omega) (by omega)
  refine r_aload_n rfl rfl ?_
  refine r_getI rfl hk (by decide) (by decide) rfl ?_
  refine r_if_lt rfl (fun h4 => ?_) (fun h4 => ?_)
  · exact absurd s1 (Int32.not_le.mpr h4)
  · refine r_aload_n rfl rfl ?_
    refine r_getI rfl hk (by decide) (by decide) rfl ?_
    refine r_sipush rfl ?_
    refine r_icmp_ge rfl (fun h14 => ?_) (fun h14 => ?_)
    · exact absurd h14 s5
    · refine r_aload_n rfl rfl ?_
      refine r_getO rfl hk (by decide) (by decide) rfl ?_
      refine r_aload_n rfl rfl ?_
      refine r_getI rfl hk (by decide) (by decide) rfl ?_
      refine r_iconst rfl ?_
      refine r_iadd rfl ?_
      refine r_aload_n rfl rfl ?_
      refine r_getO rfl hk (by decide) (by decide) rfl ?_
      refine r_aload_n rfl rfl ?_
      refine r_getI rfl hk (by decide) (by decide) rfl ?_
      refine r_iald rfl hk1 (by first | decide | assumption) (by first | exact s1 | exact s2 | exact s3 | exact s4) (by first | exact s1 | exact s2 | exact s3 | exact s4) ?_
      refine r_iload_n rfl rfl ?_
      refine r_iadd rfl ?_
      refine r_sipush rfl ?_
      refine r_callS rfl (by decide) ct_X10_putTo rfl rfl (am_cnt rfl) ?_
      refine r_iast rfl hk1 (by first | decide | assumption) (by first | exact s1 | exact s2 | exact s3 | exact s4) (by first | exact s1 | exact s2 | exact s3 | exact s4) ?_
      refine r_aload_n rfl rfl ?_
      refine r_dup rfl rfl ?_
      refine r_getI rfl hk (by decide) (by decide) rfl ?_
      refine r_iconst rfl ?_
      refine r_iadd rfl ?_
      refine r_putI rfl hk (by decide) (by decide) rfl ?_
      refine r_vret rfl ?_
      rw [e2, e3]
      refine ⟨rfl, ?_⟩
      have e5 : gI (uI S (o + 1) (nw + 1) (fPut (gI S (o + 1) nw + v) 999)) o 0 = nI nw := by rw [gI_uI, if_neg (by omega), hn]
      rw [← nI_1, ← e5]
def drawI (r : Int32) : Int32 := r * 1103515245 + 12345
def tenI (r : Int32) : Int32 := (r.toUInt32 >>> ((16 : Int32).toUInt32 &&& Int32.toUInt32 31)).toInt32 - (r.toUInt32 >>> ((16 : Int32).toUInt32 &&& Int32.toUInt32 31)).toInt32 / 10 * 10
theorem ct_X0_drawOfTen {d : Nat} {S : am_S} {o : Nat} (hC : IsC S o) : am_CT (d + 1) iX0_drawOfTen [.ref o] S (some (.int (tenI (drawI (gI S o 2))))) (uI S o 2 (drawI (gI S o 2))) := by
  refine am_CT_in mmX0_drawOfTen rfl rfl rfl ?_
  have hk := hC.1
  refine r_aload_n rfl rfl ?_
  refine r_aload_n rfl rfl ?_
  refine r_getI rfl hk (by decide) (by decide) rfl ?_
  refine r_ldc rfl ?_
  refine r_imul rfl ?_
  refine r_sipush rfl ?_
  refine r_iadd rfl ?_
  refine r_putI rfl hk (by decide) (by decide) rfl ?_
  refine r_aload_n rfl rfl ?_
  refine r_getI rfl hk (by decide) (by decide) rfl ?_
  refine r_bipush rfl ?_
  refine r_iushr rfl ?_
  refine r_bipush rfl ?_
  refine r_irem rfl (by decide) ?_
  refine r_iret rfl rfl ?_
  refine ⟨?_, rfl⟩
  rw [gI_uI, if_pos rfl, if_pos rfl]
  rfl
theorem ct_X0_spoke {d : Nat} {S : am_S} {o : Nat} {p m : Int32} (hC : IsC S o) : am_CT (d + 2) iX0_spoke [.ref o, .int p, .int m] S (some (.int (b01 (¬ fNoted S (o + 3) p m = 0)))) (S) := by
  refine am_CT_in mmX0_spoke rfl rfl rfl ?_
  obtain ⟨hk, hk1, hk2, hk3, hk4, hk5⟩ := hC
  refine r_aload_n rfl rfl ?_
  refine r_aload_n rfl rfl ?_
  refine r_getO rfl hk (by decide) (by decide) rfl ?_
  refine r_iload_n rfl rfl ?_
  refine r_iload_n rfl rfl ?_
  refine r_callV rfl (ct_X0_noted hk3) rfl rfl hk (by decide) rfl (am_cnt rfl) ?_
  refine r_if_eq rfl (fun h10 => ?_) (fun h10 => ?_)
  · refine r_iconst rfl ?_
    refine r_zret rfl rfl (by simp) ?_
    exact ⟨by simp only [b01]; grind, rfl⟩
  · refine r_iconst rfl ?_
    refine r_goto rfl ?_
    refine r_zret rfl rfl (by simp) ?_
    exact ⟨by simp only [b01]; grind, rfl⟩
/-- a course becomes as another one -/
def cpyC (S : am_S) (o f : Nat) : am_S := rI (rI (rI (rI (rI (uI (uI (uI (uI S o 0 (gI S f 0)) o 1 (gI S f 1)) o 2 (gI S f 2)) o 3 (gI S f 3)) (o + 1) (va_cpy (gI S (f + 1)) (gI S (o + 1)) 0 0 200)) (o + 2) (va_cpy (gI S (f + 2)) (gI S (o + 2)) 0 0 1200)) (o + 3) (va_cpy (gI S (f + 3)) (gI S (o + 3)) 0 0 1200)) (o + 4) (va_cpy (gI S (f + 4)) (gI S (o + 4)) 0 0 1200)) (o + 5) (va_cpy (gI S (f + 5)) (gI S (o + 5)) 0 0 1200)
theorem ct_X0_copy {d : Nat} {S : am_S} {o f : Nat} (hC : IsC S o) (hF : IsC S f) (hne : o + 5 < f ∨ f + 5 < o) : am_CT (d + 1) iX0_copy [.ref o, .ref f] S (none) (cpyC S o f) := by
  refine am_CT_in mmX0_copy rfl rfl rfl ?_
  obtain ⟨hk, hk1, hk2, hk3, hk4, hk5⟩ := hC
  obtain ⟨hf, hf1, hf2, hf3, hf4, hf5⟩ := hF
  refine r_aload_n rfl rfl ?_
  refine r_aload_n rfl rfl ?_
  refine r_getI rfl hf (by decide) (by decide) rfl ?_
  refine r_putI rfl hk (by decide) (by decide) rfl ?_
  refine r_aload_n rfl rfl ?_
  refine r_aload_n rfl rfl ?_
  refine r_getI rfl hf (by decide) (by decide) rfl ?_
  refine r_putI rfl hk (by decide) (by decide) rfl ?_
  refine r_aload_n rfl rfl ?_
  refine r_aload_n rfl rfl ?_
  refine r_getI rfl hf (by decide) (by decide) rfl ?_
  refine r_putI rfl hk (by decide) (by decide) rfl ?_
  refine r_aload_n rfl rfl ?_
  refine r_aload_n rfl rfl ?_
  refine r_getI rfl hf (by decide) (by decide) rfl ?_
  refine r_putI rfl hk (by decide) (by decide) rfl ?_
  refine r_aload_n rfl rfl ?_
  refine r_getO rfl hf (by decide) (by decide) rfl ?_
  refine r_iconst rfl ?_
  refine r_aload_n rfl rfl ?_
  refine r_getO rfl hk (by decide) (by decide) rfl ?_
  refine r_iconst rfl ?_
  refine r_aload_n rfl rfl ?_
  refine r_getO rfl hk (by decide) (by decide) rfl ?_
  refine r_alen rfl hk1 (by decide) ?_
  refine r_copyI rfl (am_cnt rfl) hf1 hk1 (by decide) (by decide) (by decide) (by decide) (by decide) ?_
  refine r_aload_n rfl rfl ?_
  refine r_getO rfl hf (by decide) (by decide) rfl ?_
  refine r_iconst rfl ?_
  refine r_aload_n rfl rfl ?_
  refine r_getO rfl hk (by decide) (by decide) rfl ?_
  refine r_iconst rfl ?_
  refine r_aload_n rfl rfl ?_
  refine r_getO rfl hk (by decide) (by decide) rfl ?_
  refine r_alen rfl hk2 (by decide) ?_
  refine r_copyI rfl (am_cnt rfl) hf2 hk2 (by decide) (by decide) (by decide) (by decide) (by decide) ?_
  refine r_aload_n rfl rfl ?_
  refine r_getO rfl hf (by decide) (by decide) rfl ?_
  refine r_iconst rfl ?_
  refine r_aload_n rfl rfl ?_
  refine r_getO rfl hk (by decide) (by decide) rfl ?_
  refine r_iconst rfl ?_
  refine r_aload_n rfl rfl ?_
  refine r_getO rfl hk (by decide) (by decide) rfl ?_
  refine r_alen rfl hk3 (by decide) ?_
  refine r_copyI rfl (am_cnt rfl) hf3 hk3 (by decide) (by decide) (by decide) (by decide) (by decide) ?_
  refine r_aload_n rfl rfl ?_
  refine r_getO rfl hf (by decide) (by decide) rfl ?_
  refine r_iconst rfl ?_
  refine r_aload_n rfl rfl ?_
  refine r_getO rfl hk (by decide) (by decide) rfl ?_
  refine r_iconst rfl ?_
  refine r_aload_n rfl rfl ?_
  refine r_getO rfl hk (by decide) (by decide) rfl ?_
  refine r_alen rfl hk4 (by decide) ?_
  refine r_copyI rfl (am_cnt rfl) hf4 hk4 (by decide) (by decide) (by decide) (by decide) (by decide) ?_
  refine r_aload_n rfl rfl ?_
  refine r_getO rfl hf (by decide) (by decide) rfl ?_
  refine r_iconst rfl ?_
  refine r_aload_n rfl rfl ?_
  refine r_getO rfl hk (by decide) (by decide) rfl ?_
  refine r_iconst rfl ?_
  refine r_aload_n rfl rfl ?_
  refine r_getO rfl hk (by decide) (by decide) rfl ?_
  refine r_alen rfl hk5 (by decide) ?_
  refine r_copyI rfl (am_cnt rfl) hf5 hk5 (by decide) (by decide) (by decide) (by decide) (by decide) ?_
  refine r_vret rfl ?_
  refine ⟨rfl, ?_⟩
  simp (disch := omega) only [cpyC, gI_uI_ne, gI_rI_ne, cl_200, cl_1200, sb_cl0]
end
section
/-! Small objects: a person, what is told, a formula. -/
theorem ct_X4_hearsAfter {d : Nat} {S : am_S} {o : Nat} (hk : am_kn (gR S 0) o = (4, 0)) : am_CT (d + 1) iX4_hearsAfter [.ref o] S (some (.int (if gI S o 0 < 1 then 1 else gI S o 0))) (S) := by
  refine am_CT_in mmX4_hearsAfter rfl rfl rfl ?_
  refine r_aload_n rfl rfl ?_
  refine r_getI rfl hk (by decide) (by decide) rfl ?_
  refine r_iconst rfl ?_
  refine r_icmp_ge rfl (fun h5 => ?_) (fun h5 => ?_)
  · refine r_aload_n rfl rfl ?_
    refine r_getI rfl hk (by decide) (by decide) rfl ?_
    refine r_iret rfl rfl ?_
    exact ⟨by grind, rfl⟩
  · refine r_iconst rfl ?_
    refine r_goto rfl ?_
    refine r_iret rfl rfl ?_
    exact ⟨by grind, rfl⟩
theorem ct_X7_clear {d : Nat} {S : am_S} : am_CT (d + 1) iX7_clear [.ref 74] S (none) (uI S 74 1 0) := by
  refine am_CT_in mmX7_clear rfl rfl rfl ?_
  refine r_aload_n rfl rfl ?_
  refine r_iconst rfl ?_
  refine r_putI rfl rfl (by decide) (by decide) rfl ?_
  refine r_vret rfl ?_
  exact ⟨rfl, rfl⟩
/-- what is told comes behind -/
def tAdd (S : am_S) (v : Int64) (n : Nat) : am_S := uI (uJ S 75 n v) 74 1 (nI (n + 1))
theorem ct_X7_add {d : Nat} {S : am_S} {v : Int64} {n : Nat} (hn : gI S 74 1 = nI n) (hb : n < 6) : am_CT (d + 1) iX7_add [.ref 74, .long v] S (none) (tAdd S v n) := by
  refine am_CT_in mmX7_add rfl rfl rfl ?_
  have s1 : 0 ≤ gI S 74 1 := by rw [hn]; exact nI_pos' (by omega)
  have s2 : gI S 74 1 < 6 := by rw [hn]; exact nI_lt (b := 6) (by omega) (by omega)
  have e2 : (gI S 74 1).toNatClampNeg = n := by rw [hn, nI_clamp (by omega)]
  refine r_aload_n rfl rfl ?_
  refine r_getI rfl rfl (by decide) (by decide) rfl ?_
  refine r_aload_n rfl rfl ?_
  refine r_getC rfl rfl (by decide) (by decide) rfl ?_
  refine r_alen rfl rfl (by decide) ?_
  refine r_icmp_ge rfl (fun h9 => ?_) (fun h9 => ?_)
  · exact absurd s2 (Int32.not_lt.mpr h9)
  · refine r_aload_n rfl rfl ?_
    refine r_getC rfl rfl (by decide) (by decide) rfl ?_
    refine r_aload_n rfl rfl ?_
    refine r_getI rfl rfl (by decide) (by decide) rfl ?_
    refine r_lload_n rfl rfl ?_
    refine r_last rfl rfl (by first | decide | assumption) (by first | exact s1 | exact s2) (by first | exact s1 | exact s2) ?_
    refine r_aload_n rfl rfl ?_
    refine r_dup rfl rfl ?_
    refine r_getI rfl rfl (by decide) (by decide) rfl ?_
    refine r_iconst rfl ?_
    refine r_iadd rfl ?_
    refine r_putI rfl rfl (by decide) (by decide) rfl ?_
    refine r_vret rfl ?_
    rw [e2]
    refine ⟨rfl, ?_⟩
    rw [tAdd, ← nI_1, ← hn]
    rfl
def t1 (S : am_S) (a : Int64) : am_S := tAdd (uI S 74 1 0) a 0
def t2 (S : am_S) (a b : Int64) : am_S := tAdd (t1 S a) b 1
def t3 (S : am_S) (a b c : Int64) : am_S := tAdd (t2 S a b) c 2
theorem tAdd_n {S : am_S} {v : Int64} {n : Nat} : gI (tAdd S v n) 74 1 = nI (n + 1) := by rw [tAdd, gI_uI, if_pos rfl, if_pos rfl]
theorem ct_X7_tellOne {d : Nat} {S : am_S} {a : Int64} : am_CT (d + 2) iX7_tellOne [.ref 74, .long a] S (none) (t1 S a) := by
  refine am_CT_in mmX7_tellOne rfl rfl rfl ?_
  refine r_aload_n rfl rfl ?_
  refine r_callV rfl (ct_X7_clear) rfl rfl rfl (by decide) rfl (am_cnt rfl) ?_
  refine r_aload_n rfl rfl ?_
  refine r_lload_n rfl rfl ?_
  refine r_callV rfl (ct_X7_add (n := 0) (by rw [gI_uI, if_pos rfl, if_pos rfl]; rfl) (by decide)) rfl rfl rfl (by decide) rfl (am_cnt rfl) ?_
  refine r_vret rfl ?_
  exact ⟨rfl, rfl⟩
theorem ct_X7_tellTwo {d : Nat} {S : am_S} {a b : Int64} : am_CT (d + 3) iX7_tellTwo [.ref 74, .long a, .long b] S (none) (t2 S a b) := by
  refine am_CT_in mmX7_tellTwo rfl rfl rfl ?_
  refine r_aload_n rfl rfl ?_
  refine r_lload_n rfl rfl ?_
  refine r_callV rfl (ct_X7_tellOne) rfl rfl rfl (by decide) rfl (am_cnt rfl) ?_
  refine r_aload_n rfl rfl ?_
  refine r_lload_n rfl rfl ?_
  refine r_callV rfl (ct_X7_add (n := 1) tAdd_n (by decide)) rfl rfl rfl (by decide) rfl (am_cnt rfl) ?_
  refine r_vret rfl ?_
  exact ⟨rfl, rfl⟩
theorem ct_X7_tellThree {d : Nat} {S : am_S} {a b c : Int64} : am_CT (d + 4) iX7_tellThree [.ref 74, .long a, .long b, .long c] S (none) (t3 S a b c) := by
  refine am_CT_in mmX7_tellThree rfl rfl rfl ?_
  refine r_aload_n rfl rfl ?_
  refine r_lload_n rfl rfl ?_
  refine r_lload_n rfl rfl ?_
  refine r_callV rfl (ct_X7_tellTwo) rfl rfl rfl (by decide) rfl (am_cnt rfl) ?_
  refine r_aload_n rfl rfl ?_
  refine r_lload rfl rfl ?_
  refine r_callV rfl (ct_X7_add (n := 2) tAdd_n (by decide)) rfl rfl rfl (by decide) rfl (am_cnt rfl) ?_
  refine r_vret rfl ?_
  exact ⟨rfl, rfl⟩
/-! a formula: cell o -/
def IsF (S : am_S) (o : Nat) : Prop := am_kn (gR S 0) o = (1, 0) ∧ am_kn (gR S 0) (o + 1) = (20, 40) ∧ am_kn (gR S 0) (o + 2) = (20, 40)
def fAddF (S : am_S) (o : Nat) (v : Int32) (n : Nat) : am_S := if n < 40 then uI (uI S (o + 1) n v) o 1 (nI (n + 1)) else S
theorem ct_X1_add {d : Nat} {S : am_S} {o n : Nat} {v : Int32} (hF : IsF S o) (hn : gI S o 1 = nI n) (hb : n ≤ 40) : am_CT (d + 1) iX1_add [.ref o, .int v] S (none) (fAddF S o v n) := by
  refine am_CT_in mmX1_add rfl rfl rfl ?_
  obtain ⟨hk, hk1, hk2⟩ := hF
  have s1 : 0 ≤ gI S o 1 := by rw [hn]; exact nI_pos' (by omega)
  have e2 : (gI S o 1).toNatClampNeg = n := by rw [hn, nI_clamp (by omega)]
  have e3 : (40 : Int32) ≤ gI S o 1 ↔ 40 ≤ n := by rw [hn]; exact nI_leI (a := 40) (by omega) (by omega)
  refine r_aload_n rfl rfl ?_
  refine r_getI rfl hk (by decide) (by decide) rfl ?_
  refine r_aload_n rfl rfl ?_
  refine r_getO rfl hk (by decide) (by decide) rfl ?_
  refine r_alen rfl hk1 (by decide) ?_
  refine r_icmp_ge rfl (fun h9 => ?_) (fun h9 => ?_)
  · have h40 := e3.mp h9
    rw [fAddF, if_neg (by omega)]
    refine r_vret rfl ?_
    exact ⟨rfl, rfl⟩
  · have h40 : n < 40 := Nat.lt_of_not_le fun z => h9 (e3.mpr z)
    rw [fAddF, if_pos h40]
    refine r_aload_n rfl rfl ?_
    refine r_getO rfl hk (by decide) (by decide) rfl ?_
    refine r_aload_n rfl rfl ?_
    refine r_getI rfl hk (by decide) (by decide) rfl ?_
    refine r_iload_n rfl rfl ?_
    refine r_iast rfl hk1 (by first | decide | assumption) (by first | exact s1 | exact Int32.not_le.mp h9) (by first | exact s1 | exact Int32.not_le.mp h9) ?_
    refine r_aload_n rfl rfl ?_
    refine r_dup rfl rfl ?_
    refine r_getI rfl hk (by decide) (by decide) rfl ?_
    refine r_iconst rfl ?_
    refine r_iadd rfl ?_
    refine r_putI rfl hk (by decide) (by decide) rfl ?_
    refine r_vret rfl ?_
    rw [e2]
    refine ⟨rfl, ?_⟩
    have e5 : gI (uI S (o + 1) n v) o 1 = nI n := by rw [gI_uI, if_neg (by omega), hn]
    rw [← nI_1, ← e5]
def cpyF (S : am_S) (o f : Nat) : am_S := rI (uI S o 1 (gI S f 1)) (o + 1) (va_cpy (gI S (f + 1)) (gI S (o + 1)) 0 0 40)
theorem cl_40 : (Int32.ofNat 40).toNatClampNeg = 40 := by decide
theorem ct_X1_copy {d : Nat} {S : am_S} {o f : Nat} (hF : IsF S o) (hG : IsF S f) (hne : o + 2 < f ∨ f + 2 < o) : am_CT (d + 1) iX1_copy [.ref o, .ref f] S (none) (cpyF S o f) := by
  refine am_CT_in mmX1_copy rfl rfl rfl ?_
  obtain ⟨hk, hk1, hk2⟩ := hF
  obtain ⟨hf, hf1, hf2⟩ := hG
  refine r_aload_n rfl rfl ?_
  refine r_aload_n rfl rfl ?_
  refine r_getI rfl hf (by decide) (by decide) rfl ?_
  refine r_putI rfl hk (by decide) (by decide) rfl ?_
  refine r_aload_n rfl rfl ?_
  refine r_getO rfl hf (by decide) (by decide) rfl ?_
  refine r_iconst rfl ?_
  refine r_aload_n rfl rfl ?_
  refine r_getO rfl hk (by decide) (by decide) rfl ?_
  refine r_iconst rfl ?_
  refine r_aload_n rfl rfl ?_
  refine r_getO rfl hk (by decide) (by decide) rfl ?_
  refine r_alen rfl hk1 (by decide) ?_
  refine r_copyI rfl (am_cnt rfl) hf1 hk1 (by decide) (by decide) (by decide) (by decide) (by decide) ?_
  refine r_vret rfl ?_
  refine ⟨rfl, ?_⟩
  simp (disch := omega) only [cpyF, gI_uI_ne, gI_rI_ne, cl_40, sb_cl0]
def fThing (sg : Nat → Int32) (w : Nat) (c : Int32) : Int32 := if c - 1000 < 0 then c else if c - 1000 < Int32.ofNat w then sg (c - 1000).toNatClampNeg else 0
theorem ct_X1_thing {d : Nat} {S : am_S} {o q w : Nat} {c : Int32} (hq : am_kn (gR S 0) q = (20, w)) (hw : w < 2147483648) : am_CT (d + 1) iX1_thing [.ref o, .int c, .ref q] S (some (.int (fThing (gI S q) w c))) (S) := by
  refine am_CT_in mmX1_thing rfl rfl rfl ?_
  refine r_iload_n rfl rfl ?_
  refine r_sipush rfl ?_
  refine r_isub rfl ?_
  refine r_istore_n rfl ?_
  refine r_iload_n rfl rfl ?_
  refine r_if_ge rfl (fun h7 => ?_) (fun h7 => ?_)
  · refine r_iload_n rfl rfl ?_
    refine r_aload_n rfl rfl ?_
    refine r_alen rfl hq (by decide) ?_
    refine r_icmp_ge rfl (fun h17 => ?_) (fun h17 => ?_)
    · refine r_iconst rfl ?_
      refine r_iret rfl rfl ?_
      exact ⟨by simp only [fThing]; grind, rfl⟩
    · refine r_aload_n rfl rfl ?_
      refine r_iload_n rfl rfl ?_
      refine r_iald rfl hq (by first | decide | assumption) (by first | exact hw | grind) (by first | exact hw | grind) ?_
      refine r_goto rfl ?_
      refine r_iret rfl rfl ?_
      exact ⟨by simp only [fThing]; grind, rfl⟩
  · refine r_iload_n rfl rfl ?_
    refine r_goto rfl ?_
    refine r_iret rfl rfl ?_
    exact ⟨by simp only [fThing]; grind, rfl⟩
def fJoin (op a b : Int32) : Int32 := if op = 124 then b01 (¬ a = 0 ∨ ¬ b = 0) else if op = 38 then b01 (¬ a = 0 ∧ ¬ b = 0) else if op = 60 then b01 (a < b) else if op = 62 then b01 (b < a) else if op = 61 then b01 (a = b) else if op = 43 then a + b else if op = 45 then a - b else if op = 42 then a * b else if b = 0 then 0 else a / b
theorem lks_miss {x k : Int32} {a o d : Int} {r : List (Int × Int)} (h : ¬ x = k) (hk : k.toInt = a) : Op.lookupswitch.offset ((a, o) :: r) d x.toInt = Op.lookupswitch.offset r d x.toInt := lv_osw h hk
theorem lks_hit {x k : Int32} {a o d : Int} {r : List (Int × Int)} (h : x = k) (hk : k.toInt = a) : Op.lookupswitch.offset ((a, o) :: r) d x.toInt = o := by
  subst h
  simp [Op.lookupswitch.offset, hk]
theorem ct_X1_join {d : Nat} {S : am_S} {op a b : Int32} : am_CT (d + 1) iX1_join [.int op, .int a, .int b] S (some (.int (fJoin op a b))) (S) := by
  refine am_CT_in mmX1_join rfl rfl rfl ?_
  refine r_iload_n rfl rfl ?_
  by_cases q0 : op = 38
  · refine r_lookupT rfl (tgt := 90) (by rw [q0]; decide) ?_
    refine r_iload_n rfl rfl ?_
    refine r_if_eq rfl (fun h91 => ?_) (fun h91 => ?_)
    · refine r_iconst rfl ?_
      refine r_iret rfl rfl ?_
      exact ⟨by simp only [fJoin, b01]; grind, rfl⟩
    · refine r_iload_n rfl rfl ?_
      refine r_if_eq rfl (fun h95 => ?_) (fun h95 => ?_)
      · refine r_iconst rfl ?_
        refine r_iret rfl rfl ?_
        exact ⟨by simp only [fJoin, b01]; grind, rfl⟩
      · refine r_iconst rfl ?_
        refine r_goto rfl ?_
        refine r_iret rfl rfl ?_
        exact ⟨by simp only [fJoin, b01]; grind, rfl⟩
  by_cases q1 : op = 42
  · refine r_lookupT rfl (tgt := 145) (by rw [q1]; decide) ?_
    refine r_iload_n rfl rfl ?_
    refine r_iload_n rfl rfl ?_
    refine r_imul rfl ?_
    refine r_iret rfl rfl ?_
    exact ⟨by simp only [fJoin, b01]; grind, rfl⟩
  by_cases q2 : op = 43
  · refine r_lookupT rfl (tgt := 137) (by rw [q2]; decide) ?_
    refine r_iload_n rfl rfl ?_
    refine r_iload_n rfl rfl ?_
    refine r_iadd rfl ?_
    refine r_iret rfl rfl ?_
    exact ⟨by simp only [fJoin, b01]; grind, rfl⟩
  by_cases q3 : op = 45
  · refine r_lookupT rfl (tgt := 141) (by rw [q3]; decide) ?_
    refine r_iload_n rfl rfl ?_
    refine r_iload_n rfl rfl ?_
    refine r_isub rfl ?_
    refine r_iret rfl rfl ?_
    exact ⟨by simp only [fJoin, b01]; grind, rfl⟩
  by_cases q4 : op = 60
  · refine r_lookupT rfl (tgt := 104) (by rw [q4]; decide) ?_
    refine r_iload_n rfl rfl ?_
    refine r_iload_n rfl rfl ?_
    refine r_icmp_ge rfl (fun h106 => ?_) (fun h106 => ?_)
    · refine r_iconst rfl ?_
      refine r_iret rfl rfl ?_
      exact ⟨by simp only [fJoin, b01]; grind, rfl⟩
    · refine r_iconst rfl ?_
      refine r_goto rfl ?_
      refine r_iret rfl rfl ?_
      exact ⟨by simp only [fJoin, b01]; grind, rfl⟩
  by_cases q5 : op = 61
  · refine r_lookupT rfl (tgt := 126) (by rw [q5]; decide) ?_
    refine r_iload_n rfl rfl ?_
    refine r_iload_n rfl rfl ?_
    refine r_icmp_ne rfl (fun h128 => ?_) (fun h128 => ?_)
    · refine r_iconst rfl ?_
      refine r_iret rfl rfl ?_
      exact ⟨by simp only [fJoin, b01]; grind, rfl⟩
    · refine r_iconst rfl ?_
      refine r_goto rfl ?_
      refine r_iret rfl rfl ?_
      exact ⟨by simp only [fJoin, b01]; grind, rfl⟩
  by_cases q6 : op = 62
  · refine r_lookupT rfl (tgt := 115) (by rw [q6]; decide) ?_
    refine r_iload_n rfl rfl ?_
    refine r_iload_n rfl rfl ?_
    refine r_icmp_le rfl (fun h117 => ?_) (fun h117 => ?_)
    · refine r_iconst rfl ?_
      refine r_iret rfl rfl ?_
      exact ⟨by simp only [fJoin, b01]; grind, rfl⟩
    · refine r_iconst rfl ?_
      refine r_goto rfl ?_
      refine r_iret rfl rfl ?_
      exact ⟨by simp only [fJoin, b01]; grind, rfl⟩
  by_cases q7 : op = 124
  · refine r_lookupT rfl (tgt := 76) (by rw [q7]; decide) ?_
    refine r_iload_n rfl rfl ?_
    refine r_if_ne rfl (fun h77 => ?_) (fun h77 => ?_)
    · refine r_iconst rfl ?_
      refine r_goto rfl ?_
      refine r_iret rfl rfl ?_
      exact ⟨by simp only [fJoin, b01]; grind, rfl⟩
    · refine r_iload_n rfl rfl ?_
      refine r_if_eq rfl (fun h81 => ?_) (fun h81 => ?_)
      · refine r_iconst rfl ?_
        refine r_iret rfl rfl ?_
        exact ⟨by simp only [fJoin, b01]; grind, rfl⟩
      · refine r_iconst rfl ?_
        refine r_goto rfl ?_
        refine r_iret rfl rfl ?_
        exact ⟨by simp only [fJoin, b01]; grind, rfl⟩
  refine r_lookupT rfl (tgt := 149) (by
    show am_tg 1 (Op.lookupswitch.offset [(38, 89), (42, 144), (43, 136), (45, 140), (60, 103), (61, 125), (62, 114), (124, 75)] 148 op.toInt) = 149
    rw [lks_miss (k := 38) (a := 38) q0 (by decide), lks_miss (k := 42) (a := 42) q1 (by decide), lks_miss (k := 43) (a := 43) q2 (by decide), lks_miss (k := 45) (a := 45) q3 (by decide), lks_miss (k := 60) (a := 60) q4 (by decide), lks_miss (k := 61) (a := 61) q5 (by decide), lks_miss (k := 62) (a := 62) q6 (by decide), lks_miss (k := 124) (a := 124) q7 (by decide)]
    rfl) ?_
  refine r_iload_n rfl rfl ?_
  refine r_if_ne rfl (fun h150 => ?_) (fun h150 => ?_)
  · refine r_iload_n rfl rfl ?_
    refine r_iload_n rfl rfl ?_
    refine r_idiv rfl (by assumption) ?_
    refine r_iret rfl rfl ?_
    exact ⟨by simp only [fJoin, b01]; grind, rfl⟩
  · refine r_iconst rfl ?_
    refine r_goto rfl ?_
    refine r_iret rfl rfl ?_
    exact ⟨by simp only [fJoin, b01]; grind, rfl⟩
/-- what is done with what lies uppermost: the stack, how many lie there -/
def fReck (g : Nat → Int32) (t : Nat) (c : Int32) : (Nat → Int32) × Nat :=
  if t < 1 ∨ 40 < t then (g, 0) else if c = 2110 then (upd g (t - 1) (-g (t - 1)), t) else if c = 2033 then (upd g (t - 1) (b01 (g (t - 1) = 0)), t) else if t < 2 then (g, 0) else (upd g (t - 2) (fJoin (c - 2000) (g (t - 2)) (g (t - 1))), t - 1)
theorem ct_X1_reckon {d : Nat} {S : am_S} {o t : Nat} {c : Int32} (hF : IsF S o) (ht : t ≤ 40) : am_CT (d + 2) iX1_reckon [.ref o, .int c, .int (nI t)] S (some (.int (nI (fReck (gI S (o + 2)) t c).2))) (rI S (o + 2) (fReck (gI S (o + 2)) t c).1) := by
  refine am_CT_in mmX1_reckon rfl rfl rfl ?_
  obtain ⟨hk, hk1, hk2⟩ := hF
  by_cases h0 : t = 0
  · subst h0
    have e : fReck (gI S (o + 2)) 0 c = (gI S (o + 2), 0) := by simp [fReck]
    rw [e, rI_id]
    refine r_iload_n rfl rfl ?_
    refine r_iconst rfl ?_
    refine r_icmp_lt rfl (fun h2 => ?_) (fun h2 => ?_)
    · refine r_iconst rfl ?_
      refine r_iret rfl rfl ?_
      exact ⟨rfl, rfl⟩
    · exact absurd (by decide) h2
  have n1 : nI t - 1 = nI (t - 1) := by
    conv => lhs; rw [show t = (t - 1) + 1 by omega, nI_succ]
    grind
  have s1 : 0 ≤ nI t - 1 := by rw [n1]; exact nI_pos' (by omega)
  have s2 : nI t - 1 < Int32.ofNat 40 := by rw [n1]; exact nI_lt (by omega) (by omega)
  have e1 : (nI t - 1).toNatClampNeg = t - 1 := by rw [n1, nI_clamp (by omega)]
  have f1 : ¬ nI t < 1 := nI_nlt (b := 1) (by omega) (by omega)
  have f2 : nI t ≤ Int32.ofNat 40 := nI_le ht (by omega)
  by_cases q1 : c = 2110
  · have e : fReck (gI S (o + 2)) t c = (upd (gI S (o + 2)) (t - 1) (-gI S (o + 2) (t - 1)), t) := by
      rw [fReck, if_neg (by omega), if_pos q1]
    rw [e]
    refine r_iload_n rfl rfl ?_
    refine r_iconst rfl ?_
    refine r_icmp_lt rfl (fun h2 => ?_) (fun h2 => ?_)
    · exact absurd h2 f1
    · refine r_iload_n rfl rfl ?_
      refine r_aload_n rfl rfl ?_
      refine r_getO rfl hk (by decide) (by decide) rfl ?_
      refine r_alen rfl hk2 (by decide) ?_
      refine r_icmp_le rfl (fun h11 => ?_) (fun h11 => ?_)
      · refine r_aload_n rfl rfl ?_
        refine r_getO rfl hk (by decide) (by decide) rfl ?_
        refine r_iload_n rfl rfl ?_
        refine r_iconst rfl ?_
        refine r_isub rfl ?_
        refine r_iald rfl hk2 (by first | decide | assumption) (by first | exact s1 | exact s2) (by first | exact s1 | exact s2) ?_
        refine r_istore_n rfl ?_
        refine r_iload_n rfl rfl ?_
        refine r_sipush rfl ?_
        refine r_icmp_ne rfl (fun h29 => ?_) (fun h29 => ?_)
        · exact absurd q1 h29
        · refine r_aload_n rfl rfl ?_
          refine r_getO rfl hk (by decide) (by decide) rfl ?_
          refine r_iload_n rfl rfl ?_
          refine r_iconst rfl ?_
          refine r_isub rfl ?_
          refine r_iload_n rfl rfl ?_
          refine r_ineg rfl ?_
          refine r_iast rfl hk2 (by first | decide | assumption) (by first | exact s1 | exact s2) (by first | exact s1 | exact s2) ?_
          refine r_iload_n rfl rfl ?_
          refine r_iret rfl rfl ?_
          rw [e1, uI_rI]
          exact ⟨rfl, rfl⟩
      · exact absurd f2 h11
  by_cases q2 : c = 2033
  · have e : fReck (gI S (o + 2)) t c = (upd (gI S (o + 2)) (t - 1) (b01 (gI S (o + 2) (t - 1) = 0)), t) := by
      rw [fReck, if_neg (by omega), if_neg q1, if_pos q2]
    rw [e]
    refine r_iload_n rfl rfl ?_
    refine r_iconst rfl ?_
    refine r_icmp_lt rfl (fun h2 => ?_) (fun h2 => ?_)
    · exact absurd h2 f1
    · refine r_iload_n rfl rfl ?_
      refine r_aload_n rfl rfl ?_
      refine r_getO rfl hk (by decide) (by decide) rfl ?_
      refine r_alen rfl hk2 (by decide) ?_
      refine r_icmp_le rfl (fun h11 => ?_) (fun h11 => ?_)
      · refine r_aload_n rfl rfl ?_
        refine r_getO rfl hk (by decide) (by decide) rfl ?_
        refine r_iload_n rfl rfl ?_
        refine r_iconst rfl ?_
        refine r_isub rfl ?_
        refine r_iald rfl hk2 (by first | decide | assumption) (by first | exact s1 | exact s2) (by first | exact s1 | exact s2) ?_
        refine r_istore_n rfl ?_
        refine r_iload_n rfl rfl ?_
        refine r_sipush rfl ?_
        refine r_icmp_ne rfl (fun h29 => ?_) (fun h29 => ?_)
        · refine r_iload_n rfl rfl ?_
          refine r_sipush rfl ?_
          refine r_icmp_ne rfl (fun h48 => ?_) (fun h48 => ?_)
          · exact absurd q2 h48
          · refine r_aload_n rfl rfl ?_
            refine r_getO rfl hk (by decide) (by decide) rfl ?_
            refine r_iload_n rfl rfl ?_
            refine r_iconst rfl ?_
            refine r_isub rfl ?_
            refine r_iload_n rfl rfl ?_
            refine r_if_ne rfl (fun h59 => ?_) (fun h59 => ?_)
            · refine r_iconst rfl ?_
              refine r_iast rfl hk2 (by first | decide | assumption) (by first | exact s1 | exact s2) (by first | exact s1 | exact s2) ?_
              refine r_iload_n rfl rfl ?_
              refine r_iret rfl rfl ?_
              rw [e1] at *
              rw [uI_rI]
              refine ⟨rfl, ?_⟩
              simp only [b01]
              first | rw [if_pos h59] | rw [if_neg h59]
            · refine r_iconst rfl ?_
              refine r_goto rfl ?_
              refine r_iast rfl hk2 (by first | decide | assumption) (by first | exact s1 | exact s2) (by first | exact s1 | exact s2) ?_
              refine r_iload_n rfl rfl ?_
              refine r_iret rfl rfl ?_
              rw [e1] at *
              rw [uI_rI]
              refine ⟨rfl, ?_⟩
              simp only [b01]
              first | rw [if_pos h59] | rw [if_neg h59]
        · exact absurd h29 q1
      · exact absurd f2 h11
  by_cases h1 : t = 1
  · subst h1
    have e : fReck (gI S (o + 2)) 1 c = (gI S (o + 2), 0) := by
      rw [fReck, if_neg (by omega), if_neg q1, if_neg q2, if_pos (by omega)]
    rw [e, rI_id]
    refine r_iload_n rfl rfl ?_
    refine r_iconst rfl ?_
    refine r_icmp_lt rfl (fun h2 => ?_) (fun h2 => ?_)
    · exact absurd h2 f1
    · refine r_iload_n rfl rfl ?_
      refine r_aload_n rfl rfl ?_
      refine r_getO rfl hk (by decide) (by decide) rfl ?_
      refine r_alen rfl hk2 (by decide) ?_
      refine r_icmp_le rfl (fun h11 => ?_) (fun h11 => ?_)
      · refine r_aload_n rfl rfl ?_
        refine r_getO rfl hk (by decide) (by decide) rfl ?_
        refine r_iload_n rfl rfl ?_
        refine r_iconst rfl ?_
        refine r_isub rfl ?_
        refine r_iald rfl hk2 (by first | decide | assumption) (by first | exact s1 | exact s2) (by first | exact s1 | exact s2) ?_
        refine r_istore_n rfl ?_
        refine r_iload_n rfl rfl ?_
        refine r_sipush rfl ?_
        refine r_icmp_ne rfl (fun h29 => ?_) (fun h29 => ?_)
        · refine r_iload_n rfl rfl ?_
          refine r_sipush rfl ?_
          refine r_icmp_ne rfl (fun h48 => ?_) (fun h48 => ?_)
          · refine r_iload_n rfl rfl ?_
            refine r_iconst rfl ?_
            refine r_icmp_ge rfl (fun h72 => ?_) (fun h72 => ?_)
            · exact absurd h72 (by decide)
            · refine r_iconst rfl ?_
              refine r_iret rfl rfl ?_
              exact ⟨rfl, rfl⟩
          · exact absurd h48 q2
        · exact absurd h29 q1
      · exact absurd f2 h11
  have n2 : nI t - 2 = nI (t - 2) := by
    conv => lhs; rw [show t = (t - 2) + 1 + 1 by omega, nI_succ, nI_succ]
    grind
  have s3 : 0 ≤ nI t - 2 := by rw [n2]; exact nI_pos' (by omega)
  have s4 : nI t - 2 < Int32.ofNat 40 := by rw [n2]; exact nI_lt (by omega) (by omega)
  have e2 : (nI t - 2).toNatClampNeg = t - 2 := by rw [n2, nI_clamp (by omega)]
  have f3 : 2 ≤ nI t := nI_le (a := 2) (by omega) (by omega)
  have e : fReck (gI S (o + 2)) t c = (upd (gI S (o + 2)) (t - 2) (fJoin (c - 2000) (gI S (o + 2) (t - 2)) (gI S (o + 2) (t - 1))), t - 1) := by
    rw [fReck, if_neg (by omega), if_neg q1, if_neg q2, if_neg (by omega)]
  rw [e]
  refine r_iload_n rfl rfl ?_
  refine r_iconst rfl ?_
  refine r_icmp_lt rfl (fun h2 => ?_) (fun h2 => ?_)
  · exact absurd h2 f1
  · refine r_iload_n rfl rfl ?_
    refine r_aload_n rfl rfl ?_
    refine r_getO rfl hk (by decide) (by decide) rfl ?_
    refine r_alen rfl hk2 (by decide) ?_
    refine r_icmp_le rfl (fun h11 => ?_) (fun h11 => ?_)
    · refine r_aload_n rfl rfl ?_
      refine r_getO rfl hk (by decide) (by decide) rfl ?_
      refine r_iload_n rfl rfl ?_
      refine r_iconst rfl ?_
      refine r_isub rfl ?_
      refine r_iald rfl hk2 (by first | decide | assumption) (by first | exact s1 | exact s2 | exact s3 | exact s4) (by first | exact s1 | exact s2 | exact s3 | exact s4) ?_
      refine r_istore_n rfl ?_
      refine r_iload_n rfl rfl ?_
      refine r_sipush rfl ?_
      refine r_icmp_ne rfl (fun h29 => ?_) (fun h29 => ?_)
      · refine r_iload_n rfl rfl ?_
        refine r_sipush rfl ?_
        refine r_icmp_ne rfl (fun h48 => ?_) (fun h48 => ?_)
        · refine r_iload_n rfl rfl ?_
          refine r_iconst rfl ?_
          refine r_icmp_ge rfl (fun h72 => ?_) (fun h72 => ?_)
          · refine r_aload_n rfl rfl ?_
            refine r_getO rfl hk (by decide) (by decide) rfl ?_
            refine r_iload_n rfl rfl ?_
            refine r_iconst rfl ?_
            refine r_isub rfl ?_
            refine r_iload_n rfl rfl ?_
            refine r_sipush rfl ?_
            refine r_isub rfl ?_
            refine r_aload_n rfl rfl ?_
            refine r_getO rfl hk (by decide) (by decide) rfl ?_
            refine r_iload_n rfl rfl ?_
            refine r_iconst rfl ?_
            refine r_isub rfl ?_
            refine r_iald rfl hk2 (by first | decide | assumption) (by first | exact s1 | exact s2 | exact s3 | exact s4) (by first | exact s1 | exact s2 | exact s3 | exact s4) ?_
            refine r_iload_n rfl rfl ?_
            refine r_callS rfl (by decide) ct_X1_join rfl rfl (am_cnt rfl) ?_
            refine r_iast rfl hk2 (by first | decide | assumption) (by first | exact s1 | exact s2 | exact s3 | exact s4) (by first | exact s1 | exact s2 | exact s3 | exact s4) ?_
            refine r_iload_n rfl rfl ?_
            refine r_iconst rfl ?_
            refine r_isub rfl ?_
            refine r_iret rfl rfl ?_
            rw [e1, e2, n1, uI_rI]
            exact ⟨rfl, rfl⟩
          · exact absurd f3 h72
        · exact absurd h48 q2
      · exact absurd h29 q1
    · exact absurd f2 h11
theorem fReck_le {g : Nat → Int32} {t : Nat} {c : Int32} (h : t ≤ 40) : (fReck g t c).2 ≤ 40 := by
  unfold fReck
  repeat' split
  all_goals (simp only; omega)
/-- the value of an expression: the stack, how many lie there, behind n codes -/
def fEv (cs sg : Nat → Int32) (w : Nat) (g : Nat → Int32) : Nat → (Nat → Int32) × Nat
  | 0 => (g, 0)
  | n + 1 => if cs n < 2000 then (if (fEv cs sg w g n).2 < 40 then (upd (fEv cs sg w g n).1 (fEv cs sg w g n).2 (fThing sg w (cs n)), (fEv cs sg w g n).2 + 1) else fEv cs sg w g n) else fReck (fEv cs sg w g n).1 (fEv cs sg w g n).2 (cs n)
theorem fEv_le (cs sg : Nat → Int32) (w : Nat) (g : Nat → Int32) : ∀ n, (fEv cs sg w g n).2 ≤ 40
  | 0 => by simp [fEv]
  | n + 1 => by
    have h := fEv_le cs sg w g n
    unfold fEv
    split
    · split
      · simp only; omega
      · exact h
    · exact fReck_le h
def fVal (cs sg : Nat → Int32) (w : Nat) (g : Nat → Int32) (n : Nat) : Int32 := if (fEv cs sg w g n).2 = 1 then (fEv cs sg w g n).1 0 else 0
theorem ct_X1_value {d : Nat} {S : am_S} {o q n w : Nat} (hF : IsF S o) (hn : gI S o 1 = nI n) (hb : n ≤ 40) (hq : am_kn (gR S 0) q = (20, w)) (hw : w < 2147483648) (hne : q ≠ o + 2) : am_CT (d + 3) iX1_value [.ref o, .ref q] S (some (.int (fVal (gI S (o + 1)) (gI S q) w (gI S (o + 2)) n))) (rI S (o + 2) (fEv (gI S (o + 1)) (gI S q) w (gI S (o + 2)) n).1) := by
  refine am_CT_in mmX1_value rfl rfl rfl ?_
  have hF2 := hF
  obtain ⟨hk, hk1, hk2⟩ := hF
  have loop : ∀ (k : Nat) (j : Nat) (g : Nat → Int32) (t : Nat) (v4 : Option Value), (j ≤ n) → (n < j + k) → ((g, t) = fEv (gI S (o + 1)) (gI S q) w (gI S (o + 2)) j) → am_Ex (am_Call am_MT (d + 2)) mmX1_value none (fun r1 G1 => r1 = (some (.int (fVal (gI S (o + 1)) (gI S q) w (gI S (o + 2)) n))) ∧ G1 = am_H (rI S (o + 2) (fEv (gI S (o + 1)) (gI S q) w (gI S (o + 2)) n).1)) (fun _ _ _ _ _ _ => False) 4 [some (.ref o), some (.ref q), some (.int (nI t)), some (.int (nI j)), v4] [] (am_H (rI S (o + 2) g)) 0 0 := by
    intro k
    induction k with
    | zero =>
      intro j g t v4 h1 h2 h3
      omega
    | succ k ih =>
      intro j g t v4 h1 h2 h3
      have hg : g = (fEv (gI S (o + 1)) (gI S q) w (gI S (o + 2)) j).1 := congrArg Prod.fst h3
      have ht : t = (fEv (gI S (o + 1)) (gI S q) w (gI S (o + 2)) j).2 := congrArg Prod.snd h3
      have htl : t ≤ 40 := by rw [ht]; exact fEv_le _ _ _ _ _
      have a1 : gI (rI S (o + 2) g) o 1 = nI n := by rw [gI_rI_ne (by omega), hn]
      have a2 : gI (rI S (o + 2) g) (o + 1) = gI S (o + 1) := gI_rI_ne (by omega)
      have a3 : gI (rI S (o + 2) g) q = gI S q := gI_rI_ne hne
      have a4 : gI (rI S (o + 2) g) (o + 2) = g := gI_rI_eq
      have s1 : 0 ≤ nI j := nI_pos' (by omega)
      have s2 : nI j < Int32.ofNat 40 ↔ j < 40 := nI_ltI (b := 40) (by omega) (by omega)
      have s3 : 0 ≤ nI t := nI_pos' (by omega)
      have s4 : nI t < Int32.ofNat 40 ↔ t < 40 := nI_ltI (b := 40) (by omega) (by omega)
      have e1 : (nI j).toNatClampNeg = j := nI_clamp (by omega)
      have e2 : (nI t).toNatClampNeg = t := nI_clamp (by omega)
      have fin : j = n → am_H (rI S (o + 2) g) = am_H (rI S (o + 2) (fEv (gI S (o + 1)) (gI S q) w (gI S (o + 2)) n).1) := fun z => by rw [hg, z]
      have finv : j = n → fVal (gI S (o + 1)) (gI S q) w (gI S (o + 2)) n = if t = 1 then g 0 else 0 := fun z => by rw [fVal, ht, hg, z]
      refine r_iload_n rfl rfl ?_
      refine r_aload_n rfl rfl ?_
      refine r_getI rfl hk (by decide) (by decide) rfl ?_
      refine r_icmp_ge rfl (fun h9 => ?_) (fun h9 => ?_)
      · rw [a1, nI_leI (by omega) (by omega)] at h9
        obtain rfl : j = n := by omega
        refine r_iload_n rfl rfl ?_
        refine r_iconst rfl ?_
        refine r_icmp_ne rfl (fun h81 => ?_) (fun h81 => ?_)
        · have h81b : ¬ t = 1 := fun z => h81 (by rw [z]; rfl)
          refine r_iconst rfl ?_
          refine r_iret rfl rfl ?_
          first | exact ⟨by rw [finv rfl, if_pos h81b, a4]; rfl, fin rfl⟩ | exact ⟨by rw [finv rfl, if_neg h81b], fin rfl⟩
        · have h81b : t = 1 := (nI_eq (b := 1) (by omega) (by omega)).mp h81
          refine r_aload_n rfl rfl ?_
          refine r_getO rfl hk (by decide) (by decide) rfl ?_
          refine r_iconst rfl ?_
          refine r_iald rfl hk2 (by first | decide | assumption) (by first | exact s1 | exact s3 | exact s2.mpr (by omega) | exact s4.mpr (by omega) | decide) (by first | exact s1 | exact s3 | exact s2.mpr (by omega) | exact s4.mpr (by omega) | decide) ?_
          refine r_goto rfl ?_
          refine r_iret rfl rfl ?_
          first | exact ⟨by rw [finv rfl, if_pos h81b, a4]; rfl, fin rfl⟩ | exact ⟨by rw [finv rfl, if_neg h81b], fin rfl⟩
      · rw [a1, nI_leI (by omega) (by omega)] at h9
        refine r_iload_n rfl rfl ?_
        refine r_aload_n rfl rfl ?_
        refine r_getO rfl hk (by decide) (by decide) rfl ?_
        refine r_alen rfl hk1 (by decide) ?_
        refine r_icmp_ge rfl (fun h18 => ?_) (fun h18 => ?_)
        · exact absurd (s2.mpr (by omega)) (Int32.not_lt.mpr h18)
        · refine r_aload_n rfl rfl ?_
          refine r_getO rfl hk (by decide) (by decide) rfl ?_
          refine r_iload_n rfl rfl ?_
          refine r_iald rfl hk1 (by first | decide | assumption) (by first | exact s1 | exact s3 | exact s2.mpr (by omega) | exact s4.mpr (by omega) | decide) (by first | exact s1 | exact s3 | exact s2.mpr (by omega) | exact s4.mpr (by omega) | decide) ?_
          refine r_istore rfl ?_
          rw [a2, e1]
          refine r_iload rfl rfl ?_
          refine r_sipush rfl ?_
          refine r_icmp_lt rfl (fun h34 => ?_) (fun h34 => ?_)
          · refine r_iload_n rfl rfl ?_
            refine r_aload_n rfl rfl ?_
            refine r_getO rfl hk (by decide) (by decide) rfl ?_
            refine r_alen rfl hk2 (by decide) ?_
            refine r_icmp_ge rfl (fun h54 => ?_) (fun h54 => ?_)
            · have h54b : ¬ t < 40 := fun z => Int32.not_lt.mpr h54 (s4.mpr z)
              refine r_iinc rfl rfl ?_
              refine r_goto rfl ?_
              first
                | (rw [rI_rI, a4, nI_1]; exact ih (j + 1) _ _ _ (by omega) (by omega) (by rw [fEv, ← h3]; simp only; rw [if_neg h34]))
                | (rw [e2, uI_rIs, a3, nI_1, nI_1]; exact ih (j + 1) _ _ _ (by omega) (by omega) (by rw [fEv, ← h3]; simp only; rw [if_pos h34, if_pos h54b]))
                | (rw [nI_1]; exact ih (j + 1) _ _ _ (by omega) (by omega) (by rw [fEv, ← h3]; simp only; rw [if_pos h34, if_neg h54b]))
            · have h54b : t < 40 := s4.mp (Int32.not_le.mp h54)
              refine r_aload_n rfl rfl ?_
              refine r_getO rfl hk (by decide) (by decide) rfl ?_
              refine r_iload_n rfl rfl ?_
              refine r_aload_n rfl rfl ?_
              refine r_iload rfl rfl ?_
              refine r_aload_n rfl rfl ?_
              refine r_callV rfl (ct_X1_thing (S := rI S (o + 2) g) hq hw) rfl rfl hk (by decide) rfl (am_cnt rfl) ?_
              refine r_iast rfl hk2 (by first | decide | assumption) (by first | exact s1 | exact s3 | exact s2.mpr (by omega) | exact s4.mpr (by omega) | decide) (by first | exact s1 | exact s3 | exact s2.mpr (by omega) | exact s4.mpr (by omega) | decide) ?_
              refine r_iinc rfl rfl ?_
              refine r_iinc rfl rfl ?_
              refine r_goto rfl ?_
              first
                | (rw [rI_rI, a4, nI_1]; exact ih (j + 1) _ _ _ (by omega) (by omega) (by rw [fEv, ← h3]; simp only; rw [if_neg h34]))
                | (rw [e2, uI_rIs, a3, nI_1, nI_1]; exact ih (j + 1) _ _ _ (by omega) (by omega) (by rw [fEv, ← h3]; simp only; rw [if_pos h34, if_pos h54b]))
                | (rw [nI_1]; exact ih (j + 1) _ _ _ (by omega) (by omega) (by rw [fEv, ← h3]; simp only; rw [if_pos h34, if_neg h54b]))
          · refine r_aload_n rfl rfl ?_
            refine r_iload rfl rfl ?_
            refine r_iload_n rfl rfl ?_
            refine r_callV rfl (ct_X1_reckon (S := rI S (o + 2) g) hF2 htl) rfl rfl hk (by decide) rfl (am_cnt rfl) ?_
            refine r_istore_n rfl ?_
            refine r_goto rfl ?_
            refine r_iinc rfl rfl ?_
            refine r_goto rfl ?_
            first
              | (rw [rI_rI, a4, nI_1]; exact ih (j + 1) _ _ _ (by omega) (by omega) (by rw [fEv, ← h3]; simp only; rw [if_neg h34]))
              | (rw [e2, uI_rIs, a3, nI_1, nI_1]; exact ih (j + 1) _ _ _ (by omega) (by omega) (by rw [fEv, ← h3]; simp only; rw [if_pos h34, if_pos h54b]))
              | (rw [nI_1]; exact ih (j + 1) _ _ _ (by omega) (by omega) (by rw [fEv, ← h3]; simp only; rw [if_pos h34, if_neg h54b]))
  refine r_iconst rfl ?_
  refine r_istore_n rfl ?_
  refine r_iconst rfl ?_
  refine r_istore_n rfl ?_
  have e := loop (n + 1) 0 (gI S (o + 2)) 0 none (by omega) (by omega) rfl
  rw [rI_id] at e
  exact e
end
section
/-! Pulls of a part: cell 84, its numbers 85. -/
def pulG (late : Nat) (k x : Int32) (g : Nat → Int32) : Nat → Nat → Int32
  | 0 => upd g 0 x
  | m + 1 => upd (pulG late k x g m) (m + 1) (fPut (pulG late k x g m m - k * (if m < late then x else pulG late k x g m (m - late)) / 10) 99999)
theorem ct_X6_swing {d : Nat} {S : am_S} {lt n : Nat} {kk x : Int32} (hl : lt ≤ 20) (hn : n ≤ 199) : am_CT (d + 2) iX6_swing [.ref 84, .int (nI lt), .int kk, .int x, .int (nI n)] S (none) (rI (uI S 84 1 (nI n)) 85 (pulG lt kk x (gI S 85) n)) := by
  refine am_CT_in mmX6_swing rfl rfl rfl ?_
  have loop : ∀ (k : Nat) (j : Nat) (v6 : Option Value) (v7 : Option Value), (j ≤ n) → (n < j + k) → am_Ex (am_Call am_MT (d + 1)) mmX6_swing none (fun r1 G1 => r1 = (none) ∧ G1 = am_H (rI (uI S 84 1 (nI n)) 85 (pulG lt kk x (gI S 85) n))) (fun _ _ _ _ _ _ => False) 39 [some (.ref 84), some (.int (nI lt)), some (.int kk), some (.int x), some (.int (nI n)), some (.int (nI j)), v6, v7] [] (am_H (rI (uI S 84 1 (nI n)) 85 (pulG lt kk x (gI S 85) j))) 0 0 := by
    intro k
    induction k with
    | zero =>
      intro j v6 v7 h1 h2
      omega
    | succ k ih =>
      intro j v6 v7 h1 h2
      have a1 : gI (rI (uI S 84 1 (nI n)) 85 (pulG lt kk x (gI S 85) j)) 84 1 = nI n := by rw [gI_rI_ne (by decide), gI_uI, if_pos rfl, if_pos rfl]
      have a2 : gI (rI (uI S 84 1 (nI n)) 85 (pulG lt kk x (gI S 85) j)) 85 = pulG lt kk x (gI S 85) j := gI_rI_eq
      have b1 : (nI j).toNatClampNeg = j := nI_clamp (by omega)
      have b2 : (nI j + 1).toNatClampNeg = j + 1 := by rw [nI_1, nI_clamp (by omega)]
      have s1 : 0 ≤ nI j := nI_pos' (by omega)
      have s2 : nI j < Int32.ofNat 200 := nI_lt (by omega) (by omega)
      have s3 : 0 ≤ nI j + 1 := by rw [nI_1]; exact nI_pos' (by omega)
      by_cases hjl : j < lt
      · have q1 : nI j - nI lt < 0 := pk_sneg (by omega) hjl
        refine r_iload rfl rfl ?_
        refine r_aload_n rfl rfl ?_
        refine r_getI rfl rfl (by decide) (by decide) rfl ?_
        refine r_icmp_ge rfl (fun h45 => ?_) (fun h45 => ?_)
        · rw [a1, nI_leI (by omega) (by omega)] at h45
          obtain rfl : j = n := by omega
          refine r_vret rfl ?_
          exact ⟨rfl, rfl⟩
        · rw [a1, nI_leI (by omega) (by omega)] at h45
          have s4 : nI j + 1 < Int32.ofNat 200 := by rw [nI_1]; exact nI_lt (by omega) (by omega)
          refine r_iload rfl rfl ?_
          refine r_iload_n rfl rfl ?_
          refine r_isub rfl ?_
          refine r_istore rfl ?_
          refine r_iload rfl rfl ?_
          refine r_if_lt rfl (fun h56 => ?_) (fun h56 => ?_)
          · refine r_iload_n rfl rfl ?_
            refine r_goto rfl ?_
            refine r_istore rfl ?_
            refine r_aload_n rfl rfl ?_
            refine r_getC rfl rfl (by decide) (by decide) rfl ?_
            refine r_iload rfl rfl ?_
            refine r_iconst rfl ?_
            refine r_iadd rfl ?_
            refine r_aload_n rfl rfl ?_
            refine r_getC rfl rfl (by decide) (by decide) rfl ?_
            refine r_iload rfl rfl ?_
            refine r_iald rfl rfl (by first | decide | assumption) (by first | exact s1 | exact s2 | exact s3 | exact s4) (by first | exact s1 | exact s2 | exact s3 | exact s4) ?_
            refine r_iload_n rfl rfl ?_
            refine r_iload rfl rfl ?_
            refine r_imul rfl ?_
            refine r_bipush rfl ?_
            refine r_idiv rfl (by decide) ?_
            refine r_isub rfl ?_
            refine r_ldc rfl ?_
            refine r_callS rfl (by decide) ct_X10_putTo rfl rfl (am_cnt rfl) ?_
            refine r_iast rfl rfl (by first | decide | assumption) (by first | exact s1 | exact s2 | exact s3 | exact s4) (by first | exact s1 | exact s2 | exact s3 | exact s4) ?_
            refine r_iinc rfl rfl ?_
            refine r_goto rfl ?_
            rw [b1, b2, a2, uI_rIs, nI_1]
            have e := ih (j + 1) (some (.int (nI j - nI lt))) (some (.int x)) (by omega) (by omega)
            rw [pulG, if_pos hjl] at e
            exact e
          · exact absurd q1 h56
      · have q1 : nI j - nI lt = nI (j - lt) := pk_sub (by omega)
        have s5 : 0 ≤ nI j - nI lt := by rw [q1]; exact nI_pos' (by omega)
        have s6 : nI j - nI lt < Int32.ofNat 200 := by rw [q1]; exact nI_lt (by omega) (by omega)
        have s7 : nI j - nI lt ≤ nI j := by rw [q1]; exact nI_le (by omega) (by omega)
        have b3 : (nI j - nI lt).toNatClampNeg = j - lt := by rw [q1, nI_clamp (by omega)]
        refine r_iload rfl rfl ?_
        refine r_aload_n rfl rfl ?_
        refine r_getI rfl rfl (by decide) (by decide) rfl ?_
        refine r_icmp_ge rfl (fun h45 => ?_) (fun h45 => ?_)
        · rw [a1, nI_leI (by omega) (by omega)] at h45
          obtain rfl : j = n := by omega
          refine r_vret rfl ?_
          exact ⟨rfl, rfl⟩
        · rw [a1, nI_leI (by omega) (by omega)] at h45
          have s4 : nI j + 1 < Int32.ofNat 200 := by rw [nI_1]; exact nI_lt (by omega) (by omega)
          refine r_iload rfl rfl ?_
          refine r_iload_n rfl rfl ?_
          refine r_isub rfl ?_
          refine r_istore rfl ?_
          refine r_iload rfl rfl ?_
          refine r_if_lt rfl (fun h56 => ?_) (fun h56 => ?_)
          · exact absurd s5 (Int32.not_le.mpr h56)
          · refine r_iload rfl rfl ?_
            refine r_iload rfl rfl ?_
            refine r_icmp_le rfl (fun h63 => ?_) (fun h63 => ?_)
            · refine r_aload_n rfl rfl ?_
              refine r_getC rfl rfl (by decide) (by decide) rfl ?_
              refine r_iload rfl rfl ?_
              refine r_iald rfl rfl (by first | decide | assumption) (by first | exact s1 | exact s2 | exact s3 | exact s4 | exact s5 | exact s6) (by first | exact s1 | exact s2 | exact s3 | exact s4 | exact s5 | exact s6) ?_
              refine r_istore rfl ?_
              refine r_aload_n rfl rfl ?_
              refine r_getC rfl rfl (by decide) (by decide) rfl ?_
              refine r_iload rfl rfl ?_
              refine r_iconst rfl ?_
              refine r_iadd rfl ?_
              refine r_aload_n rfl rfl ?_
              refine r_getC rfl rfl (by decide) (by decide) rfl ?_
              refine r_iload rfl rfl ?_
              refine r_iald rfl rfl (by first | decide | assumption) (by first | exact s1 | exact s2 | exact s3 | exact s4 | exact s5 | exact s6) (by first | exact s1 | exact s2 | exact s3 | exact s4 | exact s5 | exact s6) ?_
              refine r_iload_n rfl rfl ?_
              refine r_iload rfl rfl ?_
              refine r_imul rfl ?_
              refine r_bipush rfl ?_
              refine r_idiv rfl (by decide) ?_
              refine r_isub rfl ?_
              refine r_ldc rfl ?_
              refine r_callS rfl (by decide) ct_X10_putTo rfl rfl (am_cnt rfl) ?_
              refine r_iast rfl rfl (by first | decide | assumption) (by first | exact s1 | exact s2 | exact s3 | exact s4 | exact s5 | exact s6) (by first | exact s1 | exact s2 | exact s3 | exact s4 | exact s5 | exact s6) ?_
              refine r_iinc rfl rfl ?_
              refine r_goto rfl ?_
              rw [b1, b2, b3, a2, uI_rIs, nI_1]
              have e := ih (j + 1) (some (.int (nI j - nI lt))) (some (.int (pulG lt kk x (gI S 85) j (j - lt)))) (by omega) (by omega)
              rw [pulG, if_neg hjl] at e
              exact e
            · exact absurd s7 h63
  have f1 : ¬ nI n < 0 := nI_pos (by omega)
  have f2 : nI n ≤ 199 := nI_le (b := 199) hn (by omega)
  refine r_aload_n rfl rfl ?_
  refine r_iload rfl rfl ?_
  refine r_if_ge rfl (fun h3 => ?_) (fun h3 => ?_)
  · refine r_iload rfl rfl ?_
    refine r_sipush rfl ?_
    refine r_icmp_le rfl (fun h15 => ?_) (fun h15 => ?_)
    · refine r_iload rfl rfl ?_
      refine r_putI rfl rfl (by decide) (by decide) rfl ?_
      refine r_aload_n rfl rfl ?_
      refine r_getC rfl rfl (by decide) (by decide) rfl ?_
      refine r_iconst rfl ?_
      refine r_iload_n rfl rfl ?_
      refine r_iast rfl rfl (by first | decide | assumption) (by decide) (by decide) ?_
      refine r_iconst rfl ?_
      refine r_istore rfl ?_
      have e := loop (n + 1) 0 none none (by omega) (by omega)
      rw [pulG] at e
      rw [uI_rI (uI S 84 1 (nI n)) 85, gI_uI_ne (by decide)]
      exact e
    · exact absurd f2 h15
  · exact absurd (Int32.not_le.mp h3) f1
theorem ct_X6_widest {d : Nat} {S : am_S} {f t ls : Nat} (hls : gI S 84 1 = nI ls) (hlb : ls ≤ 199) (hf : f ≤ 200) (ht : t ≤ ls) : am_CT (d + 1) iX6_widest [.ref 84, .int (nI f), .int (nI t)] S (some (.int (topI (fun j => absI (gI S 85 j)) f (t + 1 - f)))) (S) := by
  refine am_CT_in mmX6_widest rfl rfl rfl ?_
  have loop : ∀ (k : Nat) (j : Nat), (f + j ≤ t + 1 ∨ j = 0) → (t + 1 < j + k) → am_Ex (am_Call am_MT (d + 0)) mmX6_widest none (fun r1 G1 => r1 = (some (.int (topI (fun j => absI (gI S 85 j)) f (t + 1 - f)))) ∧ G1 = am_H (S)) (fun _ _ _ _ _ _ => False) 9 [some (.ref 84), some (.int (nI f)), some (.int (nI t)), some (.int (topI (fun j => absI (gI S 85 j)) f j)), some (.int (nI (f + j)))] [] (am_H (S)) 0 0 := by
    intro k
    induction k with
    | zero =>
      intro j h1 h2
      omega
    | succ k ih =>
      intro j h1 h2
      have s1 : 0 ≤ nI (f + j) := nI_pos' (by omega)
      have b1 : (nI (f + j)).toNatClampNeg = f + j := nI_clamp (by omega)
      refine r_iload rfl rfl ?_
      refine r_iload_n rfl rfl ?_
      refine r_icmp_gt rfl (fun h12 => ?_) (fun h12 => ?_)
      · rw [nI_ltI (by omega) (by omega)] at h12
        obtain rfl : j = t + 1 - f := by omega
        refine r_iload_n rfl rfl ?_
        refine r_iret rfl rfl ?_
        exact ⟨rfl, rfl⟩
      · rw [nI_ltI (by omega) (by omega)] at h12
        have s2 : nI (f + j) < Int32.ofNat 200 := nI_lt (by omega) (by omega)
        refine r_iload rfl rfl ?_
        refine r_aload_n rfl rfl ?_
        refine r_getI rfl rfl (by decide) (by decide) rfl ?_
        refine r_icmp_gt rfl (fun h21 => ?_) (fun h21 => ?_)
        · rw [hls, nI_ltI (by omega) (by omega)] at h21
          omega
        · refine r_iload_n rfl rfl ?_
          refine r_aload_n rfl rfl ?_
          refine r_getC rfl rfl (by decide) (by decide) rfl ?_
          refine r_iload rfl rfl ?_
          refine r_iald rfl rfl (by first | decide | assumption) (by first | exact s1 | exact s2) (by first | exact s1 | exact s2) ?_
          refine r_abs rfl (am_cnt rfl) ?_
          refine r_max rfl (am_cnt rfl) ?_
          refine r_istore_n rfl ?_
          refine r_iinc rfl rfl ?_
          refine r_goto rfl ?_
          rw [b1, nI_1]
          exact ih (j + 1) (by omega) (by omega)
  have e0 : (if nI f < 0 then (0 : Int32) else nI f) = nI f := if_neg (nI_pos (by omega))
  refine r_iconst rfl ?_
  refine r_istore_n rfl ?_
  refine r_iload_n rfl rfl ?_
  refine r_iconst rfl ?_
  refine r_max rfl (am_cnt rfl) ?_
  refine r_istore rfl ?_
  rw [e0]
  exact loop (t + 2) 0 (Or.inr rfl) (by omega)
theorem ct_X6_turns {d : Nat} {S : am_S} {ls : Nat} (hls : gI S 84 1 = nI ls) (hlb : ls ≤ 199) : am_CT (d + 2) iX6_turns [.ref 84] S (some (.int (turnI (fun m => gI S 85 m) (ls + 1)).1)) (S) := by
  refine am_CT_in mmX6_turns rfl rfl rfl ?_
  have loop : ∀ (k : Nat) (j : Nat) (n : Int32) (sd : Int32) (v5 : Option Value), (j ≤ ls + 1) → (ls + 1 < j + k) → ((n, sd) = turnI (fun m => gI S 85 m) j) → am_Ex (am_Call am_MT (d + 1)) mmX6_turns none (fun r1 G1 => r1 = (some (.int (turnI (fun m => gI S 85 m) (ls + 1)).1)) ∧ G1 = am_H (S)) (fun _ _ _ _ _ _ => False) 6 [some (.ref 84), some (.int n), some (.int sd), some (.int (nI j)), v5] [] (am_H (S)) 0 0 := by
    intro k
    induction k with
    | zero =>
      intro j n sd v5 h1 h2 h3
      omega
    | succ k ih =>
      intro j n sd v5 h1 h2 h3
      have s1 : 0 ≤ nI j := nI_pos' (by omega)
      have b1 : (nI j).toNatClampNeg = j := nI_clamp (by omega)
      refine r_iload_n rfl rfl ?_
      refine r_aload_n rfl rfl ?_
      refine r_getI rfl rfl (by decide) (by decide) rfl ?_
      refine r_icmp_gt rfl (fun h11 => ?_) (fun h11 => ?_)
      · rw [hls, nI_ltI (by omega) (by omega)] at h11
        obtain rfl : j = ls + 1 := by omega
        rw [show n = _ from congrArg Prod.fst h3]
        refine r_iload_n rfl rfl ?_
        refine r_iret rfl rfl ?_
        exact ⟨rfl, rfl⟩
      · rw [hls, nI_ltI (by omega) (by omega)] at h11
        have s2 : nI j < Int32.ofNat 200 := nI_lt (by omega) (by omega)
        refine r_aload_n rfl rfl ?_
        refine r_getC rfl rfl (by decide) (by decide) rfl ?_
        refine r_iload_n rfl rfl ?_
        refine r_iald rfl rfl (by first | decide | assumption) (by first | exact s1 | exact s2) (by first | exact s1 | exact s2) ?_
        refine r_callS rfl (by decide) ct_J6_signum_0f7a4 rfl rfl (am_cnt rfl) ?_
        refine r_istore rfl ?_
        refine r_iload_n rfl rfl ?_
        refine r_iload rfl rfl ?_
        refine r_iload_n rfl rfl ?_
        refine r_imul rfl ?_
        refine r_if_ge rfl (fun h30 => ?_) (fun h30 => ?_)
        · refine r_iconst rfl ?_
          refine r_iadd rfl ?_
          refine r_istore_n rfl ?_
          refine r_iload rfl rfl ?_
          refine r_if_ne rfl (fun h42 => ?_) (fun h42 => ?_)
          · refine r_iload rfl rfl ?_
            refine r_istore_n rfl ?_
            refine r_iinc rfl rfl ?_
            refine r_goto rfl ?_
            rw [b1] at h30 h42
            rw [b1, nI_1]
            exact ih (j + 1) _ _ _ (by omega) (by omega) (by rw [turnI, ← h3]; simp only; grind)
          · refine r_iload_n rfl rfl ?_
            refine r_goto rfl ?_
            refine r_istore_n rfl ?_
            refine r_iinc rfl rfl ?_
            refine r_goto rfl ?_
            rw [b1] at h30 h42
            rw [b1, nI_1]
            exact ih (j + 1) _ _ _ (by omega) (by omega) (by rw [turnI, ← h3]; simp only; grind)
        · refine r_iconst rfl ?_
          refine r_goto rfl ?_
          refine r_iadd rfl ?_
          refine r_istore_n rfl ?_
          refine r_iload rfl rfl ?_
          refine r_if_ne rfl (fun h42 => ?_) (fun h42 => ?_)
          · refine r_iload rfl rfl ?_
            refine r_istore_n rfl ?_
            refine r_iinc rfl rfl ?_
            refine r_goto rfl ?_
            rw [b1] at h30 h42
            rw [b1, nI_1]
            exact ih (j + 1) _ _ _ (by omega) (by omega) (by rw [turnI, ← h3]; simp only; grind)
          · refine r_iload_n rfl rfl ?_
            refine r_goto rfl ?_
            refine r_istore_n rfl ?_
            refine r_iinc rfl rfl ?_
            refine r_goto rfl ?_
            rw [b1] at h30 h42
            rw [b1, nI_1]
            exact ih (j + 1) _ _ _ (by omega) (by omega) (by rw [turnI, ← h3]; simp only; grind)
  refine r_iconst rfl ?_
  refine r_istore_n rfl ?_
  refine r_iconst rfl ?_
  refine r_istore_n rfl ?_
  refine r_iconst rfl ?_
  refine r_istore_n rfl ?_
  exact loop (ls + 2) 0 _ _ none (by omega) (by omega) rfl
theorem ct_X6_calmFrom {d : Nat} {S : am_S} {ls : Nat} (hls : gI S 84 1 = nI ls) (hlb : ls ≤ 199) : am_CT (d + 1) iX6_calmFrom [.ref 84] S (some (.int (setI (fun m => ¬ 1 < absI (gI S 85 m)) ls))) (S) := by
  refine am_CT_in mmX6_calmFrom rfl rfl rfl ?_
  have loop : ∀ (k : Nat) (j : Nat), (j ≤ ls + 1) → (ls + 1 < j + k) → (∀ i, ls + 1 - j ≤ i → i < ls + 1 → ¬ 1 < absI (gI S 85 i)) → am_Ex (am_Call am_MT (d + 0)) mmX6_calmFrom none (fun r1 G1 => r1 = (some (.int (setI (fun m => ¬ 1 < absI (gI S 85 m)) ls))) ∧ G1 = am_H (S)) (fun _ _ _ _ _ _ => False) 7 [some (.ref 84), some (.int (if j = 0 then -1 else nI (ls + 1 - j))), some (.int (nI (ls + 1 - j) + (-1)))] [] (am_H (S)) 0 0 := by
    intro k
    induction k with
    | zero =>
      intro j h1 h2 h3
      omega
    | succ k ih =>
      intro j h1 h2 h3
      have hz : ∀ jj, jj = j → (jj = ls + 1 ∨ ¬ ¬ 1 < absI (gI S 85 (ls + 1 - jj - 1))) → (if j = 0 then (-1 : Int32) else nI (ls + 1 - j)) = setI (fun m => ¬ 1 < absI (gI S 85 m)) ls := by
        intro jj hj hz
        subst hj
        rw [setI, trun_all (fun m => ¬ 1 < absI (gI S 85 m)) jj (ls + 1) h1 h3 hz]
      by_cases hjn : j = ls + 1
      · subst hjn
        refine r_iload_n rfl rfl ?_
        refine r_if_lt rfl (fun h8 => ?_) (fun h8 => ?_)
        · rw [hz (ls + 1) rfl (Or.inl rfl)]
          refine r_iload_n rfl rfl ?_
          refine r_iret rfl rfl ?_
          exact ⟨rfl, rfl⟩
        · rw [Nat.sub_self] at h8
          exact absurd (by decide) h8
      · rw [nI_m1 (by omega)]
        have e1 : ls + 1 - j - 1 = ls - j := by omega
        rw [e1]
        have s1 : 0 ≤ nI (ls - j) := nI_pos' (by omega)
        have s2 : nI (ls - j) < Int32.ofNat 200 := nI_lt (by omega) (by omega)
        have b1 : (nI (ls - j)).toNatClampNeg = ls - j := nI_clamp (by omega)
        refine r_iload_n rfl rfl ?_
        refine r_if_lt rfl (fun h8 => ?_) (fun h8 => ?_)
        · exact absurd h8 (nI_neg (by omega))
        · refine r_aload_n rfl rfl ?_
          refine r_getC rfl rfl (by decide) (by decide) rfl ?_
          refine r_iload_n rfl rfl ?_
          refine r_iald rfl rfl (by first | decide | assumption) (by first | exact s1 | exact s2) (by first | exact s1 | exact s2) ?_
          refine r_abs rfl (am_cnt rfl) ?_
          refine r_iconst rfl ?_
          refine r_icmp_gt rfl (fun h21 => ?_) (fun h21 => ?_)
          · rw [b1] at h21
            rw [hz j rfl (Or.inr (by rw [e1]; exact fun z => z h21))]
            refine r_iload_n rfl rfl ?_
            refine r_iret rfl rfl ?_
            exact ⟨rfl, rfl⟩
          · rw [b1] at h21
            refine r_iload_n rfl rfl ?_
            refine r_istore_n rfl ?_
            refine r_iinc rfl rfl ?_
            refine r_goto rfl ?_
            have e2 := ih (j + 1) (by omega) (by omega) (fun i a b => by
              by_cases hi : i = ls - j
              · rw [hi]; exact h21
              · exact h3 i (by omega) b)
            rw [if_neg (by omega), show ls + 1 - (j + 1) = ls - j by omega] at e2
            exact e2
  refine r_iconst rfl ?_
  refine r_istore_n rfl ?_
  refine r_aload_n rfl rfl ?_
  refine r_getI rfl rfl (by decide) (by decide) rfl ?_
  refine r_istore_n rfl ?_
  rw [hls]
  have e2 := loop (ls + 2) 0 (by omega) (by omega) (fun i a b => by omega)
  rw [if_pos rfl, nI_m1 (by omega)] at e2
  exact e2
end
section
/-! The yard: cell 1; statics of the class. -/
def pow10 : Nat → Int64
  | 0 => 1
  | n + 1 => pow10 n * 10
theorem ct_X10_powerOfTen {d : Nat} {S : am_S} {n : Nat} (hn : n < 2147483647) : am_CT (d + 1) iX10_powerOfTen [.int (nI n)] S (some (.long (pow10 n))) (S) := by
  refine am_CT_in mmX10_powerOfTen rfl rfl rfl ?_
  have loop : ∀ (k : Nat) (j : Nat), (j ≤ n) → (n < j + k) → am_Ex (am_Call am_MT (d + 0)) mmX10_powerOfTen none (fun r1 G1 => r1 = (some (.long (pow10 n))) ∧ G1 = am_H (S)) (fun _ _ _ _ _ _ => False) 4 [some (.int (nI n)), some (.long (pow10 j)), none, some (.int (nI j))] [] (am_H (S)) 0 0 := by
    intro k
    induction k with
    | zero =>
      intro j h1 h2
      omega
    | succ k ih =>
      intro j h1 h2
      refine r_iload_n rfl rfl ?_
      refine r_iload_n rfl rfl ?_
      refine r_icmp_ge rfl (fun h6 => ?_) (fun h6 => ?_)
      · rw [nI_leI (by omega) (by omega)] at h6
        obtain rfl : j = n := by omega
        refine r_lload_n rfl rfl ?_
        refine r_lret rfl ?_
        exact ⟨rfl, rfl⟩
      · rw [nI_leI (by omega) (by omega)] at h6
        refine r_lload_n rfl rfl ?_
        refine r_ldc2_w rfl ?_
        refine r_lmul rfl ?_
        refine r_lstore_n rfl ?_
        refine r_iinc rfl rfl ?_
        refine r_goto rfl ?_
        rw [nI_1]
        exact ih (j + 1) (by omega) (by omega)
  refine r_lconst rfl ?_
  refine r_lstore_n rfl ?_
  refine r_iconst rfl ?_
  refine r_istore_n rfl ?_
  exact loop (n + 1) 0 (by omega) (by omega)
def fEntry (k v : Int32) : Int32 := if (if k = 0 then v.toInt8.toInt32 else if k = 1 then v.toInt16.toInt32 else v) < 0 then 0 else if 20 < (if k = 0 then v.toInt8.toInt32 else if k = 1 then v.toInt16.toInt32 else v) then 20 else (if k = 0 then v.toInt8.toInt32 else if k = 1 then v.toInt16.toInt32 else v)
theorem ct_X10_sheetEntry {d : Nat} {S : am_S} {kd v : Int32} : am_CT (d + 1) iX10_sheetEntry [.int kd, .int v] S (some (.int (fEntry kd v))) (S) := by
  refine am_CT_in mmX10_sheetEntry rfl rfl rfl ?_
  refine r_iload_n rfl rfl ?_
  refine r_istore_n rfl ?_
  refine r_iload_n rfl rfl ?_
  refine r_if_ne rfl (fun h3 => ?_) (fun h3 => ?_)
  · refine r_iload_n rfl rfl ?_
    refine r_iconst rfl ?_
    refine r_icmp_ne rfl (fun h14 => ?_) (fun h14 => ?_)
    · refine r_iload_n rfl rfl ?_
      refine r_if_ge rfl (fun h21 => ?_) (fun h21 => ?_)
      · refine r_iload_n rfl rfl ?_
        refine r_bipush rfl ?_
        refine r_icmp_le rfl (fun h31 => ?_) (fun h31 => ?_)
        · refine r_iload_n rfl rfl ?_
          refine r_iret rfl rfl ?_
          exact ⟨by simp only [fEntry]; grind, rfl⟩
        · refine r_bipush rfl ?_
          refine r_goto rfl ?_
          refine r_iret rfl rfl ?_
          exact ⟨by simp only [fEntry]; grind, rfl⟩
      · refine r_iconst rfl ?_
        refine r_goto rfl ?_
        refine r_iret rfl rfl ?_
        exact ⟨by simp only [fEntry]; grind, rfl⟩
    · refine r_iload_n rfl rfl ?_
      refine r_i2s rfl ?_
      refine r_istore_n rfl ?_
      refine r_iload_n rfl rfl ?_
      refine r_if_ge rfl (fun h21 => ?_) (fun h21 => ?_)
      · refine r_iload_n rfl rfl ?_
        refine r_bipush rfl ?_
        refine r_icmp_le rfl (fun h31 => ?_) (fun h31 => ?_)
        · refine r_iload_n rfl rfl ?_
          refine r_iret rfl rfl ?_
          exact ⟨by simp only [fEntry]; grind, rfl⟩
        · refine r_bipush rfl ?_
          refine r_goto rfl ?_
          refine r_iret rfl rfl ?_
          exact ⟨by simp only [fEntry]; grind, rfl⟩
      · refine r_iconst rfl ?_
        refine r_goto rfl ?_
        refine r_iret rfl rfl ?_
        exact ⟨by simp only [fEntry]; grind, rfl⟩
  · refine r_iload_n rfl rfl ?_
    refine r_i2b rfl ?_
    refine r_istore_n rfl ?_
    refine r_goto rfl ?_
    refine r_iload_n rfl rfl ?_
    refine r_if_ge rfl (fun h21 => ?_) (fun h21 => ?_)
    · refine r_iload_n rfl rfl ?_
      refine r_bipush rfl ?_
      refine r_icmp_le rfl (fun h31 => ?_) (fun h31 => ?_)
      · refine r_iload_n rfl rfl ?_
        refine r_iret rfl rfl ?_
        exact ⟨by simp only [fEntry]; grind, rfl⟩
      · refine r_bipush rfl ?_
        refine r_goto rfl ?_
        refine r_iret rfl rfl ?_
        exact ⟨by simp only [fEntry]; grind, rfl⟩
    · refine r_iconst rfl ?_
      refine r_goto rfl ?_
      refine r_iret rfl rfl ?_
      exact ⟨by simp only [fEntry]; grind, rfl⟩
abbrev okSteer (lt fr n mo : Int32) : Prop := (0 ≤ lt ∧ lt ≤ 4) ∧ (-50 ≤ fr ∧ fr ≤ 50) ∧ (1 ≤ n ∧ n ≤ 6) ∧ (1 ≤ mo ∧ mo ≤ 4)
theorem ct_X10_canSteer {d : Nat} {S : am_S} {lt fr n mo : Int32} : am_CT (d + 2) iX10_canSteer [.int lt, .int fr, .int n, .int mo] S (some (.int (b01 (okSteer lt fr n mo)))) (S) := by
  refine am_CT_in mmX10_canSteer rfl rfl rfl ?_
  refine r_iload_n rfl rfl ?_
  refine r_iconst rfl ?_
  refine r_iconst rfl ?_
  refine r_callS rfl (by decide) ct_X10_isWithin rfl rfl (am_cnt rfl) ?_
  refine r_if_eq rfl (fun h6 => ?_) (fun h6 => ?_)
  · refine r_iconst rfl ?_
    refine r_zret rfl rfl (by simp) ?_
    exact ⟨by simp only [b01_eq0, okSteer, b01] at *; grind, rfl⟩
  · refine r_iload_n rfl rfl ?_
    refine r_bipush rfl ?_
    refine r_bipush rfl ?_
    refine r_callS rfl (by decide) ct_X10_isWithin rfl rfl (am_cnt rfl) ?_
    refine r_if_eq rfl (fun h17 => ?_) (fun h17 => ?_)
    · refine r_iconst rfl ?_
      refine r_zret rfl rfl (by simp) ?_
      exact ⟨by simp only [b01_eq0, okSteer, b01] at *; grind, rfl⟩
    · refine r_iload_n rfl rfl ?_
      refine r_iconst rfl ?_
      refine r_bipush rfl ?_
      refine r_callS rfl (by decide) ct_X10_isWithin rfl rfl (am_cnt rfl) ?_
      refine r_if_eq rfl (fun h27 => ?_) (fun h27 => ?_)
      · refine r_iconst rfl ?_
        refine r_zret rfl rfl (by simp) ?_
        exact ⟨by simp only [b01_eq0, okSteer, b01] at *; grind, rfl⟩
      · refine r_iload_n rfl rfl ?_
        refine r_iconst rfl ?_
        refine r_iconst rfl ?_
        refine r_callS rfl (by decide) ct_X10_isWithin rfl rfl (am_cnt rfl) ?_
        refine r_if_eq rfl (fun h36 => ?_) (fun h36 => ?_)
        · refine r_iconst rfl ?_
          refine r_zret rfl rfl (by simp) ?_
          exact ⟨by simp only [b01_eq0, okSteer, b01] at *; grind, rfl⟩
        · refine r_iconst rfl ?_
          refine r_goto rfl ?_
          refine r_zret rfl rfl (by simp) ?_
          exact ⟨by simp only [b01_eq0, okSteer, b01] at *; grind, rfl⟩
abbrev okRule (n : Int32) : Prop := (0 ≤ n ∧ n ≤ 222) ∧ n - n / 10 * 10 ≤ 2 ∧ n / 10 - n / 10 / 10 * 10 ≤ 2
theorem ct_X10_isRuleNumber {d : Nat} {S : am_S} {n : Int32} : am_CT (d + 2) iX10_isRuleNumber [.int n] S (some (.int (b01 (okRule n)))) (S) := by
  refine am_CT_in mmX10_isRuleNumber rfl rfl rfl ?_
  refine r_iload_n rfl rfl ?_
  refine r_iconst rfl ?_
  refine r_sipush rfl ?_
  refine r_callS rfl (by decide) ct_X10_isWithin rfl rfl (am_cnt rfl) ?_
  refine r_if_eq rfl (fun h8 => ?_) (fun h8 => ?_)
  · refine r_iconst rfl ?_
    refine r_zret rfl rfl (by simp) ?_
    exact ⟨by simp only [b01_eq0, okRule, b01] at *; grind, rfl⟩
  · refine r_iload_n rfl rfl ?_
    refine r_bipush rfl ?_
    refine r_irem rfl (by decide) ?_
    refine r_iconst rfl ?_
    refine r_icmp_gt rfl (fun h16 => ?_) (fun h16 => ?_)
    · refine r_iconst rfl ?_
      refine r_zret rfl rfl (by simp) ?_
      exact ⟨by simp only [b01_eq0, okRule, b01] at *; grind, rfl⟩
    · refine r_iload_n rfl rfl ?_
      refine r_bipush rfl ?_
      refine r_idiv rfl (by decide) ?_
      refine r_bipush rfl ?_
      refine r_irem rfl (by decide) ?_
      refine r_iconst rfl ?_
      refine r_icmp_gt rfl (fun h27 => ?_) (fun h27 => ?_)
      · refine r_iconst rfl ?_
        refine r_zret rfl rfl (by simp) ?_
        exact ⟨by simp only [b01_eq0, okRule, b01] at *; grind, rfl⟩
      · refine r_iconst rfl ?_
        refine r_goto rfl ?_
        refine r_zret rfl rfl (by simp) ?_
        exact ⟨by simp only [b01_eq0, okRule, b01] at *; grind, rfl⟩
abbrev hasP (S : am_S) (p : Int32) : Prop := 0 ≤ p ∧ p < gI S 1 1
abbrev twoP (S : am_S) (p q : Int32) : Prop := hasP S p ∧ hasP S q ∧ ¬ p = q
theorem ct_X9_has {d : Nat} {S : am_S} {p : Int32} : am_CT (d + 1) iX9_has [.ref 1, .int p] S (some (.int (b01 (hasP S p)))) (S) := by
  refine am_CT_in mmX9_has rfl rfl rfl ?_
  refine r_iload_n rfl rfl ?_
  refine r_if_lt rfl (fun h1 => ?_) (fun h1 => ?_)
  · refine r_iconst rfl ?_
    refine r_zret rfl rfl (by simp) ?_
    exact ⟨by simp only [b01]; grind, rfl⟩
  · refine r_iload_n rfl rfl ?_
    refine r_aload_n rfl rfl ?_
    refine r_getI rfl rfl (by decide) (by decide) rfl ?_
    refine r_icmp_ge rfl (fun h9 => ?_) (fun h9 => ?_)
    · refine r_iconst rfl ?_
      refine r_zret rfl rfl (by simp) ?_
      exact ⟨by simp only [b01]; grind, rfl⟩
    · refine r_iconst rfl ?_
      refine r_goto rfl ?_
      refine r_zret rfl rfl (by simp) ?_
      exact ⟨by simp only [b01]; grind, rfl⟩
theorem ct_X9_hasTwo {d : Nat} {S : am_S} {p q : Int32} : am_CT (d + 2) iX9_hasTwo [.ref 1, .int p, .int q] S (some (.int (b01 (twoP S p q)))) (S) := by
  refine am_CT_in mmX9_hasTwo rfl rfl rfl ?_
  refine r_aload_n rfl rfl ?_
  refine r_iload_n rfl rfl ?_
  refine r_callV rfl ct_X9_has rfl rfl rfl (by decide) rfl (am_cnt rfl) ?_
  refine r_if_eq rfl (fun h5 => ?_) (fun h5 => ?_)
  · refine r_iconst rfl ?_
    refine r_zret rfl rfl (by simp) ?_
    exact ⟨by simp only [b01_eq0, b01] at *; grind, rfl⟩
  · refine r_aload_n rfl rfl ?_
    refine r_iload_n rfl rfl ?_
    refine r_callV rfl ct_X9_has rfl rfl rfl (by decide) rfl (am_cnt rfl) ?_
    refine r_if_eq rfl (fun h13 => ?_) (fun h13 => ?_)
    · refine r_iconst rfl ?_
      refine r_zret rfl rfl (by simp) ?_
      exact ⟨by simp only [b01_eq0, b01] at *; grind, rfl⟩
    · refine r_iload_n rfl rfl ?_
      refine r_iload_n rfl rfl ?_
      refine r_icmp_eq rfl (fun h18 => ?_) (fun h18 => ?_)
      · refine r_iconst rfl ?_
        refine r_zret rfl rfl (by simp) ?_
        exact ⟨by simp only [b01_eq0, b01] at *; grind, rfl⟩
      · refine r_iconst rfl ?_
        refine r_goto rfl ?_
        refine r_zret rfl rfl (by simp) ?_
        exact ⟨by simp only [b01_eq0, b01] at *; grind, rfl⟩
theorem kn_person {m j : Nat} (h : j < 6) : am_kn m (6 + 2 * j) = (4, 0) := by
  match j, h with
  | 0, _ => rfl
  | 1, _ => rfl
  | 2, _ => rfl
  | 3, _ => rfl
  | 4, _ => rfl
  | 5, _ => rfl
theorem kn_more {m j : Nat} (h : j < 6) : am_kn m (6 + 2 * j + 1) = (20, 4) := by
  match j, h with
  | 0, _ => rfl
  | 1, _ => rfl
  | 2, _ => rfl
  | 3, _ => rfl
  | 4, _ => rfl
  | 5, _ => rfl
theorem cl_lt {x : Int32} {n : Nat} (h1 : 0 ≤ x) (h2 : x < Int32.ofNat n) (hn : n < 2147483648) : x.toNatClampNeg < n := by
  obtain ⟨j, hj, rfl⟩ := vp_in_of (am_vp h1 h2 hn) hn
  rw [nI_clamp (by omega)]
  exact hj
/-- the cell of a person -/
abbrev cP (p : Int32) : Nat := 6 + 2 * p.toNatClampNeg
theorem ct_X9_isNear {d : Nat} {S : am_S} {p q : Int32} (hz : gI S 1 1 ≤ 6) : am_CT (d + 3) iX9_isNear [.ref 1, .int p, .int q] S (some (.int (b01 (twoP S p q ∧ fBit (gI S (cP p) 3) q)))) (S) := by
  refine am_CT_in mmX9_isNear rfl rfl rfl ?_
  refine r_aload_n rfl rfl ?_
  refine r_iload_n rfl rfl ?_
  refine r_iload_n rfl rfl ?_
  refine r_callV rfl ct_X9_hasTwo rfl rfl rfl (by decide) rfl (am_cnt rfl) ?_
  refine r_if_eq rfl (fun h6 => ?_) (fun h6 => ?_)
  · refine r_iconst rfl ?_
    refine r_zret rfl rfl (by simp) ?_
    exact ⟨by simp only [b01_eq0, b01] at *; grind, rfl⟩
  · have h6b : twoP S p q := by simp only [b01_eq0] at h6; exact Decidable.not_not.mp h6
    have hl : p < 6 := Int32.lt_of_lt_of_le h6b.1.2 hz
    have hj : p.toNatClampNeg < 6 := cl_lt h6b.1.1 hl (by decide)
    refine r_aload_n rfl rfl ?_
    refine r_getC rfl rfl (by decide) (by decide) rfl ?_
    refine r_iload_n rfl rfl ?_
    refine r_aaldP rfl rfl (by first | exact h6b.1.1 | exact hl) (by first | exact h6b.1.1 | exact hl) ?_
    refine r_getI rfl (kn_person hj) (by decide) (by decide) rfl ?_
    refine r_iload_n rfl rfl ?_
    refine r_callS rfl (by decide) ct_X10_hasBit rfl rfl (am_cnt rfl) ?_
    refine r_if_eq rfl (fun h22 => ?_) (fun h22 => ?_)
    · refine r_iconst rfl ?_
      refine r_zret rfl rfl (by simp) ?_
      exact ⟨by simp only [b01_eq0, b01] at *; grind, rfl⟩
    · refine r_iconst rfl ?_
      refine r_goto rfl ?_
      refine r_zret rfl rfl (by simp) ?_
      exact ⟨by simp only [b01_eq0, b01] at *; grind, rfl⟩
theorem ct_X9_isSeen {d : Nat} {S : am_S} {p q : Int32} (hz : gI S 1 1 ≤ 6) : am_CT (d + 3) iX9_isSeen [.ref 1, .int p, .int q] S (some (.int (b01 (twoP S p q ∧ fBit (gI S (cP p) 4) q)))) (S) := by
  refine am_CT_in mmX9_isSeen rfl rfl rfl ?_
  refine r_aload_n rfl rfl ?_
  refine r_iload_n rfl rfl ?_
  refine r_iload_n rfl rfl ?_
  refine r_callV rfl ct_X9_hasTwo rfl rfl rfl (by decide) rfl (am_cnt rfl) ?_
  refine r_if_eq rfl (fun h6 => ?_) (fun h6 => ?_)
  · refine r_iconst rfl ?_
    refine r_zret rfl rfl (by simp) ?_
    exact ⟨by simp only [b01_eq0, b01] at *; grind, rfl⟩
  · have h6b : twoP S p q := by simp only [b01_eq0] at h6; exact Decidable.not_not.mp h6
    have hl : p < 6 := Int32.lt_of_lt_of_le h6b.1.2 hz
    have hj : p.toNatClampNeg < 6 := cl_lt h6b.1.1 hl (by decide)
    refine r_aload_n rfl rfl ?_
    refine r_getC rfl rfl (by decide) (by decide) rfl ?_
    refine r_iload_n rfl rfl ?_
    refine r_aaldP rfl rfl (by first | exact h6b.1.1 | exact hl) (by first | exact h6b.1.1 | exact hl) ?_
    refine r_getI rfl (kn_person hj) (by decide) (by decide) rfl ?_
    refine r_iload_n rfl rfl ?_
    refine r_callS rfl (by decide) ct_X10_hasBit rfl rfl (am_cnt rfl) ?_
    refine r_if_eq rfl (fun h22 => ?_) (fun h22 => ?_)
    · refine r_iconst rfl ?_
      refine r_zret rfl rfl (by simp) ?_
      exact ⟨by simp only [b01_eq0, b01] at *; grind, rfl⟩
    · refine r_iconst rfl ?_
      refine r_goto rfl ?_
      refine r_zret rfl rfl (by simp) ?_
      exact ⟨by simp only [b01_eq0, b01] at *; grind, rfl⟩
theorem kn_form {m j : Nat} (h : j < 12) : am_kn m (18 + 3 * j) = (1, 0) ∧ am_kn m (18 + 3 * j + 1) = (20, 40) ∧ am_kn m (18 + 3 * j + 2) = (20, 40) := by
  match j, h with
  | 0, _ => exact ⟨rfl, rfl, rfl⟩
  | 1, _ => exact ⟨rfl, rfl, rfl⟩
  | 2, _ => exact ⟨rfl, rfl, rfl⟩
  | 3, _ => exact ⟨rfl, rfl, rfl⟩
  | 4, _ => exact ⟨rfl, rfl, rfl⟩
  | 5, _ => exact ⟨rfl, rfl, rfl⟩
  | 6, _ => exact ⟨rfl, rfl, rfl⟩
  | 7, _ => exact ⟨rfl, rfl, rfl⟩
  | 8, _ => exact ⟨rfl, rfl, rfl⟩
  | 9, _ => exact ⟨rfl, rfl, rfl⟩
  | 10, _ => exact ⟨rfl, rfl, rfl⟩
  | 11, _ => exact ⟨rfl, rfl, rfl⟩
/-- the cell of a rule -/
abbrev cF (i : Int32) : Nat := 18 + 3 * i.toNatClampNeg
abbrev deedP (S : am_S) (i : Int32) : Prop := 0 ≤ i ∧ i < 12 ∧ i - i / 2 * 2 = 0 ∧ 0 < gI S (cF i) 1
theorem ct_X9_isDeed {d : Nat} {S : am_S} {i : Int32} : am_CT (d + 1) iX9_isDeed [.ref 1, .int i] S (some (.int (b01 (deedP S i)))) (S) := by
  refine am_CT_in mmX9_isDeed rfl rfl rfl ?_
  refine r_iload_n rfl rfl ?_
  refine r_if_lt rfl (fun h1 => ?_) (fun h1 => ?_)
  · refine r_iconst rfl ?_
    refine r_zret rfl rfl (by simp) ?_
    exact ⟨by simp only [b01] at *; grind, rfl⟩
  · refine r_iload_n rfl rfl ?_
    refine r_bipush rfl ?_
    refine r_icmp_ge rfl (fun h7 => ?_) (fun h7 => ?_)
    · refine r_iconst rfl ?_
      refine r_zret rfl rfl (by simp) ?_
      exact ⟨by simp only [b01] at *; grind, rfl⟩
    · have hj : i.toNatClampNeg < 12 := cl_lt (n := 12) (by grind) (by grind) (by decide)
      refine r_iload_n rfl rfl ?_
      refine r_iconst rfl ?_
      refine r_irem rfl (by decide) ?_
      refine r_if_ne rfl (fun h13 => ?_) (fun h13 => ?_)
      · refine r_iconst rfl ?_
        refine r_zret rfl rfl (by simp) ?_
        exact ⟨by simp only [b01] at *; grind, rfl⟩
      · refine r_aload_n rfl rfl ?_
        refine r_getC rfl rfl (by decide) (by decide) rfl ?_
        refine r_iload_n rfl rfl ?_
        refine r_aaldF rfl rfl (by grind) (by grind) ?_
        refine r_getI rfl (kn_form hj).1 (by decide) (by decide) rfl ?_
        refine r_if_le rfl (fun h25 => ?_) (fun h25 => ?_)
        · refine r_iconst rfl ?_
          refine r_zret rfl rfl (by simp) ?_
          exact ⟨by simp only [b01] at *; grind, rfl⟩
        · refine r_iconst rfl ?_
          refine r_goto rfl ?_
          refine r_zret rfl rfl (by simp) ?_
          exact ⟨by simp only [b01] at *; grind, rfl⟩
def ruleBits (f : Nat → Int32) : Nat → Int32
  | 0 => 0
  | n + 1 => fWith (ruleBits f n) (nI n) (if f n ≤ 0 then 0 else 1)
theorem ct_X9_toldRules {d : Nat} {S : am_S} : am_CT (d + 2) iX9_toldRules [.ref 1] S (some (.int (ruleBits (fun j => gI S (18 + 3 * j) 1) 12))) (S) := by
  refine am_CT_in mmX9_toldRules rfl rfl rfl ?_
  have loop : ∀ (k : Nat) (j : Nat) (w : Int32), (j ≤ 12) → (12 < j + k) → (w = ruleBits (fun j => gI S (18 + 3 * j) 1) j) → am_Ex (am_Call am_MT (d + 1)) mmX9_toldRules none (fun r1 G1 => r1 = (some (.int (ruleBits (fun j => gI S (18 + 3 * j) 1) 12))) ∧ G1 = am_H (S)) (fun _ _ _ _ _ _ => False) 4 [some (.ref 1), some (.int w), some (.int (nI j))] [] (am_H (S)) 0 0 := by
    intro k
    induction k with
    | zero =>
      intro j w h1 h2 h3
      omega
    | succ k ih =>
      intro j w h1 h2 h3
      have b1 : (nI j).toNatClampNeg = j := nI_clamp (by omega)
      have s1 : 0 ≤ nI j := nI_pos' (by omega)
      have c1 : (12 : Int32) ≤ nI j ↔ 12 ≤ j := nI_leI (a := 12) (by omega) (by omega)
      refine r_iload_n rfl rfl ?_
      refine r_bipush rfl ?_
      refine r_icmp_ge rfl (fun h7 => ?_) (fun h7 => ?_)
      · obtain rfl : j = 12 := by have := c1.mp h7; omega
        rw [h3]
        refine r_iload_n rfl rfl ?_
        refine r_iret rfl rfl ?_
        exact ⟨rfl, rfl⟩
      · have hj : j < 12 := Nat.lt_of_not_le fun z => h7 (c1.mpr z)
        have s2 : nI j < 12 := Int32.not_le.mp h7
        refine r_iload_n rfl rfl ?_
        refine r_iload_n rfl rfl ?_
        refine r_aload_n rfl rfl ?_
        refine r_getC rfl rfl (by decide) (by decide) rfl ?_
        refine r_iload_n rfl rfl ?_
        refine r_aaldF rfl rfl (by first | exact s1 | exact s2) (by first | exact s1 | exact s2) ?_
        refine r_getI rfl (by rw [b1]; exact (kn_form hj).1) (by decide) (by decide) rfl ?_
        refine r_if_le rfl (fun h21 => ?_) (fun h21 => ?_)
        · rw [b1] at h21
          refine r_iconst rfl ?_
          refine r_callS rfl (by decide) ct_X10_withBit rfl rfl (am_cnt rfl) ?_
          refine r_istore_n rfl ?_
          refine r_iinc rfl rfl ?_
          refine r_goto rfl ?_
          rw [nI_1]
          exact ih (j + 1) _ (by omega) (by omega) (by rw [ruleBits, ← h3]; first | rw [if_pos h21] | rw [if_neg h21])
        · rw [b1] at h21
          refine r_iconst rfl ?_
          refine r_goto rfl ?_
          refine r_callS rfl (by decide) ct_X10_withBit rfl rfl (am_cnt rfl) ?_
          refine r_istore_n rfl ?_
          refine r_iinc rfl rfl ?_
          refine r_goto rfl ?_
          rw [nI_1]
          exact ih (j + 1) _ (by omega) (by omega) (by rw [ruleBits, ← h3]; first | rw [if_pos h21] | rw [if_neg h21])
  refine r_iconst rfl ?_
  refine r_istore_n rfl ?_
  refine r_iconst rfl ?_
  refine r_istore_n rfl ?_
  exact loop 13 0 _ (by omega) (by omega) rfl
end
section
/-! What one looks at. -/
def lateI (x : Int32) : Int32 := if x < 1 then 1 else x
def hearI (S : am_S) (o : Nat) (nr sd : Int32) : Nat → Int32
  | 0 => 0
  | n + 1 => if fBit nr (nI n) then hearI S o nr sd n + fNoted S (o + 3) (nI n) sd else hearI S o nr sd n
/-- a row of 1200 notes at a person and a minute -/
theorem ct_X9_hears {d : Nat} {S : am_S} {o n : Nat} {p : Int32} (hC : IsC S o) (hn : gI S 1 1 = nI n) (hz : n ≤ 6) (hp : hasP S p) : am_CT (d + 2) iX9_hears [.ref 1, .ref o, .int p] S (some (.int (hearI S o (gI S (cP p) 3) (gI S o 0 - lateI (gI S (cP p) 0)) n))) (S) := by
  refine am_CT_in mmX9_hears rfl rfl rfl ?_
  obtain ⟨hk, hk1, hk2, hk3, hk4, hk5⟩ := hC
  have hz6 : gI S 1 1 ≤ 6 := by rw [hn]; exact nI_le (b := 6) hz (by omega)
  have hl : p < 6 := Int32.lt_of_lt_of_le hp.2 hz6
  have hj : p.toNatClampNeg < 6 := cl_lt hp.1 hl (by decide)
  have loop : ∀ (k : Nat) (j : Nat), (j ≤ n) → (n < j + k) → am_Ex (am_Call am_MT (d + 1)) mmX9_hears none (fun r1 G1 => r1 = (some (.int (hearI S o (gI S (cP p) 3) (gI S o 0 - lateI (gI S (cP p) 0)) n))) ∧ G1 = am_H (S)) (fun _ _ _ _ _ _ => False) 21 [some (.ref 1), some (.ref o), some (.int p), some (.int (gI S o 0 - lateI (gI S (cP p) 0))), some (.int (hearI S o (gI S (cP p) 3) (gI S o 0 - lateI (gI S (cP p) 0)) j)), some (.int (nI j))] [] (am_H (S)) 0 0 := by
    intro k
    induction k with
    | zero =>
      intro j h1 h2
      omega
    | succ k ih =>
      intro j h1 h2
      refine r_iload rfl rfl ?_
      refine r_aload_n rfl rfl ?_
      refine r_getI rfl rfl (by decide) (by decide) rfl ?_
      refine r_icmp_ge rfl (fun h27 => ?_) (fun h27 => ?_)
      · rw [hn, nI_leI (by omega) (by omega)] at h27
        obtain rfl : j = n := by omega
        refine r_iload rfl rfl ?_
        refine r_iret rfl rfl ?_
        exact ⟨rfl, rfl⟩
      · rw [hn, nI_leI (by omega) (by omega)] at h27
        refine r_aload_n rfl rfl ?_
        refine r_getC rfl rfl (by decide) (by decide) rfl ?_
        refine r_iload_n rfl rfl ?_
        refine r_aaldP rfl rfl (by first | exact hp.1 | exact hl) (by first | exact hp.1 | exact hl) ?_
        refine r_getI rfl (kn_person hj) (by decide) (by decide) rfl ?_
        refine r_iload rfl rfl ?_
        refine r_callS rfl (by decide) ct_X10_hasBit rfl rfl (am_cnt rfl) ?_
        refine r_if_eq rfl (fun h44 => ?_) (fun h44 => ?_)
        · rw [b01_eq0] at h44
          have e := ih (j + 1) (by omega) (by omega)
          rw [show hearI S o (gI S (cP p) 3) (gI S o 0 - lateI (gI S (cP p) 0)) (j + 1) = _ from if_neg h44] at e
          refine r_iinc rfl rfl ?_
          refine r_goto rfl ?_
          rw [nI_1]
          exact e
        · rw [b01_eq0] at h44
          have e := ih (j + 1) (by omega) (by omega)
          rw [show hearI S o (gI S (cP p) 3) (gI S o 0 - lateI (gI S (cP p) 0)) (j + 1) = _ from if_pos (Decidable.not_not.mp h44)] at e
          refine r_iload rfl rfl ?_
          refine r_aload_n rfl rfl ?_
          refine r_aload_n rfl rfl ?_
          refine r_getO rfl hk (by decide) (by decide) rfl ?_
          refine r_iload rfl rfl ?_
          refine r_iload_n rfl rfl ?_
          refine r_callV rfl (ct_X0_noted hk3) rfl rfl hk (by decide) rfl (am_cnt rfl) ?_
          refine r_iadd rfl ?_
          refine r_istore rfl ?_
          refine r_iinc rfl rfl ?_
          refine r_goto rfl ?_
          rw [nI_1]
          exact e
  refine r_aload_n rfl rfl ?_
  refine r_getI rfl hk (by decide) (by decide) rfl ?_
  refine r_aload_n rfl rfl ?_
  refine r_getC rfl rfl (by decide) (by decide) rfl ?_
  refine r_iload_n rfl rfl ?_
  refine r_aaldP rfl rfl (by first | exact hp.1 | exact hl) (by first | exact hp.1 | exact hl) ?_
  refine r_callV rfl (ct_X4_hearsAfter (kn_person hj)) rfl rfl (kn_person hj) (by decide) rfl (am_cnt rfl) ?_
  refine r_isub rfl ?_
  refine r_istore_n rfl ?_
  refine r_iconst rfl ?_
  refine r_istore rfl ?_
  refine r_iconst rfl ?_
  refine r_istore rfl ?_
  exact loop (n + 1) 0 (by omega) (by omega)
/-- what lies in the row of what is seen -/
def lookG (S : am_S) (o n : Nat) (p : Int32) : Nat → Int32 :=
  upd (upd (upd (upd (upd (upd (gI S 5) 0 (gI S o 0)) 1 (gI S 1 4)) 2 (fPlace S o (gI S o 0 - gI S (cP p) 1))) 3 (fPlace S o (gI S o 0 - gI S (cP p) 1) - fPlace S o (gI S o 0 - gI S (cP p) 1 - 1))) 4 (hearI S o (gI S (cP p) 3) (gI S o 0 - lateI (gI S (cP p) 0)) n)) 5 (fNoted S (o + 2) p (gI S o 0 - 1))
theorem fPlace_r5 {S : am_S} {o : Nat} {g : Nat → Int32} {m : Int32} (h : 5 < o) : fPlace (rI S 5 g) o m = fPlace S o m := by
  unfold fPlace
  rw [gI_rI_ne (by omega), gI_rI_ne (by omega)]
theorem fNoted_r5 {S : am_S} {q : Nat} {g : Nat → Int32} {p m : Int32} (h : 5 < q) : fNoted (rI S 5 g) q p m = fNoted S q p m := by
  unfold fNoted
  rw [gI_rI_ne (by omega)]
theorem hearI_r5 {S : am_S} {o : Nat} {g : Nat → Int32} {nr sd : Int32} (h : 5 < o) : ∀ n, hearI (rI S 5 g) o nr sd n = hearI S o nr sd n
  | 0 => rfl
  | n + 1 => by
    unfold hearI
    rw [hearI_r5 h n, fNoted_r5 (by omega)]
theorem ct_X9_look {d : Nat} {S : am_S} {o n : Nat} {p : Int32} (hC : IsC S o) (ho : 5 < o) (hn : gI S 1 1 = nI n) (hz : n ≤ 6) (hp : hasP S p) : am_CT (d + 3) iX9_look [.ref 1, .ref o, .int p] S (none) (rI S 5 (lookG S o n p)) := by
  refine am_CT_in mmX9_look rfl rfl rfl ?_
  have hC2 := hC
  obtain ⟨hk, hk1, hk2, hk3, hk4, hk5⟩ := hC2
  have hz6 : gI S 1 1 ≤ 6 := by rw [hn]; exact nI_le (b := 6) hz (by omega)
  have hl : p < 6 := Int32.lt_of_lt_of_le hp.2 hz6
  have hj : p.toNatClampNeg < 6 := cl_lt hp.1 hl (by decide)
  have hh : ∀ g, hasP (rI S 5 g) p := fun g => by
    unfold hasP
    rw [gI_rI_ne (by decide)]
    exact hp
  have hn2 : ∀ g, gI (rI S 5 g) 1 1 = nI n := fun g => by rw [gI_rI_ne (by decide), hn]
  have hCr : ∀ g, IsC (rI S 5 g) o := fun g => hC
  refine r_aload_n rfl rfl ?_
  refine r_iload_n rfl rfl ?_
  refine r_callV rfl ct_X9_has rfl rfl rfl (by decide) rfl (am_cnt rfl) ?_
  refine r_if_ne rfl (fun h5 => ?_) (fun h5 => ?_)
  · refine r_aload_n rfl rfl ?_
    refine r_getI rfl hk (by decide) (by decide) rfl ?_
    refine r_istore_n rfl ?_
    refine r_iload_n rfl rfl ?_
    refine r_aload_n rfl rfl ?_
    refine r_getC rfl rfl (by decide) (by decide) rfl ?_
    refine r_iload_n rfl rfl ?_
    refine r_aaldP rfl rfl (by first | exact hp.1 | exact hl) (by first | exact hp.1 | exact hl) ?_
    refine r_getI rfl (kn_person hj) (by decide) (by decide) rfl ?_
    refine r_isub rfl ?_
    refine r_istore rfl ?_
    refine r_aload_n rfl rfl ?_
    refine r_getC rfl rfl (by decide) (by decide) rfl ?_
    refine r_iconst rfl ?_
    refine r_iload_n rfl rfl ?_
    refine r_iast rfl rfl (by first | decide | assumption) (by decide) (by decide) ?_
    rw [uI_rI]
    refine r_aload_n rfl rfl ?_
    refine r_getC rfl rfl (by decide) (by decide) rfl ?_
    refine r_iconst rfl ?_
    refine r_aload_n rfl rfl ?_
    refine r_getI rfl rfl (by decide) (by decide) rfl ?_
    refine r_iast rfl rfl (by first | decide | assumption) (by decide) (by decide) ?_
    rw [uI_rIs]
    refine r_aload_n rfl rfl ?_
    refine r_getC rfl rfl (by decide) (by decide) rfl ?_
    refine r_iconst rfl ?_
    refine r_aload_n rfl rfl ?_
    refine r_iload rfl rfl ?_
    refine r_callV rfl (ct_X0_placeAt hC) rfl rfl hk (by decide) rfl (am_cnt rfl) ?_
    refine r_iast rfl rfl (by first | decide | assumption) (by decide) (by decide) ?_
    rw [uI_rIs]
    refine r_aload_n rfl rfl ?_
    refine r_getC rfl rfl (by decide) (by decide) rfl ?_
    refine r_iconst rfl ?_
    refine r_aload_n rfl rfl ?_
    refine r_iload rfl rfl ?_
    refine r_callV rfl (ct_X0_placeAt hC) rfl rfl hk (by decide) rfl (am_cnt rfl) ?_
    refine r_aload_n rfl rfl ?_
    refine r_iload rfl rfl ?_
    refine r_iconst rfl ?_
    refine r_isub rfl ?_
    refine r_callV rfl (ct_X0_placeAt hC) rfl rfl hk (by decide) rfl (am_cnt rfl) ?_
    refine r_isub rfl ?_
    refine r_iast rfl rfl (by first | decide | assumption) (by decide) (by decide) ?_
    rw [uI_rIs]
    refine r_aload_n rfl rfl ?_
    refine r_getC rfl rfl (by decide) (by decide) rfl ?_
    refine r_iconst rfl ?_
    refine r_aload_n rfl rfl ?_
    refine r_aload_n rfl rfl ?_
    refine r_iload_n rfl rfl ?_
    refine r_callV rfl (ct_X9_hears (hCr _) (hn2 _) hz (hh _)) rfl rfl rfl (by decide) rfl (am_cnt rfl) ?_
    refine r_iast rfl rfl (by first | decide | assumption) (by decide) (by decide) ?_
    rw [uI_rIs]
    refine r_aload_n rfl rfl ?_
    refine r_getC rfl rfl (by decide) (by decide) rfl ?_
    refine r_iconst rfl ?_
    refine r_aload_n rfl rfl ?_
    refine r_aload_n rfl rfl ?_
    refine r_getO rfl hk (by decide) (by decide) rfl ?_
    refine r_iload_n rfl rfl ?_
    refine r_iload_n rfl rfl ?_
    refine r_iconst rfl ?_
    refine r_isub rfl ?_
    refine r_callV rfl (ct_X0_noted hk2) rfl rfl hk (by decide) rfl (am_cnt rfl) ?_
    refine r_iast rfl rfl (by first | decide | assumption) (by decide) (by decide) ?_
    refine r_vret rfl ?_
    refine ⟨rfl, ?_⟩
    rw [uI_rIs]
    simp (disch := omega) only [cP, fPlace_r5, fNoted_r5, hearI_r5, gI_rI_ne]
    rfl
  · exact absurd hp (b01_eq0.mp h5)
end
section
/-! Calls of the class that set and read. -/
theorem ct_X10_person_ok {d : Nat} {S : am_S} {n : Nat} {l s t : Int32} (hn : gI S 1 1 = nI n) (hz : n < 6) (hl : 0 ≤ l ∧ l ≤ 20) (hs : 0 ≤ s ∧ s ≤ 20) (ht : 0 ≤ t ∧ t ≤ 9) : am_CT (d + 2) iX10_person [.ref 0, .int l, .int s, .int t] S (some (.int (nI n))) (uI (uI (uI (uI S (6 + 2 * n) 0 l) (6 + 2 * n) 1 s) (6 + 2 * n) 2 t) 1 1 (nI (n + 1))) := by
  refine am_CT_in mmX10_person rfl rfl rfl ?_
  have s1 : 0 ≤ gI S 1 1 := by rw [hn]; exact nI_pos' (by omega)
  have s2 : gI S 1 1 < 6 := by rw [hn]; exact nI_lt (b := 6) (by omega) (by omega)
  have b1 : (gI S 1 1).toNatClampNeg = n := by rw [hn, nI_clamp (by omega)]
  have kp : ∀ m, am_kn m (6 + 2 * (gI S 1 1).toNatClampNeg) = (4, 0) := fun m => by rw [b1]; exact kn_person hz
  refine r_aload_n rfl rfl ?_
  refine r_getC rfl rfl (by decide) (by decide) rfl ?_
  refine r_getI rfl rfl (by decide) (by decide) rfl ?_
  refine r_bipush rfl ?_
  refine r_icmp_ge rfl (fun h9 => ?_) (fun h9 => ?_)
  · exact absurd s2 (Int32.not_lt.mpr h9)
  · refine r_iload_n rfl rfl ?_
    refine r_iconst rfl ?_
    refine r_bipush rfl ?_
    refine r_callS rfl (by decide) ct_X10_isWithin rfl rfl (am_cnt rfl) ?_
    refine r_if_eq rfl (fun h19 => ?_) (fun h19 => ?_)
    · exact absurd hl (b01_eq0.mp h19)
    · refine r_iload_n rfl rfl ?_
      refine r_iconst rfl ?_
      refine r_bipush rfl ?_
      refine r_callS rfl (by decide) ct_X10_isWithin rfl rfl (am_cnt rfl) ?_
      refine r_if_eq rfl (fun h29 => ?_) (fun h29 => ?_)
      · exact absurd hs (b01_eq0.mp h29)
      · refine r_iload_n rfl rfl ?_
        refine r_iconst rfl ?_
        refine r_bipush rfl ?_
        refine r_callS rfl (by decide) ct_X10_isWithin rfl rfl (am_cnt rfl) ?_
        refine r_if_ne rfl (fun h39 => ?_) (fun h39 => ?_)
        · refine r_aload_n rfl rfl ?_
          refine r_getC rfl rfl (by decide) (by decide) rfl ?_
          refine r_getC rfl rfl (by decide) (by decide) rfl ?_
          refine r_aload_n rfl rfl ?_
          refine r_getC rfl rfl (by decide) (by decide) rfl ?_
          refine r_getI rfl rfl (by decide) (by decide) rfl ?_
          refine r_aaldP rfl rfl (by first | exact s1 | exact s2) (by first | exact s1 | exact s2) ?_
          refine r_astore rfl ?_
          refine r_aload rfl rfl ?_
          refine r_iload_n rfl rfl ?_
          refine r_putI rfl (kp _) (by decide) (by decide) rfl ?_
          refine r_aload rfl rfl ?_
          refine r_iload_n rfl rfl ?_
          refine r_putI rfl (kp _) (by decide) (by decide) rfl ?_
          refine r_aload rfl rfl ?_
          refine r_iload_n rfl rfl ?_
          refine r_putI rfl (kp _) (by decide) (by decide) rfl ?_
          refine r_aload_n rfl rfl ?_
          refine r_getC rfl rfl (by decide) (by decide) rfl ?_
          refine r_dup rfl rfl ?_
          refine r_getI rfl rfl (by decide) (by decide) rfl ?_
          refine r_iconst rfl ?_
          refine r_iadd rfl ?_
          refine r_putI rfl rfl (by decide) (by decide) rfl ?_
          refine r_aload_n rfl rfl ?_
          refine r_getC rfl rfl (by decide) (by decide) rfl ?_
          refine r_getI rfl rfl (by decide) (by decide) rfl ?_
          refine r_iconst rfl ?_
          refine r_isub rfl ?_
          refine r_iret rfl rfl ?_
          rw [b1]
          simp (disch := omega) only [gI_uI_ne]
          rw [hn]
          simp only [gI_uI, if_true, nI_1, hn]
          refine ⟨?_, trivial⟩
          rw [← nI_1]
          congr 2
          grind
        · exact absurd ht (b01_eq0.mp h39)
theorem ct_X10_person_no {d : Nat} {S : am_S} {l s t : Int32} (h : ¬ (gI S 1 1 < 6 ∧ (0 ≤ l ∧ l ≤ 20) ∧ (0 ≤ s ∧ s ≤ 20) ∧ (0 ≤ t ∧ t ≤ 9))) : am_CT (d + 2) iX10_person [.ref 0, .int l, .int s, .int t] S (some (.int (-1))) (S) := by
  refine am_CT_in mmX10_person rfl rfl rfl ?_
  refine r_aload_n rfl rfl ?_
  refine r_getC rfl rfl (by decide) (by decide) rfl ?_
  refine r_getI rfl rfl (by decide) (by decide) rfl ?_
  refine r_bipush rfl ?_
  refine r_icmp_ge rfl (fun h9 => ?_) (fun h9 => ?_)
  · refine r_iconst rfl ?_
    refine r_iret rfl rfl ?_
    exact ⟨rfl, rfl⟩
  · refine r_iload_n rfl rfl ?_
    refine r_iconst rfl ?_
    refine r_bipush rfl ?_
    refine r_callS rfl (by decide) ct_X10_isWithin rfl rfl (am_cnt rfl) ?_
    refine r_if_eq rfl (fun h19 => ?_) (fun h19 => ?_)
    · refine r_iconst rfl ?_
      refine r_iret rfl rfl ?_
      exact ⟨rfl, rfl⟩
    · refine r_iload_n rfl rfl ?_
      refine r_iconst rfl ?_
      refine r_bipush rfl ?_
      refine r_callS rfl (by decide) ct_X10_isWithin rfl rfl (am_cnt rfl) ?_
      refine r_if_eq rfl (fun h29 => ?_) (fun h29 => ?_)
      · refine r_iconst rfl ?_
        refine r_iret rfl rfl ?_
        exact ⟨rfl, rfl⟩
      · refine r_iload_n rfl rfl ?_
        refine r_iconst rfl ?_
        refine r_bipush rfl ?_
        refine r_callS rfl (by decide) ct_X10_isWithin rfl rfl (am_cnt rfl) ?_
        refine r_if_ne rfl (fun h39 => ?_) (fun h39 => ?_)
        · exfalso
          simp only [b01_eq0] at *
          grind
        · refine r_iconst rfl ?_
          refine r_iret rfl rfl ?_
          exact ⟨rfl, rfl⟩
theorem ct_X10_begin {d : Nat} {S : am_S} : am_CT (d + 2) iX10_begin [.ref 0] S (some (.int 1)) (uI (uI S 54 0 0) 55 0 (gI S 54 1)) := by
  refine am_CT_in mmX10_begin rfl rfl rfl ?_
  refine r_aload_n rfl rfl ?_
  refine r_getC rfl rfl (by decide) (by decide) rfl ?_
  refine r_callV rfl (ct_X0_restart (o := 54) ⟨rfl, rfl, rfl, rfl, rfl, rfl⟩) rfl rfl rfl (by decide) rfl (am_cnt rfl) ?_
  refine r_iconst rfl ?_
  refine r_zret rfl rfl (by simp) ?_
  exact ⟨rfl, rfl⟩
theorem ct_X10_seed {d : Nat} {S : am_S} {v : Int32} : am_CT (d + 1) iX10_seed [.ref 0, .int v] S (some (.int (gI S 54 2))) (uI S 54 2 v) := by
  refine am_CT_in mmX10_seed rfl rfl rfl ?_
  refine r_aload_n rfl rfl ?_
  refine r_getC rfl rfl (by decide) (by decide) rfl ?_
  refine r_getI rfl rfl (by decide) (by decide) rfl ?_
  refine r_istore_n rfl ?_
  refine r_aload_n rfl rfl ?_
  refine r_getC rfl rfl (by decide) (by decide) rfl ?_
  refine r_iload_n rfl rfl ?_
  refine r_putI rfl rfl (by decide) (by decide) rfl ?_
  refine r_iload_n rfl rfl ?_
  refine r_iret rfl rfl ?_
  exact ⟨rfl, rfl⟩
theorem ct_X10_end_ok {d : Nat} {S : am_S} {n : Int32} (h : 0 ≤ n ∧ n ≤ gI S 67 1) : am_CT (d + 1) iX10_end [.ref 0, .int n] S (some (.int 1)) (uI S 67 1 n) := by
  refine am_CT_in mmX10_end rfl rfl rfl ?_
  refine r_iload_n rfl rfl ?_
  refine r_if_lt rfl (fun h1 => ?_) (fun h1 => ?_)
  · exfalso
    grind
  · refine r_iload_n rfl rfl ?_
    refine r_aload_n rfl rfl ?_
    refine r_getC rfl rfl (by decide) (by decide) rfl ?_
    refine r_getI rfl rfl (by decide) (by decide) rfl ?_
    refine r_icmp_le rfl (fun h12 => ?_) (fun h12 => ?_)
    · refine r_aload_n rfl rfl ?_
      refine r_getC rfl rfl (by decide) (by decide) rfl ?_
      refine r_iload_n rfl rfl ?_
      refine r_putI rfl rfl (by decide) (by decide) rfl ?_
      refine r_iconst rfl ?_
      refine r_zret rfl rfl (by simp) ?_
      exact ⟨rfl, rfl⟩
    · exfalso
      grind
theorem ct_X10_end_no {d : Nat} {S : am_S} {n : Int32} (h : ¬ (0 ≤ n ∧ n ≤ gI S 67 1)) : am_CT (d + 1) iX10_end [.ref 0, .int n] S (some (.int 0)) (S) := by
  refine am_CT_in mmX10_end rfl rfl rfl ?_
  refine r_iload_n rfl rfl ?_
  refine r_if_lt rfl (fun h1 => ?_) (fun h1 => ?_)
  · refine r_iconst rfl ?_
    refine r_zret rfl rfl (by simp) ?_
    exact ⟨rfl, rfl⟩
  · refine r_iload_n rfl rfl ?_
    refine r_aload_n rfl rfl ?_
    refine r_getC rfl rfl (by decide) (by decide) rfl ?_
    refine r_getI rfl rfl (by decide) (by decide) rfl ?_
    refine r_icmp_le rfl (fun h12 => ?_) (fun h12 => ?_)
    · exfalso
      grind
    · refine r_iconst rfl ?_
      refine r_zret rfl rfl (by simp) ?_
      exact ⟨rfl, rfl⟩
theorem ct_X10_weight_ok {d : Nat} {S : am_S} {i j : Nat} {v : Int32} (hi : i < 3) (hj : j < 3) (hv : 0 ≤ v ∧ v ≤ 99) : am_CT (d + 2) iX10_weight [.ref 0, .int (nI i), .int (nI j), .int v] S (some (.int (gI S 87 (i * 3 + j)))) (uI S 87 (i * 3 + j) v) := by
  refine am_CT_in mmX10_weight rfl rfl rfl ?_
  have b0 : nI i * 3 + nI j = nI (i * 3 + j) := (congrArg (fun z => z + nI j) (pk_mul i 3)).trans (nI_add _ _)
  have b1 : (nI i * 3 + nI j).toNatClampNeg = i * 3 + j := by rw [b0, nI_clamp (by omega)]
  have s1 : 0 ≤ nI i * 3 + nI j := by rw [b0]; exact nI_pos' (by omega)
  have s2 : nI i * 3 + nI j < Int32.ofNat 9 := by rw [b0]; exact nI_lt (by omega) (by omega)
  have c1 : 0 ≤ nI i ∧ nI i ≤ 2 := ⟨nI_pos' (by omega), nI_le (b := 2) (by omega) (by omega)⟩
  have c2 : 0 ≤ nI j ∧ nI j ≤ 2 := ⟨nI_pos' (by omega), nI_le (b := 2) (by omega) (by omega)⟩
  refine r_iload_n rfl rfl ?_
  refine r_iconst rfl ?_
  refine r_iconst rfl ?_
  refine r_callS rfl (by decide) ct_X10_isWithin rfl rfl (am_cnt rfl) ?_
  refine r_if_eq rfl (fun h6 => ?_) (fun h6 => ?_)
  · exact absurd c1 (b01_eq0.mp h6)
  · refine r_iload_n rfl rfl ?_
    refine r_iconst rfl ?_
    refine r_iconst rfl ?_
    refine r_callS rfl (by decide) ct_X10_isWithin rfl rfl (am_cnt rfl) ?_
    refine r_if_eq rfl (fun h15 => ?_) (fun h15 => ?_)
    · exact absurd c2 (b01_eq0.mp h15)
    · refine r_iload_n rfl rfl ?_
      refine r_iconst rfl ?_
      refine r_bipush rfl ?_
      refine r_callS rfl (by decide) ct_X10_isWithin rfl rfl (am_cnt rfl) ?_
      refine r_if_ne rfl (fun h25 => ?_) (fun h25 => ?_)
      · refine r_aload_n rfl rfl ?_
        refine r_getC rfl rfl (by decide) (by decide) rfl ?_
        refine r_getC rfl rfl (by decide) (by decide) rfl ?_
        refine r_iload_n rfl rfl ?_
        refine r_iconst rfl ?_
        refine r_imul rfl ?_
        refine r_iload_n rfl rfl ?_
        refine r_iadd rfl ?_
        refine r_iald rfl rfl (by first | decide | assumption) (by first | exact s1 | exact s2) (by first | exact s1 | exact s2) ?_
        refine r_istore rfl ?_
        refine r_aload_n rfl rfl ?_
        refine r_getC rfl rfl (by decide) (by decide) rfl ?_
        refine r_getC rfl rfl (by decide) (by decide) rfl ?_
        refine r_iload_n rfl rfl ?_
        refine r_iconst rfl ?_
        refine r_imul rfl ?_
        refine r_iload_n rfl rfl ?_
        refine r_iadd rfl ?_
        refine r_iload_n rfl rfl ?_
        refine r_iast rfl rfl (by first | decide | assumption) (by first | exact s1 | exact s2) (by first | exact s1 | exact s2) ?_
        refine r_iload rfl rfl ?_
        refine r_iret rfl rfl ?_
        rw [b1]
        exact ⟨rfl, rfl⟩
      · exact absurd hv (b01_eq0.mp h25)
theorem ct_X10_weight_no {d : Nat} {S : am_S} {i j v : Int32} (h : ¬ ((0 ≤ i ∧ i ≤ 2) ∧ (0 ≤ j ∧ j ≤ 2) ∧ (0 ≤ v ∧ v ≤ 99))) : am_CT (d + 2) iX10_weight [.ref 0, .int i, .int j, .int v] S (some (.int (-1))) (S) := by
  refine am_CT_in mmX10_weight rfl rfl rfl ?_
  refine r_iload_n rfl rfl ?_
  refine r_iconst rfl ?_
  refine r_iconst rfl ?_
  refine r_callS rfl (by decide) ct_X10_isWithin rfl rfl (am_cnt rfl) ?_
  refine r_if_eq rfl (fun h6 => ?_) (fun h6 => ?_)
  · refine r_iconst rfl ?_
    refine r_iret rfl rfl ?_
    exact ⟨rfl, rfl⟩
  · refine r_iload_n rfl rfl ?_
    refine r_iconst rfl ?_
    refine r_iconst rfl ?_
    refine r_callS rfl (by decide) ct_X10_isWithin rfl rfl (am_cnt rfl) ?_
    refine r_if_eq rfl (fun h15 => ?_) (fun h15 => ?_)
    · refine r_iconst rfl ?_
      refine r_iret rfl rfl ?_
      exact ⟨rfl, rfl⟩
    · refine r_iload_n rfl rfl ?_
      refine r_iconst rfl ?_
      refine r_bipush rfl ?_
      refine r_callS rfl (by decide) ct_X10_isWithin rfl rfl (am_cnt rfl) ?_
      refine r_if_ne rfl (fun h25 => ?_) (fun h25 => ?_)
      · exfalso
        simp only [b01_eq0] at *
        grind
      · refine r_iconst rfl ?_
        refine r_iret rfl rfl ?_
        exact ⟨rfl, rfl⟩
theorem ct_X10_set_no {d : Nat} {S : am_S} {p w v : Int32} (hz : gI S 1 1 ≤ 6) (h : ¬ (hasP S p ∧ ((w = 0 ∧ 0 ≤ v ∧ v ≤ 20) ∨ (w = 1 ∧ 0 ≤ v ∧ v ≤ 20) ∨ (w = 2 ∧ 0 ≤ v ∧ v ≤ 9)))) : am_CT (d + 2) iX10_set [.ref 0, .int p, .int w, .int v] S (some (.int (-1))) (S) := by
  refine am_CT_in mmX10_set rfl rfl rfl ?_
  refine r_aload_n rfl rfl ?_
  refine r_getC rfl rfl (by decide) (by decide) rfl ?_
  refine r_iload_n rfl rfl ?_
  refine r_callV rfl ct_X9_has rfl rfl rfl (by decide) rfl (am_cnt rfl) ?_
  refine r_if_ne rfl (fun h8 => ?_) (fun h8 => ?_)
  · have hp : hasP S p := Decidable.not_not.mp fun z => h8 (b01_eq0.mpr z)
    have hl : p < 6 := Int32.lt_of_lt_of_le hp.2 hz
    have hj : p.toNatClampNeg < 6 := cl_lt hp.1 hl (by decide)
    refine r_aload_n rfl rfl ?_
    refine r_getC rfl rfl (by decide) (by decide) rfl ?_
    refine r_getC rfl rfl (by decide) (by decide) rfl ?_
    refine r_iload_n rfl rfl ?_
    refine r_aaldP rfl rfl (by first | exact hp.1 | exact hl) (by first | exact hp.1 | exact hl) ?_
    refine r_astore rfl ?_
    refine r_iload_n rfl rfl ?_
    refine r_if_ne rfl (fun h25 => ?_) (fun h25 => ?_)
    · refine r_iload_n rfl rfl ?_
      refine r_iconst rfl ?_
      refine r_icmp_ne rfl (fun h56 => ?_) (fun h56 => ?_)
      · refine r_iload_n rfl rfl ?_
        refine r_iconst rfl ?_
        refine r_icmp_ne rfl (fun h87 => ?_) (fun h87 => ?_)
        · refine r_iconst rfl ?_
          refine r_istore rfl ?_
          refine r_iload rfl rfl ?_
          refine r_iret rfl rfl ?_
          exact ⟨rfl, rfl⟩
        · refine r_iload_n rfl rfl ?_
          refine r_iconst rfl ?_
          refine r_bipush rfl ?_
          refine r_callS rfl (by decide) ct_X10_isWithin rfl rfl (am_cnt rfl) ?_
          refine r_if_eq rfl (fun h97 => ?_) (fun h97 => ?_)
          · refine r_iconst rfl ?_
            refine r_istore rfl ?_
            refine r_iload rfl rfl ?_
            refine r_iret rfl rfl ?_
            exact ⟨rfl, rfl⟩
          · exfalso
            simp only [b01_eq0] at *
            grind
      · refine r_iload_n rfl rfl ?_
        refine r_iconst rfl ?_
        refine r_bipush rfl ?_
        refine r_callS rfl (by decide) ct_X10_isWithin rfl rfl (am_cnt rfl) ?_
        refine r_if_eq rfl (fun h66 => ?_) (fun h66 => ?_)
        · refine r_iload_n rfl rfl ?_
          refine r_iconst rfl ?_
          refine r_icmp_ne rfl (fun h87 => ?_) (fun h87 => ?_)
          · refine r_iconst rfl ?_
            refine r_istore rfl ?_
            refine r_iload rfl rfl ?_
            refine r_iret rfl rfl ?_
            exact ⟨rfl, rfl⟩
          · refine r_iload_n rfl rfl ?_
            refine r_iconst rfl ?_
            refine r_bipush rfl ?_
            refine r_callS rfl (by decide) ct_X10_isWithin rfl rfl (am_cnt rfl) ?_
            refine r_if_eq rfl (fun h97 => ?_) (fun h97 => ?_)
            · refine r_iconst rfl ?_
              refine r_istore rfl ?_
              refine r_iload rfl rfl ?_
              refine r_iret rfl rfl ?_
              exact ⟨rfl, rfl⟩
            · exfalso
              simp only [b01_eq0] at *
              grind
        · exfalso
          simp only [b01_eq0] at *
          grind
    · refine r_iload_n rfl rfl ?_
      refine r_iconst rfl ?_
      refine r_bipush rfl ?_
      refine r_callS rfl (by decide) ct_X10_isWithin rfl rfl (am_cnt rfl) ?_
      refine r_if_eq rfl (fun h35 => ?_) (fun h35 => ?_)
      · refine r_iload_n rfl rfl ?_
        refine r_iconst rfl ?_
        refine r_icmp_ne rfl (fun h56 => ?_) (fun h56 => ?_)
        · refine r_iload_n rfl rfl ?_
          refine r_iconst rfl ?_
          refine r_icmp_ne rfl (fun h87 => ?_) (fun h87 => ?_)
          · refine r_iconst rfl ?_
            refine r_istore rfl ?_
            refine r_iload rfl rfl ?_
            refine r_iret rfl rfl ?_
            exact ⟨rfl, rfl⟩
          · refine r_iload_n rfl rfl ?_
            refine r_iconst rfl ?_
            refine r_bipush rfl ?_
            refine r_callS rfl (by decide) ct_X10_isWithin rfl rfl (am_cnt rfl) ?_
            refine r_if_eq rfl (fun h97 => ?_) (fun h97 => ?_)
            · refine r_iconst rfl ?_
              refine r_istore rfl ?_
              refine r_iload rfl rfl ?_
              refine r_iret rfl rfl ?_
              exact ⟨rfl, rfl⟩
            · exfalso
              simp only [b01_eq0] at *
              grind
        · refine r_iload_n rfl rfl ?_
          refine r_iconst rfl ?_
          refine r_bipush rfl ?_
          refine r_callS rfl (by decide) ct_X10_isWithin rfl rfl (am_cnt rfl) ?_
          refine r_if_eq rfl (fun h66 => ?_) (fun h66 => ?_)
          · refine r_iload_n rfl rfl ?_
            refine r_iconst rfl ?_
            refine r_icmp_ne rfl (fun h87 => ?_) (fun h87 => ?_)
            · refine r_iconst rfl ?_
              refine r_istore rfl ?_
              refine r_iload rfl rfl ?_
              refine r_iret rfl rfl ?_
              exact ⟨rfl, rfl⟩
            · refine r_iload_n rfl rfl ?_
              refine r_iconst rfl ?_
              refine r_bipush rfl ?_
              refine r_callS rfl (by decide) ct_X10_isWithin rfl rfl (am_cnt rfl) ?_
              refine r_if_eq rfl (fun h97 => ?_) (fun h97 => ?_)
              · refine r_iconst rfl ?_
                refine r_istore rfl ?_
                refine r_iload rfl rfl ?_
                refine r_iret rfl rfl ?_
                exact ⟨rfl, rfl⟩
              · exfalso
                simp only [b01_eq0] at *
                grind
          · exfalso
            simp only [b01_eq0] at *
            grind
      · exfalso
        simp only [b01_eq0] at *
        grind
  · refine r_iconst rfl ?_
    refine r_iret rfl rfl ?_
    exact ⟨rfl, rfl⟩
/-- which field, up to how much -/
theorem ct_X10_set_ok {d : Nat} {S : am_S} {p v : Int32} {w : Nat} (hz : gI S 1 1 ≤ 6) (hp : hasP S p) (hw : w < 3) (hv : 0 ≤ v ∧ v ≤ (if w = 2 then 9 else 20)) : am_CT (d + 2) iX10_set [.ref 0, .int p, .int (nI w), .int v] S (some (.int (gI S (cP p) w))) (uI S (cP p) w v) := by
  refine am_CT_in mmX10_set rfl rfl rfl ?_
  have hl : p < 6 := Int32.lt_of_lt_of_le hp.2 hz
  have hj : p.toNatClampNeg < 6 := cl_lt hp.1 hl (by decide)
  match w, hw with
  | 0, _ =>
    rw [if_neg (by decide)] at hv
    refine r_aload_n rfl rfl ?_
    refine r_getC rfl rfl (by decide) (by decide) rfl ?_
    refine r_iload_n rfl rfl ?_
    refine r_callV rfl ct_X9_has rfl rfl rfl (by decide) rfl (am_cnt rfl) ?_
    refine r_if_ne rfl (fun h8 => ?_) (fun h8 => ?_)
    · refine r_aload_n rfl rfl ?_
      refine r_getC rfl rfl (by decide) (by decide) rfl ?_
      refine r_getC rfl rfl (by decide) (by decide) rfl ?_
      refine r_iload_n rfl rfl ?_
      refine r_aaldP rfl rfl (by first | exact hp.1 | exact hl) (by first | exact hp.1 | exact hl) ?_
      refine r_astore rfl ?_
      refine r_iload_n rfl rfl ?_
      refine r_if_ne rfl (fun h25 => ?_) (fun h25 => ?_)
      · exact absurd rfl h25
      · refine r_iload_n rfl rfl ?_
        refine r_iconst rfl ?_
        refine r_bipush rfl ?_
        refine r_callS rfl (by decide) ct_X10_isWithin rfl rfl (am_cnt rfl) ?_
        refine r_if_eq rfl (fun h35 => ?_) (fun h35 => ?_)
        · exact absurd hv (b01_eq0.mp h35)
        · refine r_aload rfl rfl ?_
          refine r_getI rfl (kn_person hj) (by decide) (by decide) rfl ?_
          refine r_istore rfl ?_
          refine r_aload rfl rfl ?_
          refine r_iload_n rfl rfl ?_
          refine r_putI rfl (kn_person hj) (by decide) (by decide) rfl ?_
          refine r_goto rfl ?_
          refine r_iload rfl rfl ?_
          refine r_iret rfl rfl ?_
          exact ⟨rfl, rfl⟩
    · exact absurd hp (b01_eq0.mp h8)
  | 1, _ =>
    rw [if_neg (by decide)] at hv
    refine r_aload_n rfl rfl ?_
    refine r_getC rfl rfl (by decide) (by decide) rfl ?_
    refine r_iload_n rfl rfl ?_
    refine r_callV rfl ct_X9_has rfl rfl rfl (by decide) rfl (am_cnt rfl) ?_
    refine r_if_ne rfl (fun h8 => ?_) (fun h8 => ?_)
    · refine r_aload_n rfl rfl ?_
      refine r_getC rfl rfl (by decide) (by decide) rfl ?_
      refine r_getC rfl rfl (by decide) (by decide) rfl ?_
      refine r_iload_n rfl rfl ?_
      refine r_aaldP rfl rfl (by first | exact hp.1 | exact hl) (by first | exact hp.1 | exact hl) ?_
      refine r_astore rfl ?_
      refine r_iload_n rfl rfl ?_
      refine r_if_ne rfl (fun h25 => ?_) (fun h25 => ?_)
      · refine r_iload_n rfl rfl ?_
        refine r_iconst rfl ?_
        refine r_icmp_ne rfl (fun h56 => ?_) (fun h56 => ?_)
        · exact absurd rfl h56
        · refine r_iload_n rfl rfl ?_
          refine r_iconst rfl ?_
          refine r_bipush rfl ?_
          refine r_callS rfl (by decide) ct_X10_isWithin rfl rfl (am_cnt rfl) ?_
          refine r_if_eq rfl (fun h66 => ?_) (fun h66 => ?_)
          · exact absurd hv (b01_eq0.mp h66)
          · refine r_aload rfl rfl ?_
            refine r_getI rfl (kn_person hj) (by decide) (by decide) rfl ?_
            refine r_istore rfl ?_
            refine r_aload rfl rfl ?_
            refine r_iload_n rfl rfl ?_
            refine r_putI rfl (kn_person hj) (by decide) (by decide) rfl ?_
            refine r_goto rfl ?_
            refine r_iload rfl rfl ?_
            refine r_iret rfl rfl ?_
            exact ⟨rfl, rfl⟩
      · exact absurd h25 (by decide)
    · exact absurd hp (b01_eq0.mp h8)
  | 2, _ =>
    rw [if_pos (by decide)] at hv
    refine r_aload_n rfl rfl ?_
    refine r_getC rfl rfl (by decide) (by decide) rfl ?_
    refine r_iload_n rfl rfl ?_
    refine r_callV rfl ct_X9_has rfl rfl rfl (by decide) rfl (am_cnt rfl) ?_
    refine r_if_ne rfl (fun h8 => ?_) (fun h8 => ?_)
    · refine r_aload_n rfl rfl ?_
      refine r_getC rfl rfl (by decide) (by decide) rfl ?_
      refine r_getC rfl rfl (by decide) (by decide) rfl ?_
      refine r_iload_n rfl rfl ?_
      refine r_aaldP rfl rfl (by first | exact hp.1 | exact hl) (by first | exact hp.1 | exact hl) ?_
      refine r_astore rfl ?_
      refine r_iload_n rfl rfl ?_
      refine r_if_ne rfl (fun h25 => ?_) (fun h25 => ?_)
      · refine r_iload_n rfl rfl ?_
        refine r_iconst rfl ?_
        refine r_icmp_ne rfl (fun h56 => ?_) (fun h56 => ?_)
        · refine r_iload_n rfl rfl ?_
          refine r_iconst rfl ?_
          refine r_icmp_ne rfl (fun h87 => ?_) (fun h87 => ?_)
          · exact absurd rfl h87
          · refine r_iload_n rfl rfl ?_
            refine r_iconst rfl ?_
            refine r_bipush rfl ?_
            refine r_callS rfl (by decide) ct_X10_isWithin rfl rfl (am_cnt rfl) ?_
            refine r_if_eq rfl (fun h97 => ?_) (fun h97 => ?_)
            · exact absurd hv (b01_eq0.mp h97)
            · refine r_aload rfl rfl ?_
              refine r_getI rfl (kn_person hj) (by decide) (by decide) rfl ?_
              refine r_istore rfl ?_
              refine r_aload rfl rfl ?_
              refine r_iload_n rfl rfl ?_
              refine r_putI rfl (kn_person hj) (by decide) (by decide) rfl ?_
              refine r_goto rfl ?_
              refine r_iload rfl rfl ?_
              refine r_iret rfl rfl ?_
              exact ⟨rfl, rfl⟩
        · exact absurd h56 (by decide)
      · exact absurd h25 (by decide)
    · exact absurd hp (b01_eq0.mp h8)
end
section
/-! THE REFERENCE: cell 97. Small methods. -/
theorem fa_lt (a b : Int32) : a < b ↔ a.toInt < b.toInt := Int32.lt_iff_toInt_lt
theorem fa_le (a b : Int32) : a ≤ b ↔ a.toInt ≤ b.toInt := Int32.le_iff_toInt_le
theorem fa_lt64 (a b : Int64) : a < b ↔ a.toInt < b.toInt := Int64.lt_iff_toInt_lt
theorem fa_le64 (a b : Int64) : a ≤ b ↔ a.toInt ≤ b.toInt := Int64.le_iff_toInt_le
theorem fa_wide_lt (a b : Int32) : a.toInt64 < b.toInt64 ↔ a < b := by rw [fa_lt64, fa_lt, Int32.toInt_toInt64, Int32.toInt_toInt64]
theorem fa_wide_le (a b : Int32) : a.toInt64 ≤ b.toInt64 ↔ a ≤ b := by rw [fa_le64, fa_le, Int32.toInt_toInt64, Int32.toInt_toInt64]
theorem wl_m999 (x : Int32) : x.toInt64 ≤ (-999) ↔ x ≤ (-999) := fa_wide_le x (-999)
theorem wg_m999 (x : Int32) : (-999) ≤ x.toInt64 ↔ (-999) ≤ x := fa_wide_le (-999) x
theorem wl_m99 (x : Int32) : x.toInt64 ≤ (-99) ↔ x ≤ (-99) := fa_wide_le x (-99)
theorem wg_m99 (x : Int32) : (-99) ≤ x.toInt64 ↔ (-99) ≤ x := fa_wide_le (-99) x
theorem wl_m50 (x : Int32) : x.toInt64 ≤ (-50) ↔ x ≤ (-50) := fa_wide_le x (-50)
theorem wg_m50 (x : Int32) : (-50) ≤ x.toInt64 ↔ (-50) ≤ x := fa_wide_le (-50) x
theorem wl_m1 (x : Int32) : x.toInt64 ≤ (-1) ↔ x ≤ (-1) := fa_wide_le x (-1)
theorem wg_m1 (x : Int32) : (-1) ≤ x.toInt64 ↔ (-1) ≤ x := fa_wide_le (-1) x
theorem wl_0 (x : Int32) : x.toInt64 ≤ (0) ↔ x ≤ (0) := fa_wide_le x (0)
theorem wg_0 (x : Int32) : (0) ≤ x.toInt64 ↔ (0) ≤ x := fa_wide_le (0) x
theorem wl_1 (x : Int32) : x.toInt64 ≤ (1) ↔ x ≤ (1) := fa_wide_le x (1)
theorem wg_1 (x : Int32) : (1) ≤ x.toInt64 ↔ (1) ≤ x := fa_wide_le (1) x
theorem wl_2 (x : Int32) : x.toInt64 ≤ (2) ↔ x ≤ (2) := fa_wide_le x (2)
theorem wg_2 (x : Int32) : (2) ≤ x.toInt64 ↔ (2) ≤ x := fa_wide_le (2) x
theorem wl_3 (x : Int32) : x.toInt64 ≤ (3) ↔ x ≤ (3) := fa_wide_le x (3)
theorem wg_3 (x : Int32) : (3) ≤ x.toInt64 ↔ (3) ≤ x := fa_wide_le (3) x
theorem wl_4 (x : Int32) : x.toInt64 ≤ (4) ↔ x ≤ (4) := fa_wide_le x (4)
theorem wg_4 (x : Int32) : (4) ≤ x.toInt64 ↔ (4) ≤ x := fa_wide_le (4) x
theorem wl_6 (x : Int32) : x.toInt64 ≤ (6) ↔ x ≤ (6) := fa_wide_le x (6)
theorem wg_6 (x : Int32) : (6) ≤ x.toInt64 ↔ (6) ≤ x := fa_wide_le (6) x
theorem wl_9 (x : Int32) : x.toInt64 ≤ (9) ↔ x ≤ (9) := fa_wide_le x (9)
theorem wg_9 (x : Int32) : (9) ≤ x.toInt64 ↔ (9) ≤ x := fa_wide_le (9) x
theorem wl_10 (x : Int32) : x.toInt64 ≤ (10) ↔ x ≤ (10) := fa_wide_le x (10)
theorem wg_10 (x : Int32) : (10) ≤ x.toInt64 ↔ (10) ≤ x := fa_wide_le (10) x
theorem wl_11 (x : Int32) : x.toInt64 ≤ (11) ↔ x ≤ (11) := fa_wide_le x (11)
theorem wg_11 (x : Int32) : (11) ≤ x.toInt64 ↔ (11) ≤ x := fa_wide_le (11) x
theorem wl_20 (x : Int32) : x.toInt64 ≤ (20) ↔ x ≤ (20) := fa_wide_le x (20)
theorem wg_20 (x : Int32) : (20) ≤ x.toInt64 ↔ (20) ≤ x := fa_wide_le (20) x
theorem wl_48 (x : Int32) : x.toInt64 ≤ (48) ↔ x ≤ (48) := fa_wide_le x (48)
theorem wg_48 (x : Int32) : (48) ≤ x.toInt64 ↔ (48) ≤ x := fa_wide_le (48) x
theorem wl_50 (x : Int32) : x.toInt64 ≤ (50) ↔ x ≤ (50) := fa_wide_le x (50)
theorem wg_50 (x : Int32) : (50) ≤ x.toInt64 ↔ (50) ≤ x := fa_wide_le (50) x
theorem wl_57 (x : Int32) : x.toInt64 ≤ (57) ↔ x ≤ (57) := fa_wide_le x (57)
theorem wg_57 (x : Int32) : (57) ≤ x.toInt64 ↔ (57) ≤ x := fa_wide_le (57) x
theorem wl_99 (x : Int32) : x.toInt64 ≤ (99) ↔ x ≤ (99) := fa_wide_le x (99)
theorem wg_99 (x : Int32) : (99) ≤ x.toInt64 ↔ (99) ≤ x := fa_wide_le (99) x
theorem wl_100 (x : Int32) : x.toInt64 ≤ (100) ↔ x ≤ (100) := fa_wide_le x (100)
theorem wg_100 (x : Int32) : (100) ≤ x.toInt64 ↔ (100) ≤ x := fa_wide_le (100) x
theorem wl_199 (x : Int32) : x.toInt64 ≤ (199) ↔ x ≤ (199) := fa_wide_le x (199)
theorem wg_199 (x : Int32) : (199) ≤ x.toInt64 ↔ (199) ≤ x := fa_wide_le (199) x
theorem wl_222 (x : Int32) : x.toInt64 ≤ (222) ↔ x ≤ (222) := fa_wide_le x (222)
theorem wg_222 (x : Int32) : (222) ≤ x.toInt64 ↔ (222) ≤ x := fa_wide_le (222) x
theorem wl_999 (x : Int32) : x.toInt64 ≤ (999) ↔ x ≤ (999) := fa_wide_le x (999)
theorem wg_999 (x : Int32) : (999) ≤ x.toInt64 ↔ (999) ≤ x := fa_wide_le (999) x
theorem wl_9999 (x : Int32) : x.toInt64 ≤ (9999) ↔ x ≤ (9999) := fa_wide_le x (9999)
theorem wg_9999 (x : Int32) : (9999) ≤ x.toInt64 ↔ (9999) ≤ x := fa_wide_le (9999) x
theorem lc_lt (x y : Int64) : lg_cmp x y < 0 ↔ x < y := by
  unfold lg_cmp
  split
  · rename_i h
    exact ⟨fun z => absurd z (by decide), fun z => absurd h (lg_lt_not z)⟩
  · split
    · rename_i h1 h
      subst h
      exact ⟨fun z => absurd z (by decide), fun z => absurd z h1⟩
    · rename_i h1 h2
      refine ⟨fun _ => ?_, fun _ => by decide⟩
      rw [fa_lt64]
      have h3 : ¬ y.toInt < x.toInt := fun z => h1 ((fa_lt64 y x).mpr z)
      have h4 : ¬ x.toInt = y.toInt := fun z => h2 (Int64.toInt_inj.mp z)
      omega
theorem lc_gt (x y : Int64) : 0 < lg_cmp x y ↔ y < x := by
  unfold lg_cmp
  split
  · rename_i h
    exact ⟨fun _ => h, fun _ => by decide⟩
  · split
    · rename_i h1 h
      exact ⟨fun z => absurd z (by decide), fun z => absurd z h1⟩
    · rename_i h1 h2
      exact ⟨fun z => absurd z (by decide), fun z => absurd z h1⟩
theorem lc_eq (x y : Int64) : lg_cmp x y = 0 ↔ x = y := by
  unfold lg_cmp
  split
  · rename_i h
    refine ⟨fun z => absurd z (by decide), fun z => ?_⟩
    subst z
    exact absurd h (fun q => lg_lt_not q q)
  · split
    · rename_i h1 h
      exact ⟨fun _ => h, fun _ => rfl⟩
    · rename_i h1 h2
      exact ⟨fun z => absurd z (by decide), fun z => absurd z h2⟩
theorem ct_X11_in {d : Nat} {S : am_S} {v l h : Int64} : am_CT (d + 1) iX11_in [.long v, .long l, .long h] S (some (.int (b01 (l ≤ v ∧ v ≤ h)))) (S) := by
  refine am_CT_in mmX11_in rfl rfl rfl ?_
  refine r_lload_n rfl rfl ?_
  refine r_lload_n rfl rfl ?_
  refine r_lcmp rfl ?_
  refine r_if_lt rfl (fun h3 => ?_) (fun h3 => ?_)
  · rw [lc_lt] at h3
    have e : ¬ (l ≤ v ∧ v ≤ h) := fun z => Int64.not_le.mpr h3 z.1
    refine r_iconst rfl ?_
    refine r_zret rfl rfl (by simp) ?_
    exact ⟨by first | rw [b01_t e] | rw [b01_f e], rfl⟩
  · have h3b : l ≤ v := Int64.not_lt.mp fun z => h3 ((lc_lt v l).mpr z)
    refine r_lload_n rfl rfl ?_
    refine r_lload rfl rfl ?_
    refine r_lcmp rfl ?_
    refine r_if_gt rfl (fun h10 => ?_) (fun h10 => ?_)
    · rw [lc_gt] at h10
      have e : ¬ (l ≤ v ∧ v ≤ h) := fun z => Int64.not_le.mpr h10 z.2
      refine r_iconst rfl ?_
      refine r_zret rfl rfl (by simp) ?_
      exact ⟨by first | rw [b01_t e] | rw [b01_f e], rfl⟩
    · have h10b : v ≤ h := Int64.not_lt.mp fun z => h10 ((lc_gt v h).mpr z)
      have e : (l ≤ v ∧ v ≤ h) := ⟨h3b, h10b⟩
      refine r_iconst rfl ?_
      refine r_goto rfl ?_
      refine r_zret rfl rfl (by simp) ?_
      exact ⟨by first | rw [b01_t e] | rw [b01_f e], rfl⟩
theorem and1_or (x : Int32) : x &&& 1 = 0 ∨ x &&& 1 = 1 := by
  obtain ⟨j, hj, e⟩ := pk_andE x (m := 1) 1 (by decide)
  match j, hj with
  | 0, _ => exact Or.inl e
  | 1, _ => exact Or.inr e
theorem ct_X11_has {d : Nat} {S : am_S} {w i : Int32} : am_CT (d + 1) iX11_has [.int w, .int i] S (some (.int (b01 (fBit w i)))) (S) := by
  refine am_CT_in mmX11_has rfl rfl rfl ?_
  have hx := and1_or (w >>> (i &&& 31))
  refine r_iload_n rfl rfl ?_
  refine r_iload_n rfl rfl ?_
  refine r_ishr rfl ?_
  refine r_iconst rfl ?_
  refine r_iand rfl ?_
  refine r_iconst rfl ?_
  refine r_icmp_ne rfl (fun h6 => ?_) (fun h6 => ?_)
  · refine r_iconst rfl ?_
    refine r_zret rfl rfl (by simp) ?_
    exact ⟨by simp only [b01, fBit]; grind, rfl⟩
  · refine r_iconst rfl ?_
    refine r_goto rfl ?_
    refine r_zret rfl rfl (by simp) ?_
    exact ⟨by simp only [b01, fBit]; grind, rfl⟩
theorem ct_X11_flag {d : Nat} {S : am_S} {z : Int32} (hz : z = 0 ∨ z = 1) : am_CT (d + 1) iX11_flag [.int z] S (some (.int z)) (S) := by
  refine am_CT_in mmX11_flag rfl rfl rfl ?_
  refine r_iload_n rfl rfl ?_
  refine r_if_eq rfl (fun h1 => ?_) (fun h1 => ?_)
  · refine r_iconst rfl ?_
    refine r_iret rfl rfl ?_
    exact ⟨by grind, rfl⟩
  · refine r_iconst rfl ?_
    refine r_goto rfl ?_
    refine r_iret rfl rfl ?_
    exact ⟨by grind, rfl⟩
theorem neg_le0 {m : Int32} (h : 0 ≤ m) : -m ≤ 0 := by
  obtain ⟨j, hj, rfl⟩ := nI_of (Int32.not_lt.mpr h)
  rw [fa_le, sb_negT hj]
  show -(j : Int) ≤ 0
  omega
theorem fPut_eq {v m : Int32} (hm : 0 ≤ m) : (if -m < (if v < m then v else m) then (if v < m then v else m) else -m) = fPut v m := by
  have hneg := neg_le0 hm
  generalize hq : -m = q at *
  unfold fPut
  rw [hq]
  by_cases a : v < m
  · rw [if_pos a]
    by_cases b : q < v
    · rw [if_pos b, if_neg (by grind), if_neg (by grind)]
    · rw [if_neg b]
      by_cases c : v < q
      · rw [if_pos c]
      · rw [if_neg c, if_neg (by grind)]
        grind
  · rw [if_neg a]
    by_cases b : q < m
    · rw [if_pos b, if_neg (by grind)]
      grind
    · rw [if_neg b]
      grind
theorem ct_X11_put {d : Nat} {S : am_S} {v m : Int32} (hm : 0 ≤ m) : am_CT (d + 1) iX11_put [.int v, .int m] S (some (.int (fPut v m))) (S) := by
  refine am_CT_in mmX11_put rfl rfl rfl ?_
  refine r_iload_n rfl rfl ?_
  refine r_ineg rfl ?_
  refine r_iload_n rfl rfl ?_
  refine r_iload_n rfl rfl ?_
  refine r_min rfl (am_cnt rfl) ?_
  refine r_max rfl (am_cnt rfl) ?_
  refine r_iret rfl rfl ?_
  rw [fPut_eq hm]
  exact ⟨rfl, rfl⟩
abbrev hasM (S : am_S) (p : Int32) : Prop := 0 ≤ p ∧ p < gI S 97 3
abbrev twoM (S : am_S) (p q : Int32) : Prop := hasM S p ∧ hasM S q ∧ ¬ p = q
theorem ct_X11_isPerson {d : Nat} {S : am_S} {p : Int32} (hz : 0 ≤ gI S 97 3) : am_CT (d + 2) iX11_isPerson [.ref 97, .int p] S (some (.int (b01 (hasM S p)))) (S) := by
  refine am_CT_in mmX11_isPerson rfl rfl rfl ?_
  refine r_iload_n rfl rfl ?_
  refine r_i2l rfl ?_
  refine r_lconst rfl ?_
  refine r_aload_n rfl rfl ?_
  refine r_getI rfl rfl (by decide) (by decide) rfl ?_
  refine r_iconst rfl ?_
  refine r_isub rfl ?_
  refine r_i2l rfl ?_
  refine r_callS rfl (by decide) ct_X11_in rfl rfl (am_cnt rfl) ?_
  refine r_zret rfl rfl (by exact b01_or) ?_
  refine ⟨?_, rfl⟩
  simp only [wg_0, fa_wide_le, b01, hasM]
  grind
theorem ct_X11_arePair {d : Nat} {S : am_S} {p q : Int32} (hz : 0 ≤ gI S 97 3) : am_CT (d + 3) iX11_arePair [.ref 97, .int p, .int q] S (some (.int (b01 (twoM S p q)))) (S) := by
  refine am_CT_in mmX11_arePair rfl rfl rfl ?_
  refine r_aload_n rfl rfl ?_
  refine r_iload_n rfl rfl ?_
  refine r_callV rfl (ct_X11_isPerson hz) rfl rfl rfl (by decide) rfl (am_cnt rfl) ?_
  refine r_if_eq rfl (fun h5 => ?_) (fun h5 => ?_)
  · refine r_iconst rfl ?_
    refine r_zret rfl rfl (by simp) ?_
    exact ⟨by simp only [b01_eq0, b01] at *; grind, rfl⟩
  · refine r_aload_n rfl rfl ?_
    refine r_iload_n rfl rfl ?_
    refine r_callV rfl (ct_X11_isPerson hz) rfl rfl rfl (by decide) rfl (am_cnt rfl) ?_
    refine r_if_eq rfl (fun h13 => ?_) (fun h13 => ?_)
    · refine r_iconst rfl ?_
      refine r_zret rfl rfl (by simp) ?_
      exact ⟨by simp only [b01_eq0, b01] at *; grind, rfl⟩
    · refine r_iload_n rfl rfl ?_
      refine r_iload_n rfl rfl ?_
      refine r_icmp_eq rfl (fun h18 => ?_) (fun h18 => ?_)
      · refine r_iconst rfl ?_
        refine r_zret rfl rfl (by simp) ?_
        exact ⟨by simp only [b01_eq0, b01] at *; grind, rfl⟩
      · refine r_iconst rfl ?_
        refine r_goto rfl ?_
        refine r_zret rfl rfl (by simp) ?_
        exact ⟨by simp only [b01_eq0, b01] at *; grind, rfl⟩
theorem ct_X11_mostOf {d : Nat} {S : am_S} {w : Int32} : am_CT (d + 1) iX11_mostOf [.int w] S (some (.int (if w = 2 then 9 else 20))) (S) := by
  refine am_CT_in mmX11_mostOf rfl rfl rfl ?_
  refine r_iload_n rfl rfl ?_
  refine r_iconst rfl ?_
  refine r_icmp_ne rfl (fun h2 => ?_) (fun h2 => ?_)
  · refine r_bipush rfl ?_
    refine r_iret rfl rfl ?_
    exact ⟨by grind, rfl⟩
  · refine r_bipush rfl ?_
    refine r_goto rfl ?_
    refine r_iret rfl rfl ?_
    exact ⟨by grind, rfl⟩
theorem ct_X11_with {d : Nat} {S : am_S} {w i f : Int32} : am_CT (d + 1) iX11_with [.int w, .int i, .int f] S (some (.int (fWith w i f))) (S) := by
  refine am_CT_in mmX11_with rfl rfl rfl ?_
  refine r_iload_n rfl rfl ?_
  refine r_if_eq rfl (fun h1 => ?_) (fun h1 => ?_)
  · refine r_iload_n rfl rfl ?_
    refine r_iconst rfl ?_
    refine r_iload_n rfl rfl ?_
    refine r_ishl rfl ?_
    refine r_iconst rfl ?_
    refine r_ixor rfl ?_
    refine r_iand rfl ?_
    refine r_iret rfl rfl ?_
    exact ⟨by simp [fWith, *], rfl⟩
  · refine r_iload_n rfl rfl ?_
    refine r_iconst rfl ?_
    refine r_iload_n rfl rfl ?_
    refine r_ishl rfl ?_
    refine r_ior rfl ?_
    refine r_goto rfl ?_
    refine r_iret rfl rfl ?_
    exact ⟨by simp [fWith, *], rfl⟩
theorem ct_X11_refuse {d : Nat} {S : am_S} : am_CT (d + 1) iX11_refuse [.ref 97] S (some (.int 0)) (uI S 97 0 1) := by
  refine am_CT_in mmX11_refuse rfl rfl rfl ?_
  refine r_aload_n rfl rfl ?_
  refine r_iconst rfl ?_
  refine r_putI rfl rfl (by decide) (by decide) rfl ?_
  refine r_iconst rfl ?_
  refine r_iret rfl rfl ?_
  exact ⟨rfl, rfl⟩
theorem ct_X11_thrown {d : Nat} {S : am_S} : am_CT (d + 1) iX11_thrown [.ref 97] S (some (.int (gI S 97 0))) (S) := by
  refine am_CT_in mmX11_thrown rfl rfl rfl ?_
  refine r_aload_n rfl rfl ?_
  refine r_getI rfl rfl (by decide) (by decide) rfl ?_
  refine r_iret rfl rfl ?_
  exact ⟨rfl, rfl⟩
def eAdd (S : am_S) (v : Int64) (n : Nat) : am_S := uI (uJ S 98 n v) 97 1 (nI (n + 1))
theorem ct_X11_enters {d : Nat} {S : am_S} {v : Int64} {n : Nat} (hn : gI S 97 1 = nI n) (hb : n < 16) : am_CT (d + 1) iX11_enters [.ref 97, .long v] S (none) (eAdd S v n) := by
  refine am_CT_in mmX11_enters rfl rfl rfl ?_
  have s1 : 0 ≤ gI S 97 1 := by rw [hn]; exact nI_pos' (by omega)
  have s2 : gI S 97 1 < 16 := by rw [hn]; exact nI_lt (b := 16) (by omega) (by omega)
  have e2 : (gI S 97 1).toNatClampNeg = n := by rw [hn, nI_clamp (by omega)]
  refine r_aload_n rfl rfl ?_
  refine r_getC rfl rfl (by decide) (by decide) rfl ?_
  refine r_aload_n rfl rfl ?_
  refine r_getI rfl rfl (by decide) (by decide) rfl ?_
  refine r_lload_n rfl rfl ?_
  refine r_last rfl rfl (by first | decide | assumption) (by first | exact s1 | exact s2) (by first | exact s1 | exact s2) ?_
  refine r_aload_n rfl rfl ?_
  refine r_dup rfl rfl ?_
  refine r_getI rfl rfl (by decide) (by decide) rfl ?_
  refine r_iconst rfl ?_
  refine r_iadd rfl ?_
  refine r_putI rfl rfl (by decide) (by decide) rfl ?_
  refine r_vret rfl ?_
  rw [e2]
  refine ⟨rfl, ?_⟩
  rw [eAdd, ← nI_1, ← hn]
  rfl
end
