section
/-- a private method of a class that the tables say can be made, by its rows of tables_1 -/
def lw_okq (q : MethodName × Nat) : Prop := (q.1.cls ≠ "java/lang/invoke/MethodHandle" ∧ q.1.cls ≠ "java/lang/invoke/VarHandle") ∧ Cond.instantiable q.1.cls q.2 ∈ tables_1 ∧ Cond.privateMethod q.1 ∈ tables_1 ∧ Cond.instanceMethod q.1 ∈ tables_1
theorem lw_p0 : lw_okq (⟨"TheyHearLate$Reader", "startAnew", "()V"⟩, 10) := ⟨⟨by decide +kernel, by decide +kernel⟩, List.mem_of_getElem? (i := 176) (by decide +kernel), List.mem_of_getElem? (i := 420) (by decide +kernel), List.mem_of_getElem? (i := 421) (by decide +kernel)⟩
theorem lw_p1 : lw_okq (⟨"TheyHearLate$Reader", "take", "(ILjava/lang/String;)Z"⟩, 10) := ⟨⟨by decide +kernel, by decide +kernel⟩, List.mem_of_getElem? (i := 176) (by decide +kernel), List.mem_of_getElem? (i := 427) (by decide +kernel), List.mem_of_getElem? (i := 428) (by decide +kernel)⟩
theorem lw_p2 : lw_okq (⟨"TheyHearLate$Reader", "takeDigit", "(I)Z"⟩, 10) := ⟨⟨by decide +kernel, by decide +kernel⟩, List.mem_of_getElem? (i := 176) (by decide +kernel), List.mem_of_getElem? (i := 431) (by decide +kernel), List.mem_of_getElem? (i := 432) (by decide +kernel)⟩
theorem lw_p3 : lw_okq (⟨"TheyHearLate$Reader", "takeAhead", "(ILjava/lang/String;)Z"⟩, 10) := ⟨⟨by decide +kernel, by decide +kernel⟩, List.mem_of_getElem? (i := 176) (by decide +kernel), List.mem_of_getElem? (i := 435) (by decide +kernel), List.mem_of_getElem? (i := 436) (by decide +kernel)⟩
theorem lw_p4 : lw_okq (⟨"TheyHearLate$Reader", "putOff", "(I)V"⟩, 10) := ⟨⟨by decide +kernel, by decide +kernel⟩, List.mem_of_getElem? (i := 176) (by decide +kernel), List.mem_of_getElem? (i := 439) (by decide +kernel), List.mem_of_getElem? (i := 440) (by decide +kernel)⟩
theorem lw_p5 : lw_okq (⟨"TheyHearLate$Reader", "open", "()Z"⟩, 10) := ⟨⟨by decide +kernel, by decide +kernel⟩, List.mem_of_getElem? (i := 176) (by decide +kernel), List.mem_of_getElem? (i := 443) (by decide +kernel), List.mem_of_getElem? (i := 444) (by decide +kernel)⟩
theorem lw_p6 : lw_okq (⟨"TheyHearLate$Reader", "takeBehind", "(I)Z"⟩, 10) := ⟨⟨by decide +kernel, by decide +kernel⟩, List.mem_of_getElem? (i := 176) (by decide +kernel), List.mem_of_getElem? (i := 535) (by decide +kernel), List.mem_of_getElem? (i := 536) (by decide +kernel)⟩
theorem lw_p7 : lw_okq (⟨"TheyHearLate$Reader", "finishNumber", "()V"⟩, 10) := ⟨⟨by decide +kernel, by decide +kernel⟩, List.mem_of_getElem? (i := 176) (by decide +kernel), List.mem_of_getElem? (i := 539) (by decide +kernel), List.mem_of_getElem? (i := 540) (by decide +kernel)⟩
theorem lw_p8 : lw_okq (⟨"TheyHearLate$Reader", "close", "()Z"⟩, 10) := ⟨⟨by decide +kernel, by decide +kernel⟩, List.mem_of_getElem? (i := 176) (by decide +kernel), List.mem_of_getElem? (i := 543) (by decide +kernel), List.mem_of_getElem? (i := 544) (by decide +kernel)⟩
theorem lw_p9 : lw_okq (⟨"TheyHearLate$Reader", "finishDownTo", "(I)V"⟩, 10) := ⟨⟨by decide +kernel, by decide +kernel⟩, List.mem_of_getElem? (i := 176) (by decide +kernel), List.mem_of_getElem? (i := 547) (by decide +kernel), List.mem_of_getElem? (i := 548) (by decide +kernel)⟩
theorem lw_p10 : lw_okq (⟨"TheyHearLate", "sameMinute", "(II)I"⟩, 10) := ⟨⟨by decide +kernel, by decide +kernel⟩, List.mem_of_getElem? (i := 26) (by decide +kernel), List.mem_of_getElem? (i := 623) (by decide +kernel), List.mem_of_getElem? (i := 624) (by decide +kernel)⟩
theorem lw_p11 : lw_okq (⟨"TheyHearLate", "saidTooSoon", "(II)I"⟩, 10) := ⟨⟨by decide +kernel, by decide +kernel⟩, List.mem_of_getElem? (i := 26) (by decide +kernel), List.mem_of_getElem? (i := 635) (by decide +kernel), List.mem_of_getElem? (i := 636) (by decide +kernel)⟩
theorem lw_p12 : lw_okq (⟨"TheyHearLate", "tryOut", "(II)I"⟩, 10) := ⟨⟨by decide +kernel, by decide +kernel⟩, List.mem_of_getElem? (i := 26) (by decide +kernel), List.mem_of_getElem? (i := 651) (by decide +kernel), List.mem_of_getElem? (i := 652) (by decide +kernel)⟩
theorem lw_p13 : lw_okq (⟨"TheyHearLate$Formula", "reckon", "(II)I"⟩, 3) := ⟨⟨by decide +kernel, by decide +kernel⟩, List.mem_of_getElem? (i := 76) (by decide +kernel), List.mem_of_getElem? (i := 678) (by decide +kernel), List.mem_of_getElem? (i := 679) (by decide +kernel)⟩
theorem lw_p14 : lw_okq (⟨"TheyHearLate$Formula", "thing", "(I[I)I"⟩, 3) := ⟨⟨by decide +kernel, by decide +kernel⟩, List.mem_of_getElem? (i := 76) (by decide +kernel), List.mem_of_getElem? (i := 685) (by decide +kernel), List.mem_of_getElem? (i := 686) (by decide +kernel)⟩
theorem lw_p15 : lw_okq (⟨"TheyHearLate", "doneByAll", "(I)I"⟩, 10) := ⟨⟨by decide +kernel, by decide +kernel⟩, List.mem_of_getElem? (i := 26) (by decide +kernel), List.mem_of_getElem? (i := 741) (by decide +kernel), List.mem_of_getElem? (i := 742) (by decide +kernel)⟩
def lw_privs_1 : List (MethodName × Nat) := [(⟨"TheyHearLate$Reader", "startAnew", "()V"⟩, 10), (⟨"TheyHearLate$Reader", "take", "(ILjava/lang/String;)Z"⟩, 10), (⟨"TheyHearLate$Reader", "takeDigit", "(I)Z"⟩, 10), (⟨"TheyHearLate$Reader", "takeAhead", "(ILjava/lang/String;)Z"⟩, 10), (⟨"TheyHearLate$Reader", "putOff", "(I)V"⟩, 10), (⟨"TheyHearLate$Reader", "open", "()Z"⟩, 10), (⟨"TheyHearLate$Reader", "takeBehind", "(I)Z"⟩, 10), (⟨"TheyHearLate$Reader", "finishNumber", "()V"⟩, 10), (⟨"TheyHearLate$Reader", "close", "()Z"⟩, 10), (⟨"TheyHearLate$Reader", "finishDownTo", "(I)V"⟩, 10), (⟨"TheyHearLate", "sameMinute", "(II)I"⟩, 10), (⟨"TheyHearLate", "saidTooSoon", "(II)I"⟩, 10), (⟨"TheyHearLate", "tryOut", "(II)I"⟩, 10), (⟨"TheyHearLate$Formula", "reckon", "(II)I"⟩, 3), (⟨"TheyHearLate$Formula", "thing", "(I[I)I"⟩, 3), (⟨"TheyHearLate", "doneByAll", "(I)I"⟩, 10)]
theorem lw_r1 : ∀ q ∈ lw_privs_1, lw_okq q := List.forall_mem_cons.mpr ⟨lw_p0, List.forall_mem_cons.mpr ⟨lw_p1, List.forall_mem_cons.mpr ⟨lw_p2, List.forall_mem_cons.mpr ⟨lw_p3, List.forall_mem_cons.mpr ⟨lw_p4, List.forall_mem_cons.mpr ⟨lw_p5, List.forall_mem_cons.mpr ⟨lw_p6, List.forall_mem_cons.mpr ⟨lw_p7, List.forall_mem_cons.mpr ⟨lw_p8, List.forall_mem_cons.mpr ⟨lw_p9, List.forall_mem_cons.mpr ⟨lw_p10, List.forall_mem_cons.mpr ⟨lw_p11, List.forall_mem_cons.mpr ⟨lw_p12, List.forall_mem_cons.mpr ⟨lw_p13, List.forall_mem_cons.mpr ⟨lw_p14, List.forall_mem_cons.mpr ⟨lw_p15, fun _ h => absurd h List.not_mem_nil⟩⟩⟩⟩⟩⟩⟩⟩⟩⟩⟩⟩⟩⟩⟩⟩
theorem lw_p16 : lw_okq (⟨"TheyHearLate$Helm", "spread", "(LTheyHearLate$Yard;I)V"⟩, 5) := ⟨⟨by decide +kernel, by decide +kernel⟩, List.mem_of_getElem? (i := 251) (by decide +kernel), List.mem_of_getElem? (i := 765) (by decide +kernel), List.mem_of_getElem? (i := 766) (by decide +kernel)⟩
theorem lw_p17 : lw_okq (⟨"TheyHearLate$Helm", "reckonCosts", "(III)V"⟩, 5) := ⟨⟨by decide +kernel, by decide +kernel⟩, List.mem_of_getElem? (i := 251) (by decide +kernel), List.mem_of_getElem? (i := 769) (by decide +kernel), List.mem_of_getElem? (i := 770) (by decide +kernel)⟩
theorem lw_p18 : lw_okq (⟨"TheyHearLate$Helm", "leastAt", "(LTheyHearLate$Yard;IIJ)J"⟩, 5) := ⟨⟨by decide +kernel, by decide +kernel⟩, List.mem_of_getElem? (i := 251) (by decide +kernel), List.mem_of_getElem? (i := 778) (by decide +kernel), List.mem_of_getElem? (i := 779) (by decide +kernel)⟩
theorem lw_p19 : lw_okq (⟨"TheyHearLate$Helm", "hopedFor", "(LTheyHearLate$Yard;IJ)J"⟩, 5) := ⟨⟨by decide +kernel, by decide +kernel⟩, List.mem_of_getElem? (i := 251) (by decide +kernel), List.mem_of_getElem? (i := 782) (by decide +kernel), List.mem_of_getElem? (i := 783) (by decide +kernel)⟩
theorem lw_p20 : lw_okq (⟨"TheyHearLate$Match", "bestThing", "(ZII)I"⟩, 8) := ⟨⟨by decide +kernel, by decide +kernel⟩, List.mem_of_getElem? (i := 287) (by decide +kernel), List.mem_of_getElem? (i := 863) (by decide +kernel), List.mem_of_getElem? (i := 864) (by decide +kernel)⟩
theorem lw_p21 : lw_okq (⟨"TheyHearLate$Match", "brings", "(ZII)J"⟩, 8) := ⟨⟨by decide +kernel, by decide +kernel⟩, List.mem_of_getElem? (i := 287) (by decide +kernel), List.mem_of_getElem? (i := 867) (by decide +kernel), List.mem_of_getElem? (i := 868) (by decide +kernel)⟩
theorem lw_p22 : lw_okq (⟨"TheyHearLate$Match", "worth", "(IIII)J"⟩, 8) := ⟨⟨by decide +kernel, by decide +kernel⟩, List.mem_of_getElem? (i := 287) (by decide +kernel), List.mem_of_getElem? (i := 871) (by decide +kernel), List.mem_of_getElem? (i := 872) (by decide +kernel)⟩
theorem lw_p23 : lw_okq (⟨"TheyHearLate$Match", "changes", "(Z)Z"⟩, 8) := ⟨⟨by decide +kernel, by decide +kernel⟩, List.mem_of_getElem? (i := 287) (by decide +kernel), List.mem_of_getElem? (i := 897) (by decide +kernel), List.mem_of_getElem? (i := 898) (by decide +kernel)⟩
theorem lw_p24 : lw_okq (⟨"TheyHearLate$Words", "measure", "(LTheyHearLate$Yard;I)V"⟩, 3) := ⟨⟨by decide +kernel, by decide +kernel⟩, List.mem_of_getElem? (i := 233) (by decide +kernel), List.mem_of_getElem? (i := 925) (by decide +kernel), List.mem_of_getElem? (i := 926) (by decide +kernel)⟩
theorem lw_p25 : lw_okq (⟨"TheyHearLate$Words", "minutesBy", "(LTheyHearLate$Yard;III)I"⟩, 3) := ⟨⟨by decide +kernel, by decide +kernel⟩, List.mem_of_getElem? (i := 233) (by decide +kernel), List.mem_of_getElem? (i := 931) (by decide +kernel), List.mem_of_getElem? (i := 932) (by decide +kernel)⟩
theorem lw_p26 : lw_okq (⟨"TheyHearLate", "heardByAll", "(I)I"⟩, 10) := ⟨⟨by decide +kernel, by decide +kernel⟩, List.mem_of_getElem? (i := 26) (by decide +kernel), List.mem_of_getElem? (i := 956) (by decide +kernel), List.mem_of_getElem? (i := 957) (by decide +kernel)⟩
theorem lw_p27 : lw_okq (⟨"TheyHearLate", "answeredOfHundred", "(III)I"⟩, 10) := ⟨⟨by decide +kernel, by decide +kernel⟩, List.mem_of_getElem? (i := 26) (by decide +kernel), List.mem_of_getElem? (i := 976) (by decide +kernel), List.mem_of_getElem? (i := 977) (by decide +kernel)⟩
theorem lw_p28 : lw_okq (⟨"java/lang/Throwable", "fillInStackTrace", "(I)Ljava/lang/Throwable;"⟩, 6) := ⟨⟨by decide +kernel, by decide +kernel⟩, List.mem_of_getElem? (i := 1055) (by decide +kernel), List.mem_of_getElem? (i := 1053) (by decide +kernel), List.mem_of_getElem? (i := 1054) (by decide +kernel)⟩
theorem lw_p29 : lw_okq (⟨"TheyHearLateModel", "isPerson", "(I)Z"⟩, 54) := ⟨⟨by decide +kernel, by decide +kernel⟩, List.mem_of_getElem? (i := 1130) (by decide +kernel), List.mem_of_getElem? (i := 1128) (by decide +kernel), List.mem_of_getElem? (i := 1129) (by decide +kernel)⟩
theorem lw_p30 : lw_okq (⟨"TheyHearLateModel", "arePair", "(II)Z"⟩, 54) := ⟨⟨by decide +kernel, by decide +kernel⟩, List.mem_of_getElem? (i := 1130) (by decide +kernel), List.mem_of_getElem? (i := 1141) (by decide +kernel), List.mem_of_getElem? (i := 1142) (by decide +kernel)⟩
theorem lw_p31 : lw_okq (⟨"TheyHearLateModel", "reads", "(ILjava/lang/String;)I"⟩, 54) := ⟨⟨by decide +kernel, by decide +kernel⟩, List.mem_of_getElem? (i := 1130) (by decide +kernel), List.mem_of_getElem? (i := 1177) (by decide +kernel), List.mem_of_getElem? (i := 1178) (by decide +kernel)⟩
def lw_privs_2 : List (MethodName × Nat) := [(⟨"TheyHearLate$Helm", "spread", "(LTheyHearLate$Yard;I)V"⟩, 5), (⟨"TheyHearLate$Helm", "reckonCosts", "(III)V"⟩, 5), (⟨"TheyHearLate$Helm", "leastAt", "(LTheyHearLate$Yard;IIJ)J"⟩, 5), (⟨"TheyHearLate$Helm", "hopedFor", "(LTheyHearLate$Yard;IJ)J"⟩, 5), (⟨"TheyHearLate$Match", "bestThing", "(ZII)I"⟩, 8), (⟨"TheyHearLate$Match", "brings", "(ZII)J"⟩, 8), (⟨"TheyHearLate$Match", "worth", "(IIII)J"⟩, 8), (⟨"TheyHearLate$Match", "changes", "(Z)Z"⟩, 8), (⟨"TheyHearLate$Words", "measure", "(LTheyHearLate$Yard;I)V"⟩, 3), (⟨"TheyHearLate$Words", "minutesBy", "(LTheyHearLate$Yard;III)I"⟩, 3), (⟨"TheyHearLate", "heardByAll", "(I)I"⟩, 10), (⟨"TheyHearLate", "answeredOfHundred", "(III)I"⟩, 10), (⟨"java/lang/Throwable", "fillInStackTrace", "(I)Ljava/lang/Throwable;"⟩, 6), (⟨"TheyHearLateModel", "isPerson", "(I)Z"⟩, 54), (⟨"TheyHearLateModel", "arePair", "(II)Z"⟩, 54), (⟨"TheyHearLateModel", "reads", "(ILjava/lang/String;)I"⟩, 54)]
theorem lw_r2 : ∀ q ∈ lw_privs_2, lw_okq q := List.forall_mem_cons.mpr ⟨lw_p16, List.forall_mem_cons.mpr ⟨lw_p17, List.forall_mem_cons.mpr ⟨lw_p18, List.forall_mem_cons.mpr ⟨lw_p19, List.forall_mem_cons.mpr ⟨lw_p20, List.forall_mem_cons.mpr ⟨lw_p21, List.forall_mem_cons.mpr ⟨lw_p22, List.forall_mem_cons.mpr ⟨lw_p23, List.forall_mem_cons.mpr ⟨lw_p24, List.forall_mem_cons.mpr ⟨lw_p25, List.forall_mem_cons.mpr ⟨lw_p26, List.forall_mem_cons.mpr ⟨lw_p27, List.forall_mem_cons.mpr ⟨lw_p28, List.forall_mem_cons.mpr ⟨lw_p29, List.forall_mem_cons.mpr ⟨lw_p30, List.forall_mem_cons.mpr ⟨lw_p31, fun _ h => absurd h List.not_mem_nil⟩⟩⟩⟩⟩⟩⟩⟩⟩⟩⟩⟩⟩⟩⟩⟩
theorem lw_p32 : lw_okq (⟨"TheyHearLateModel", "ranked", "(I)Z"⟩, 54) := ⟨⟨by decide +kernel, by decide +kernel⟩, List.mem_of_getElem? (i := 1130) (by decide +kernel), List.mem_of_getElem? (i := 1181) (by decide +kernel), List.mem_of_getElem? (i := 1182) (by decide +kernel)⟩
theorem lw_p33 : lw_okq (⟨"TheyHearLateModel", "ahead", "()Z"⟩, 54) := ⟨⟨by decide +kernel, by decide +kernel⟩, List.mem_of_getElem? (i := 1130) (by decide +kernel), List.mem_of_getElem? (i := 1185) (by decide +kernel), List.mem_of_getElem? (i := 1186) (by decide +kernel)⟩
theorem lw_p34 : lw_okq (⟨"TheyHearLateModel", "among", "(Ljava/lang/String;)I"⟩, 54) := ⟨⟨by decide +kernel, by decide +kernel⟩, List.mem_of_getElem? (i := 1130) (by decide +kernel), List.mem_of_getElem? (i := 1190) (by decide +kernel), List.mem_of_getElem? (i := 1191) (by decide +kernel)⟩
theorem lw_p35 : lw_okq (⟨"TheyHearLateModel", "thing", "()Z"⟩, 54) := ⟨⟨by decide +kernel, by decide +kernel⟩, List.mem_of_getElem? (i := 1130) (by decide +kernel), List.mem_of_getElem? (i := 1215) (by decide +kernel), List.mem_of_getElem? (i := 1216) (by decide +kernel)⟩
theorem lw_p36 : lw_okq (⟨"TheyHearLateModel", "isDigit", "()Z"⟩, 54) := ⟨⟨by decide +kernel, by decide +kernel⟩, List.mem_of_getElem? (i := 1130) (by decide +kernel), List.mem_of_getElem? (i := 1219) (by decide +kernel), List.mem_of_getElem? (i := 1220) (by decide +kernel)⟩
theorem lw_p37 : lw_okq (⟨"TheyHearLateModel", "marks", "(I)V"⟩, 54) := ⟨⟨by decide +kernel, by decide +kernel⟩, List.mem_of_getElem? (i := 1130) (by decide +kernel), List.mem_of_getElem? (i := 1225) (by decide +kernel), List.mem_of_getElem? (i := 1226) (by decide +kernel)⟩
theorem lw_p38 : lw_okq (⟨"TheyHearLateModel", "refuse", "()I"⟩, 54) := ⟨⟨by decide +kernel, by decide +kernel⟩, List.mem_of_getElem? (i := 1130) (by decide +kernel), List.mem_of_getElem? (i := 1245) (by decide +kernel), List.mem_of_getElem? (i := 1246) (by decide +kernel)⟩
theorem lw_p39 : lw_okq (⟨"TheyHearLateModel", "doesNow", "(III)I"⟩, 54) := ⟨⟨by decide +kernel, by decide +kernel⟩, List.mem_of_getElem? (i := 1130) (by decide +kernel), List.mem_of_getElem? (i := 1249) (by decide +kernel), List.mem_of_getElem? (i := 1250) (by decide +kernel)⟩
theorem lw_p40 : lw_okq (⟨"TheyHearLateModel", "looks", "(II)V"⟩, 54) := ⟨⟨by decide +kernel, by decide +kernel⟩, List.mem_of_getElem? (i := 1130) (by decide +kernel), List.mem_of_getElem? (i := 1253) (by decide +kernel), List.mem_of_getElem? (i := 1254) (by decide +kernel)⟩
theorem lw_p41 : lw_okq (⟨"TheyHearLateModel", "placeAt", "(I)I"⟩, 54) := ⟨⟨by decide +kernel, by decide +kernel⟩, List.mem_of_getElem? (i := 1130) (by decide +kernel), List.mem_of_getElem? (i := 1257) (by decide +kernel), List.mem_of_getElem? (i := 1258) (by decide +kernel)⟩
theorem lw_p42 : lw_okq (⟨"TheyHearLateModel", "heardBy", "(II)I"⟩, 54) := ⟨⟨by decide +kernel, by decide +kernel⟩, List.mem_of_getElem? (i := 1130) (by decide +kernel), List.mem_of_getElem? (i := 1261) (by decide +kernel), List.mem_of_getElem? (i := 1262) (by decide +kernel)⟩
theorem lw_p43 : lw_okq (⟨"TheyHearLateModel", "lateOf", "(I)I"⟩, 54) := ⟨⟨by decide +kernel, by decide +kernel⟩, List.mem_of_getElem? (i := 1130) (by decide +kernel), List.mem_of_getElem? (i := 1268) (by decide +kernel), List.mem_of_getElem? (i := 1269) (by decide +kernel)⟩
theorem lw_p44 : lw_okq (⟨"TheyHearLateModel", "wasOf", "(III)I"⟩, 54) := ⟨⟨by decide +kernel, by decide +kernel⟩, List.mem_of_getElem? (i := 1130) (by decide +kernel), List.mem_of_getElem? (i := 1272) (by decide +kernel), List.mem_of_getElem? (i := 1273) (by decide +kernel)⟩
theorem lw_p45 : lw_okq (⟨"TheyHearLateModel", "worked", "(I)I"⟩, 54) := ⟨⟨by decide +kernel, by decide +kernel⟩, List.mem_of_getElem? (i := 1130) (by decide +kernel), List.mem_of_getElem? (i := 1279) (by decide +kernel), List.mem_of_getElem? (i := 1280) (by decide +kernel)⟩
theorem lw_p46 : lw_okq (⟨"TheyHearLateModel", "passes", "()V"⟩, 54) := ⟨⟨by decide +kernel, by decide +kernel⟩, List.mem_of_getElem? (i := 1130) (by decide +kernel), List.mem_of_getElem? (i := 1297) (by decide +kernel), List.mem_of_getElem? (i := 1298) (by decide +kernel)⟩
theorem lw_p47 : lw_okq (⟨"TheyHearLateModel", "blows", "()I"⟩, 54) := ⟨⟨by decide +kernel, by decide +kernel⟩, List.mem_of_getElem? (i := 1130) (by decide +kernel), List.mem_of_getElem? (i := 1301) (by decide +kernel), List.mem_of_getElem? (i := 1302) (by decide +kernel)⟩
def lw_privs_3 : List (MethodName × Nat) := [(⟨"TheyHearLateModel", "ranked", "(I)Z"⟩, 54), (⟨"TheyHearLateModel", "ahead", "()Z"⟩, 54), (⟨"TheyHearLateModel", "among", "(Ljava/lang/String;)I"⟩, 54), (⟨"TheyHearLateModel", "thing", "()Z"⟩, 54), (⟨"TheyHearLateModel", "isDigit", "()Z"⟩, 54), (⟨"TheyHearLateModel", "marks", "(I)V"⟩, 54), (⟨"TheyHearLateModel", "refuse", "()I"⟩, 54), (⟨"TheyHearLateModel", "doesNow", "(III)I"⟩, 54), (⟨"TheyHearLateModel", "looks", "(II)V"⟩, 54), (⟨"TheyHearLateModel", "placeAt", "(I)I"⟩, 54), (⟨"TheyHearLateModel", "heardBy", "(II)I"⟩, 54), (⟨"TheyHearLateModel", "lateOf", "(I)I"⟩, 54), (⟨"TheyHearLateModel", "wasOf", "(III)I"⟩, 54), (⟨"TheyHearLateModel", "worked", "(I)I"⟩, 54), (⟨"TheyHearLateModel", "passes", "()V"⟩, 54), (⟨"TheyHearLateModel", "blows", "()I"⟩, 54)]
theorem lw_r3 : ∀ q ∈ lw_privs_3, lw_okq q := List.forall_mem_cons.mpr ⟨lw_p32, List.forall_mem_cons.mpr ⟨lw_p33, List.forall_mem_cons.mpr ⟨lw_p34, List.forall_mem_cons.mpr ⟨lw_p35, List.forall_mem_cons.mpr ⟨lw_p36, List.forall_mem_cons.mpr ⟨lw_p37, List.forall_mem_cons.mpr ⟨lw_p38, List.forall_mem_cons.mpr ⟨lw_p39, List.forall_mem_cons.mpr ⟨lw_p40, List.forall_mem_cons.mpr ⟨lw_p41, List.forall_mem_cons.mpr ⟨lw_p42, List.forall_mem_cons.mpr ⟨lw_p43, List.forall_mem_cons.mpr ⟨lw_p44, List.forall_mem_cons.mpr ⟨lw_p45, List.forall_mem_cons.mpr ⟨lw_p46, List.forall_mem_cons.mpr ⟨lw_p47, fun _ h => absurd h List.not_mem_nil⟩⟩⟩⟩⟩⟩⟩⟩⟩⟩⟩⟩⟩⟩⟩⟩
theorem lw_p48 : lw_okq (⟨"TheyHearLateModel", "draws", "(I)I"⟩, 54) := ⟨⟨by decide +kernel, by decide +kernel⟩, List.mem_of_getElem? (i := 1130) (by decide +kernel), List.mem_of_getElem? (i := 1305) (by decide +kernel), List.mem_of_getElem? (i := 1306) (by decide +kernel)⟩
theorem lw_p49 : lw_okq (⟨"TheyHearLateModel", "begins", "()V"⟩, 54) := ⟨⟨by decide +kernel, by decide +kernel⟩, List.mem_of_getElem? (i := 1130) (by decide +kernel), List.mem_of_getElem? (i := 1314) (by decide +kernel), List.mem_of_getElem? (i := 1315) (by decide +kernel)⟩
theorem lw_p50 : lw_okq (⟨"TheyHearLateModel", "enters", "(J)V"⟩, 54) := ⟨⟨by decide +kernel, by decide +kernel⟩, List.mem_of_getElem? (i := 1130) (by decide +kernel), List.mem_of_getElem? (i := 1332) (by decide +kernel), List.mem_of_getElem? (i := 1333) (by decide +kernel)⟩
theorem lw_p51 : lw_okq (⟨"TheyHearLateModel", "costNow", "()I"⟩, 54) := ⟨⟨by decide +kernel, by decide +kernel⟩, List.mem_of_getElem? (i := 1130) (by decide +kernel), List.mem_of_getElem? (i := 1336) (by decide +kernel), List.mem_of_getElem? (i := 1337) (by decide +kernel)⟩
theorem lw_p52 : lw_okq (⟨"TheyHearLateModel", "costs", "(II)I"⟩, 54) := ⟨⟨by decide +kernel, by decide +kernel⟩, List.mem_of_getElem? (i := 1130) (by decide +kernel), List.mem_of_getElem? (i := 1352) (by decide +kernel), List.mem_of_getElem? (i := 1353) (by decide +kernel)⟩
theorem lw_p53 : lw_okq (⟨"TheyHearLateModel", "putsBy", "()V"⟩, 54) := ⟨⟨by decide +kernel, by decide +kernel⟩, List.mem_of_getElem? (i := 1130) (by decide +kernel), List.mem_of_getElem? (i := 1356) (by decide +kernel), List.mem_of_getElem? (i := 1357) (by decide +kernel)⟩
theorem lw_p54 : lw_okq (⟨"TheyHearLateModel", "takesBack", "()V"⟩, 54) := ⟨⟨by decide +kernel, by decide +kernel⟩, List.mem_of_getElem? (i := 1130) (by decide +kernel), List.mem_of_getElem? (i := 1360) (by decide +kernel), List.mem_of_getElem? (i := 1361) (by decide +kernel)⟩
theorem lw_p55 : lw_okq (⟨"TheyHearLateModel", "steers", "(IIII)J"⟩, 54) := ⟨⟨by decide +kernel, by decide +kernel⟩, List.mem_of_getElem? (i := 1130) (by decide +kernel), List.mem_of_getElem? (i := 1396) (by decide +kernel), List.mem_of_getElem? (i := 1397) (by decide +kernel)⟩
theorem lw_p56 : lw_okq (⟨"TheyHearLateModel", "sumsWinds", "(I)V"⟩, 54) := ⟨⟨by decide +kernel, by decide +kernel⟩, List.mem_of_getElem? (i := 1130) (by decide +kernel), List.mem_of_getElem? (i := 1400) (by decide +kernel), List.mem_of_getElem? (i := 1401) (by decide +kernel)⟩
theorem lw_p57 : lw_okq (⟨"TheyHearLateModel", "costOf", "(I)J"⟩, 54) := ⟨⟨by decide +kernel, by decide +kernel⟩, List.mem_of_getElem? (i := 1130) (by decide +kernel), List.mem_of_getElem? (i := 1404) (by decide +kernel), List.mem_of_getElem? (i := 1405) (by decide +kernel)⟩
theorem lw_p58 : lw_okq (⟨"TheyHearLateModel", "then", "(I)J"⟩, 54) := ⟨⟨by decide +kernel, by decide +kernel⟩, List.mem_of_getElem? (i := 1130) (by decide +kernel), List.mem_of_getElem? (i := 1408) (by decide +kernel), List.mem_of_getElem? (i := 1409) (by decide +kernel)⟩
theorem lw_p59 : lw_okq (⟨"TheyHearLateModel", "entersFraction", "(JJ)V"⟩, 54) := ⟨⟨by decide +kernel, by decide +kernel⟩, List.mem_of_getElem? (i := 1130) (by decide +kernel), List.mem_of_getElem? (i := 1420) (by decide +kernel), List.mem_of_getElem? (i := 1421) (by decide +kernel)⟩
theorem lw_p60 : lw_okq (⟨"TheyHearLateModel", "pulls", "(IIII)V"⟩, 54) := ⟨⟨by decide +kernel, by decide +kernel⟩, List.mem_of_getElem? (i := 1130) (by decide +kernel), List.mem_of_getElem? (i := 1431) (by decide +kernel), List.mem_of_getElem? (i := 1432) (by decide +kernel)⟩
theorem lw_p61 : lw_okq (⟨"TheyHearLateModel", "greatest", "(II)I"⟩, 54) := ⟨⟨by decide +kernel, by decide +kernel⟩, List.mem_of_getElem? (i := 1130) (by decide +kernel), List.mem_of_getElem? (i := 1436) (by decide +kernel), List.mem_of_getElem? (i := 1437) (by decide +kernel)⟩
theorem lw_p62 : lw_okq (⟨"TheyHearLateModel", "calm", "(I)I"⟩, 54) := ⟨⟨by decide +kernel, by decide +kernel⟩, List.mem_of_getElem? (i := 1130) (by decide +kernel), List.mem_of_getElem? (i := 1440) (by decide +kernel), List.mem_of_getElem? (i := 1441) (by decide +kernel)⟩
theorem lw_p63 : lw_okq (⟨"TheyHearLateModel", "bestOfTwo", "()J"⟩, 54) := ⟨⟨by decide +kernel, by decide +kernel⟩, List.mem_of_getElem? (i := 1130) (by decide +kernel), List.mem_of_getElem? (i := 1460) (by decide +kernel), List.mem_of_getElem? (i := 1461) (by decide +kernel)⟩
def lw_privs_4 : List (MethodName × Nat) := [(⟨"TheyHearLateModel", "draws", "(I)I"⟩, 54), (⟨"TheyHearLateModel", "begins", "()V"⟩, 54), (⟨"TheyHearLateModel", "enters", "(J)V"⟩, 54), (⟨"TheyHearLateModel", "costNow", "()I"⟩, 54), (⟨"TheyHearLateModel", "costs", "(II)I"⟩, 54), (⟨"TheyHearLateModel", "putsBy", "()V"⟩, 54), (⟨"TheyHearLateModel", "takesBack", "()V"⟩, 54), (⟨"TheyHearLateModel", "steers", "(IIII)J"⟩, 54), (⟨"TheyHearLateModel", "sumsWinds", "(I)V"⟩, 54), (⟨"TheyHearLateModel", "costOf", "(I)J"⟩, 54), (⟨"TheyHearLateModel", "then", "(I)J"⟩, 54), (⟨"TheyHearLateModel", "entersFraction", "(JJ)V"⟩, 54), (⟨"TheyHearLateModel", "pulls", "(IIII)V"⟩, 54), (⟨"TheyHearLateModel", "greatest", "(II)I"⟩, 54), (⟨"TheyHearLateModel", "calm", "(I)I"⟩, 54), (⟨"TheyHearLateModel", "bestOfTwo", "()J"⟩, 54)]
theorem lw_r4 : ∀ q ∈ lw_privs_4, lw_okq q := List.forall_mem_cons.mpr ⟨lw_p48, List.forall_mem_cons.mpr ⟨lw_p49, List.forall_mem_cons.mpr ⟨lw_p50, List.forall_mem_cons.mpr ⟨lw_p51, List.forall_mem_cons.mpr ⟨lw_p52, List.forall_mem_cons.mpr ⟨lw_p53, List.forall_mem_cons.mpr ⟨lw_p54, List.forall_mem_cons.mpr ⟨lw_p55, List.forall_mem_cons.mpr ⟨lw_p56, List.forall_mem_cons.mpr ⟨lw_p57, List.forall_mem_cons.mpr ⟨lw_p58, List.forall_mem_cons.mpr ⟨lw_p59, List.forall_mem_cons.mpr ⟨lw_p60, List.forall_mem_cons.mpr ⟨lw_p61, List.forall_mem_cons.mpr ⟨lw_p62, List.forall_mem_cons.mpr ⟨lw_p63, fun _ h => absurd h List.not_mem_nil⟩⟩⟩⟩⟩⟩⟩⟩⟩⟩⟩⟩⟩⟩⟩⟩
theorem lw_p64 : lw_okq (⟨"TheyHearLateModel", "worthOf", "(II)J"⟩, 54) := ⟨⟨by decide +kernel, by decide +kernel⟩, List.mem_of_getElem? (i := 1130) (by decide +kernel), List.mem_of_getElem? (i := 1467) (by decide +kernel), List.mem_of_getElem? (i := 1468) (by decide +kernel)⟩
theorem lw_p65 : lw_okq (⟨"TheyHearLateModel", "worth", "(IIII)J"⟩, 54) := ⟨⟨by decide +kernel, by decide +kernel⟩, List.mem_of_getElem? (i := 1130) (by decide +kernel), List.mem_of_getElem? (i := 1474) (by decide +kernel), List.mem_of_getElem? (i := 1475) (by decide +kernel)⟩
theorem lw_p66 : lw_okq (⟨"TheyHearLateModel", "stands", "(II)I"⟩, 54) := ⟨⟨by decide +kernel, by decide +kernel⟩, List.mem_of_getElem? (i := 1130) (by decide +kernel), List.mem_of_getElem? (i := 1486) (by decide +kernel), List.mem_of_getElem? (i := 1487) (by decide +kernel)⟩
theorem lw_p67 : lw_okq (⟨"TheyHearLateModel", "answers", "(III)I"⟩, 54) := ⟨⟨by decide +kernel, by decide +kernel⟩, List.mem_of_getElem? (i := 1130) (by decide +kernel), List.mem_of_getElem? (i := 1490) (by decide +kernel), List.mem_of_getElem? (i := 1491) (by decide +kernel)⟩
theorem lw_p68 : lw_okq (⟨"TheyHearLateModel", "partOf", "(IIII)J"⟩, 54) := ⟨⟨by decide +kernel, by decide +kernel⟩, List.mem_of_getElem? (i := 1130) (by decide +kernel), List.mem_of_getElem? (i := 1494) (by decide +kernel), List.mem_of_getElem? (i := 1495) (by decide +kernel)⟩
theorem lw_p69 : lw_okq (⟨"TheyHearLateModel", "minutesTo", "(II)I"⟩, 54) := ⟨⟨by decide +kernel, by decide +kernel⟩, List.mem_of_getElem? (i := 1130) (by decide +kernel), List.mem_of_getElem? (i := 1507) (by decide +kernel), List.mem_of_getElem? (i := 1508) (by decide +kernel)⟩
theorem lw_p70 : lw_okq (⟨"TheyHearLateModel", "fars", "(I)V"⟩, 54) := ⟨⟨by decide +kernel, by decide +kernel⟩, List.mem_of_getElem? (i := 1130) (by decide +kernel), List.mem_of_getElem? (i := 1511) (by decide +kernel), List.mem_of_getElem? (i := 1512) (by decide +kernel)⟩
theorem lw_p71 : lw_okq (⟨"TheyHearLateModel", "stepTo", "(II)I"⟩, 54) := ⟨⟨by decide +kernel, by decide +kernel⟩, List.mem_of_getElem? (i := 1130) (by decide +kernel), List.mem_of_getElem? (i := 1516) (by decide +kernel), List.mem_of_getElem? (i := 1517) (by decide +kernel)⟩
theorem lw_p72 : lw_okq (⟨"TheyHearLateModel", "casesBy", "(III)I"⟩, 54) := ⟨⟨by decide +kernel, by decide +kernel⟩, List.mem_of_getElem? (i := 1130) (by decide +kernel), List.mem_of_getElem? (i := 1549) (by decide +kernel), List.mem_of_getElem? (i := 1550) (by decide +kernel)⟩
theorem lw_p73 : lw_okq (⟨"TheyHearLateModel", "fogOf", "(II)I"⟩, 54) := ⟨⟨by decide +kernel, by decide +kernel⟩, List.mem_of_getElem? (i := 1130) (by decide +kernel), List.mem_of_getElem? (i := 1553) (by decide +kernel), List.mem_of_getElem? (i := 1554) (by decide +kernel)⟩
theorem lw_p74 : lw_okq (⟨"TheyHearLateModel", "rulesTold", "()I"⟩, 54) := ⟨⟨by decide +kernel, by decide +kernel⟩, List.mem_of_getElem? (i := 1130) (by decide +kernel), List.mem_of_getElem? (i := 1578) (by decide +kernel), List.mem_of_getElem? (i := 1579) (by decide +kernel)⟩
def lw_privs_5 : List (MethodName × Nat) := [(⟨"TheyHearLateModel", "worthOf", "(II)J"⟩, 54), (⟨"TheyHearLateModel", "worth", "(IIII)J"⟩, 54), (⟨"TheyHearLateModel", "stands", "(II)I"⟩, 54), (⟨"TheyHearLateModel", "answers", "(III)I"⟩, 54), (⟨"TheyHearLateModel", "partOf", "(IIII)J"⟩, 54), (⟨"TheyHearLateModel", "minutesTo", "(II)I"⟩, 54), (⟨"TheyHearLateModel", "fars", "(I)V"⟩, 54), (⟨"TheyHearLateModel", "stepTo", "(II)I"⟩, 54), (⟨"TheyHearLateModel", "casesBy", "(III)I"⟩, 54), (⟨"TheyHearLateModel", "fogOf", "(II)I"⟩, 54), (⟨"TheyHearLateModel", "rulesTold", "()I"⟩, 54)]
theorem lw_r5 : ∀ q ∈ lw_privs_5, lw_okq q := List.forall_mem_cons.mpr ⟨lw_p64, List.forall_mem_cons.mpr ⟨lw_p65, List.forall_mem_cons.mpr ⟨lw_p66, List.forall_mem_cons.mpr ⟨lw_p67, List.forall_mem_cons.mpr ⟨lw_p68, List.forall_mem_cons.mpr ⟨lw_p69, List.forall_mem_cons.mpr ⟨lw_p70, List.forall_mem_cons.mpr ⟨lw_p71, List.forall_mem_cons.mpr ⟨lw_p72, List.forall_mem_cons.mpr ⟨lw_p73, List.forall_mem_cons.mpr ⟨lw_p74, fun _ h => absurd h List.not_mem_nil⟩⟩⟩⟩⟩⟩⟩⟩⟩⟩⟩
def lw_privs : List (MethodName × Nat) := lw_privs_1 ++ (lw_privs_2 ++ (lw_privs_3 ++ (lw_privs_4 ++ (lw_privs_5))))
def lw_tbl : List Cond := k2_sels lw_privs ++ tables_1
theorem lw_privs_ok : ∀ q ∈ lw_privs, lw_okq q := by
  show ∀ q ∈ lw_privs_1 ++ (lw_privs_2 ++ (lw_privs_3 ++ (lw_privs_4 ++ (lw_privs_5)))), lw_okq q
  exact List.forall_mem_append.mpr ⟨lw_r1, List.forall_mem_append.mpr ⟨lw_r2, List.forall_mem_append.mpr ⟨lw_r3, List.forall_mem_append.mpr ⟨lw_r4, lw_r5⟩⟩⟩⟩
-- names (out of the printed names)
def RX0 : String := "TheyHearLate$Course"
def TX0 : u_T := fun k => match k with
  | 0 => ("TheyHearLate$Course", "now", "I", false)
  | 1 => ("TheyHearLate$Course", "start", "I", false)
  | 2 => ("TheyHearLate$Course", "draws", "I", false)
  | 3 => ("TheyHearLate$Course", "people", "I", false)
  | 4 => ("TheyHearLate$Course", "places", "[I", true)
  | 5 => ("TheyHearLate$Course", "did", "[I", true)
  | 6 => ("TheyHearLate$Course", "said", "[I", true)
  | 7 => ("TheyHearLate$Course", "heard", "[I", true)
  | _ => ("TheyHearLate$Course", "saw", "[I", true)
def tyX0 : Nat → FieldType := fun k => match k with
  | 0 => .int
  | 1 => .int
  | 2 => .int
  | 3 => .int
  | 4 => .array .int
  | 5 => .array .int
  | 6 => .array .int
  | 7 => .array .int
  | _ => .array .int
abbrev wsX00 : List Cond := u_ws RX0 TX0 9
theorem nmX0 : ∀ a, a < 9 → ∀ b, b < 9 → a ≠ b → (TX0 a).2.1 ≠ (TX0 b).2.1 := by decide +kernel
theorem tyX0_ok : ∀ k, k < 9 → parseFieldDescriptor (TX0 k).2.2.1 = some (tyX0 k) := by decide +kernel
abbrev cX0_init : ByteArray := prog_2_method_1_code
def yX0_init : MethodName := ⟨RX0, "<init>", "()V"⟩
abbrev cX0_restart : ByteArray := prog_2_method_2_code
def yX0_restart : MethodName := ⟨RX0, "restart", "()V"⟩
abbrev cX0_copy : ByteArray := prog_2_method_3_code
def yX0_copy : MethodName := ⟨RX0, "copy", "(LTheyHearLate$Course;)V"⟩
abbrev cX0_placeAt : ByteArray := prog_2_method_4_code
def yX0_placeAt : MethodName := ⟨RX0, "placeAt", "(I)I"⟩
abbrev cX0_noted : ByteArray := prog_2_method_5_code
def yX0_noted : MethodName := ⟨RX0, "noted", "([III)I"⟩
abbrev cX0_spoke : ByteArray := prog_2_method_6_code
def yX0_spoke : MethodName := ⟨RX0, "spoke", "(II)Z"⟩
abbrev cX0_note : ByteArray := prog_2_method_7_code
def yX0_note : MethodName := ⟨RX0, "note", "(IIIII)V"⟩
abbrev cX0_move : ByteArray := prog_2_method_8_code
def yX0_move : MethodName := ⟨RX0, "move", "(I)V"⟩
abbrev cX0_drawOfTen : ByteArray := prog_2_method_9_code
def yX0_drawOfTen : MethodName := ⟨RX0, "drawOfTen", "()I"⟩
abbrev cX0_off : ByteArray := prog_2_method_10_code
def yX0_off : MethodName := ⟨RX0, "off", "(II)I"⟩
abbrev cX0_costTo : ByteArray := prog_2_method_11_code
def yX0_costTo : MethodName := ⟨RX0, "costTo", "(I)I"⟩
abbrev cX0_settledFrom : ByteArray := prog_2_method_12_code
def yX0_settledFrom : MethodName := ⟨RX0, "settledFrom", "(I)I"⟩
abbrev cX0_widest : ByteArray := prog_2_method_13_code
def yX0_widest : MethodName := ⟨RX0, "widest", "(III)I"⟩
abbrev cX0_turnsRound : ByteArray := prog_2_method_14_code
def yX0_turnsRound : MethodName := ⟨RX0, "turnsRound", "(I)I"⟩
def RX1 : String := "TheyHearLate$Formula"
def TX1 : u_T := fun k => match k with
  | 0 => ("TheyHearLate$Formula", "codes", "[I", true)
  | 1 => ("TheyHearLate$Formula", "size", "I", false)
  | _ => ("TheyHearLate$Formula", "stack", "[I", true)
def tyX1 : Nat → FieldType := fun k => match k with
  | 0 => .array .int
  | 1 => .int
  | _ => .array .int
abbrev wsX10 : List Cond := u_ws RX1 TX1 3
theorem nmX1 : ∀ a, a < 3 → ∀ b, b < 3 → a ≠ b → (TX1 a).2.1 ≠ (TX1 b).2.1 := by decide +kernel
theorem tyX1_ok : ∀ k, k < 3 → parseFieldDescriptor (TX1 k).2.2.1 = some (tyX1 k) := by decide +kernel
abbrev cX1_init : ByteArray := prog_3_method_1_code
def yX1_init : MethodName := ⟨RX1, "<init>", "()V"⟩
abbrev cX1_add : ByteArray := prog_3_method_2_code
def yX1_add : MethodName := ⟨RX1, "add", "(I)V"⟩
abbrev cX1_copy : ByteArray := prog_3_method_3_code
def yX1_copy : MethodName := ⟨RX1, "copy", "(LTheyHearLate$Formula;)V"⟩
abbrev cX1_value : ByteArray := prog_3_method_4_code
def yX1_value : MethodName := ⟨RX1, "value", "([I)I"⟩
abbrev cX1_thing : ByteArray := prog_3_method_5_code
def yX1_thing : MethodName := ⟨RX1, "thing", "(I[I)I"⟩
abbrev cX1_reckon : ByteArray := prog_3_method_6_code
def yX1_reckon : MethodName := ⟨RX1, "reckon", "(II)I"⟩
abbrev cX1_join : ByteArray := prog_3_method_7_code
def yX1_join : MethodName := ⟨RX1, "join", "(III)I"⟩
def RX2 : String := "TheyHearLate$Helm"
def TX2 : u_T := fun k => match k with
  | 0 => ("TheyHearLate$Helm", "winds", "[J", true)
  | 1 => ("TheyHearLate$Helm", "costs", "[J", true)
  | 2 => ("TheyHearLate$Helm", "now", "[J", true)
  | 3 => ("TheyHearLate$Helm", "next", "[J", true)
  | _ => ("TheyHearLate$Helm", "first", "I", false)
def tyX2 : Nat → FieldType := fun k => match k with
  | 0 => .array .long
  | 1 => .array .long
  | 2 => .array .long
  | 3 => .array .long
  | _ => .int
abbrev wsX20 : List Cond := u_ws RX2 TX2 5
theorem nmX2 : ∀ a, a < 5 → ∀ b, b < 5 → a ≠ b → (TX2 a).2.1 ≠ (TX2 b).2.1 := by decide +kernel
theorem tyX2_ok : ∀ k, k < 5 → parseFieldDescriptor (TX2 k).2.2.1 = some (tyX2 k) := by decide +kernel
abbrev cX2_init : ByteArray := prog_4_method_1_code
def yX2_init : MethodName := ⟨RX2, "<init>", "()V"⟩
abbrev cX2_leastCost : ByteArray := prog_4_method_2_code
def yX2_leastCost : MethodName := ⟨RX2, "leastCost", "(LTheyHearLate$Yard;IIII)J"⟩
abbrev cX2_spread : ByteArray := prog_4_method_3_code
def yX2_spread : MethodName := ⟨RX2, "spread", "(LTheyHearLate$Yard;I)V"⟩
abbrev cX2_reckonCosts : ByteArray := prog_4_method_4_code
def yX2_reckonCosts : MethodName := ⟨RX2, "reckonCosts", "(III)V"⟩
abbrev cX2_leastAt : ByteArray := prog_4_method_5_code
def yX2_leastAt : MethodName := ⟨RX2, "leastAt", "(LTheyHearLate$Yard;IIJ)J"⟩
abbrev cX2_hopedFor : ByteArray := prog_4_method_6_code
def yX2_hopedFor : MethodName := ⟨RX2, "hopedFor", "(LTheyHearLate$Yard;IJ)J"⟩
abbrev cX2_inReach : ByteArray := prog_4_method_7_code
def yX2_inReach : MethodName := ⟨RX2, "inReach", "(I)I"⟩
def RX3 : String := "TheyHearLate$Match"
def TX3 : u_T := fun k => match k with
  | 0 => ("TheyHearLate$Match", "weights", "[I", true)
  | 1 => ("TheyHearLate$Match", "pay", "LTheyHearLate$Formula;", true)
  | 2 => ("TheyHearLate$Match", "paid", "[I", true)
  | 3 => ("TheyHearLate$Match", "one", "[I", true)
  | 4 => ("TheyHearLate$Match", "other", "[I", true)
  | 5 => ("TheyHearLate$Match", "bestOne", "[I", true)
  | 6 => ("TheyHearLate$Match", "bestOther", "[I", true)
  | _ => ("TheyHearLate$Match", "signs", "[I", true)
def tyX3 : Nat → FieldType := fun k => match k with
  | 0 => .array .int
  | 1 => .object "TheyHearLate$Formula"
  | 2 => .array .int
  | 3 => .array .int
  | 4 => .array .int
  | 5 => .array .int
  | 6 => .array .int
  | _ => .array .int
abbrev wsX30 : List Cond := u_ws RX3 TX3 8
theorem nmX3 : ∀ a, a < 8 → ∀ b, b < 8 → a ≠ b → (TX3 a).2.1 ≠ (TX3 b).2.1 := by decide +kernel
theorem tyX3_ok : ∀ k, k < 8 → parseFieldDescriptor (TX3 k).2.2.1 = some (tyX3 k) := by decide +kernel
abbrev cX3_init : ByteArray := prog_5_method_1_code
def yX3_init : MethodName := ⟨RX3, "<init>", "()V"⟩
abbrev cX3_tabulate : ByteArray := prog_5_method_2_code
def yX3_tabulate : MethodName := ⟨RX3, "tabulate", "()V"⟩
abbrev cX3_worth : ByteArray := prog_5_method_3_code
def yX3_worth : MethodName := ⟨RX3, "worth", "(IIII)J"⟩
abbrev cX3_sum : ByteArray := prog_5_method_4_code
def yX3_sum : MethodName := ⟨RX3, "sum", "()J"⟩
abbrev cX3_brings : ByteArray := prog_5_method_5_code
def yX3_brings : MethodName := ⟨RX3, "brings", "(ZII)J"⟩
abbrev cX3_bestThing : ByteArray := prog_5_method_6_code
def yX3_bestThing : MethodName := ⟨RX3, "bestThing", "(ZII)I"⟩
abbrev cX3_playBest : ByteArray := prog_5_method_7_code
def yX3_playBest : MethodName := ⟨RX3, "playBest", "()J"⟩
abbrev cX3_playByTurns : ByteArray := prog_5_method_8_code
def yX3_playByTurns : MethodName := ⟨RX3, "playByTurns", "(II)I"⟩
abbrev cX3_changes : ByteArray := prog_5_method_9_code
def yX3_changes : MethodName := ⟨RX3, "changes", "(Z)Z"⟩
abbrev cX3_mostSeeingBoth : ByteArray := prog_5_method_10_code
def yX3_mostSeeingBoth : MethodName := ⟨RX3, "mostSeeingBoth", "()J"⟩
abbrev cX3_spell : ByteArray := prog_5_method_11_code
def yX3_spell : MethodName := ⟨RX3, "spell", "(I[I)V"⟩
abbrev cX3_ruleNumber : ByteArray := prog_5_method_12_code
def yX3_ruleNumber : MethodName := ⟨RX3, "ruleNumber", "([I)I"⟩
def RX4 : String := "TheyHearLate$Person"
def TX4 : u_T := fun k => match k with
  | 0 => ("TheyHearLate$Person", "late", "I", false)
  | 1 => ("TheyHearLate$Person", "sight", "I", false)
  | 2 => ("TheyHearLate$Person", "thinks", "I", false)
  | 3 => ("TheyHearLate$Person", "near", "I", false)
  | 4 => ("TheyHearLate$Person", "sees", "I", false)
  | _ => ("TheyHearLate$Person", "more", "[I", true)
def tyX4 : Nat → FieldType := fun k => match k with
  | 0 => .int
  | 1 => .int
  | 2 => .int
  | 3 => .int
  | 4 => .int
  | _ => .array .int
abbrev wsX40 : List Cond := u_ws RX4 TX4 6
theorem nmX4 : ∀ a, a < 6 → ∀ b, b < 6 → a ≠ b → (TX4 a).2.1 ≠ (TX4 b).2.1 := by decide +kernel
theorem tyX4_ok : ∀ k, k < 6 → parseFieldDescriptor (TX4 k).2.2.1 = some (tyX4 k) := by decide +kernel
abbrev cX4_init : ByteArray := prog_6_method_1_code
def yX4_init : MethodName := ⟨RX4, "<init>", "()V"⟩
abbrev cX4_hearsAfter : ByteArray := prog_6_method_2_code
def yX4_hearsAfter : MethodName := ⟨RX4, "hearsAfter", "()I"⟩
def RX5 : String := "TheyHearLate$Reader"
def TX5 : u_T := fun k => match k with
  | 0 => ("TheyHearLate$Reader", "text", "[I", true)
  | 1 => ("TheyHearLate$Reader", "length", "I", false)
  | 2 => ("TheyHearLate$Reader", "draft", "LTheyHearLate$Formula;", true)
  | 3 => ("TheyHearLate$Reader", "waiting", "[I", true)
  | 4 => ("TheyHearLate$Reader", "held", "I", false)
  | 5 => ("TheyHearLate$Reader", "compared", "[Z", true)
  | 6 => ("TheyHearLate$Reader", "depth", "I", false)
  | 7 => ("TheyHearLate$Reader", "number", "I", false)
  | 8 => ("TheyHearLate$Reader", "digits", "I", false)
  | _ => ("TheyHearLate$Reader", "wantsThing", "Z", false)
def tyX5 : Nat → FieldType := fun k => match k with
  | 0 => .array .int
  | 1 => .int
  | 2 => .object "TheyHearLate$Formula"
  | 3 => .array .int
  | 4 => .int
  | 5 => .array .boolean
  | 6 => .int
  | 7 => .int
  | 8 => .int
  | _ => .boolean
abbrev wsX50 : List Cond := u_ws RX5 TX5 10
theorem nmX5 : ∀ a, a < 10 → ∀ b, b < 10 → a ≠ b → (TX5 a).2.1 ≠ (TX5 b).2.1 := by decide +kernel
theorem tyX5_ok : ∀ k, k < 10 → parseFieldDescriptor (TX5 k).2.2.1 = some (tyX5 k) := by decide +kernel
abbrev cX5_init : ByteArray := prog_7_method_1_code
def yX5_init : MethodName := ⟨RX5, "<init>", "()V"⟩
abbrev cX5_addFour : ByteArray := prog_7_method_2_code
def yX5_addFour : MethodName := ⟨RX5, "addFour", "(I)Z"⟩
abbrev cX5_read : ByteArray := prog_7_method_3_code
def yX5_read : MethodName := ⟨RX5, "read", "(Ljava/lang/String;LTheyHearLate$Formula;)I"⟩
abbrev cX5_startAnew : ByteArray := prog_7_method_4_code
def yX5_startAnew : MethodName := ⟨RX5, "startAnew", "()V"⟩
abbrev cX5_take : ByteArray := prog_7_method_5_code
def yX5_take : MethodName := ⟨RX5, "take", "(ILjava/lang/String;)Z"⟩
abbrev cX5_takeDigit : ByteArray := prog_7_method_6_code
def yX5_takeDigit : MethodName := ⟨RX5, "takeDigit", "(I)Z"⟩
abbrev cX5_takeAhead : ByteArray := prog_7_method_7_code
def yX5_takeAhead : MethodName := ⟨RX5, "takeAhead", "(ILjava/lang/String;)Z"⟩
abbrev cX5_takeBehind : ByteArray := prog_7_method_8_code
def yX5_takeBehind : MethodName := ⟨RX5, "takeBehind", "(I)Z"⟩
abbrev cX5_open : ByteArray := prog_7_method_9_code
def yX5_open : MethodName := ⟨RX5, "open", "()Z"⟩
abbrev cX5_close : ByteArray := prog_7_method_10_code
def yX5_close : MethodName := ⟨RX5, "close", "()Z"⟩
abbrev cX5_finishNumber : ByteArray := prog_7_method_11_code
def yX5_finishNumber : MethodName := ⟨RX5, "finishNumber", "()V"⟩
abbrev cX5_putOff : ByteArray := prog_7_method_12_code
def yX5_putOff : MethodName := ⟨RX5, "putOff", "(I)V"⟩
abbrev cX5_finishDownTo : ByteArray := prog_7_method_13_code
def yX5_finishDownTo : MethodName := ⟨RX5, "finishDownTo", "(I)V"⟩
abbrev cX5_rankOf : ByteArray := prog_7_method_14_code
def yX5_rankOf : MethodName := ⟨RX5, "rankOf", "(I)I"⟩
def RX6 : String := "TheyHearLate$Sway"
def TX6 : u_T := fun k => match k with
  | 0 => ("TheyHearLate$Sway", "numbers", "[I", true)
  | _ => ("TheyHearLate$Sway", "last", "I", false)
def tyX6 : Nat → FieldType := fun k => match k with
  | 0 => .array .int
  | _ => .int
abbrev wsX60 : List Cond := u_ws RX6 TX6 2
theorem nmX6 : ∀ a, a < 2 → ∀ b, b < 2 → a ≠ b → (TX6 a).2.1 ≠ (TX6 b).2.1 := by decide +kernel
theorem tyX6_ok : ∀ k, k < 2 → parseFieldDescriptor (TX6 k).2.2.1 = some (tyX6 k) := by decide +kernel
abbrev cX6_init : ByteArray := prog_8_method_1_code
def yX6_init : MethodName := ⟨RX6, "<init>", "()V"⟩
abbrev cX6_swing : ByteArray := prog_8_method_2_code
def yX6_swing : MethodName := ⟨RX6, "swing", "(IIII)V"⟩
abbrev cX6_widest : ByteArray := prog_8_method_3_code
def yX6_widest : MethodName := ⟨RX6, "widest", "(II)I"⟩
abbrev cX6_turns : ByteArray := prog_8_method_4_code
def yX6_turns : MethodName := ⟨RX6, "turns", "()I"⟩
abbrev cX6_calmFrom : ByteArray := prog_8_method_5_code
def yX6_calmFrom : MethodName := ⟨RX6, "calmFrom", "()I"⟩
def RX7 : String := "TheyHearLate$Told"
def TX7 : u_T := fun k => match k with
  | 0 => ("TheyHearLate$Told", "numbers", "[J", true)
  | _ => ("TheyHearLate$Told", "size", "I", false)
def tyX7 : Nat → FieldType := fun k => match k with
  | 0 => .array .long
  | _ => .int
abbrev wsX70 : List Cond := u_ws RX7 TX7 2
theorem nmX7 : ∀ a, a < 2 → ∀ b, b < 2 → a ≠ b → (TX7 a).2.1 ≠ (TX7 b).2.1 := by decide +kernel
theorem tyX7_ok : ∀ k, k < 2 → parseFieldDescriptor (TX7 k).2.2.1 = some (tyX7 k) := by decide +kernel
abbrev cX7_init : ByteArray := prog_9_method_1_code
def yX7_init : MethodName := ⟨RX7, "<init>", "()V"⟩
abbrev cX7_clear : ByteArray := prog_9_method_2_code
def yX7_clear : MethodName := ⟨RX7, "clear", "()V"⟩
abbrev cX7_add : ByteArray := prog_9_method_3_code
def yX7_add : MethodName := ⟨RX7, "add", "(J)V"⟩
abbrev cX7_tellOne : ByteArray := prog_9_method_4_code
def yX7_tellOne : MethodName := ⟨RX7, "tellOne", "(J)V"⟩
abbrev cX7_tellTwo : ByteArray := prog_9_method_5_code
def yX7_tellTwo : MethodName := ⟨RX7, "tellTwo", "(JJ)V"⟩
abbrev cX7_tellThree : ByteArray := prog_9_method_6_code
def yX7_tellThree : MethodName := ⟨RX7, "tellThree", "(JJJ)V"⟩
abbrev cX7_tellFraction : ByteArray := prog_9_method_7_code
def yX7_tellFraction : MethodName := ⟨RX7, "tellFraction", "(JJ)V"⟩
def RX8 : String := "TheyHearLate$Words"
def TX8 : u_T := fun k => match k with
  | 0 => ("TheyHearLate$Words", "fewest", "[I", true)
  | 1 => ("TheyHearLate$Words", "way", "[I", true)
  | _ => ("TheyHearLate$Words", "passing", "I", false)
def tyX8 : Nat → FieldType := fun k => match k with
  | 0 => .array .int
  | 1 => .array .int
  | _ => .int
abbrev wsX80 : List Cond := u_ws RX8 TX8 3
theorem nmX8 : ∀ a, a < 3 → ∀ b, b < 3 → a ≠ b → (TX8 a).2.1 ≠ (TX8 b).2.1 := by decide +kernel
theorem tyX8_ok : ∀ k, k < 3 → parseFieldDescriptor (TX8 k).2.2.1 = some (tyX8 k) := by decide +kernel
abbrev cX8_init : ByteArray := prog_10_method_1_code
def yX8_init : MethodName := ⟨RX8, "<init>", "()V"⟩
abbrev cX8_minutes : ByteArray := prog_10_method_2_code
def yX8_minutes : MethodName := ⟨RX8, "minutes", "(LTheyHearLate$Yard;II)I"⟩
abbrev cX8_measure : ByteArray := prog_10_method_3_code
def yX8_measure : MethodName := ⟨RX8, "measure", "(LTheyHearLate$Yard;I)V"⟩
abbrev cX8_minutesBy : ByteArray := prog_10_method_4_code
def yX8_minutesBy : MethodName := ⟨RX8, "minutesBy", "(LTheyHearLate$Yard;III)I"⟩
abbrev cX8_findWay : ByteArray := prog_10_method_5_code
def yX8_findWay : MethodName := ⟨RX8, "findWay", "(LTheyHearLate$Yard;I)V"⟩
def RX9 : String := "TheyHearLate$Yard"
def TX9 : u_T := fun k => match k with
  | 0 => ("TheyHearLate$Yard", "people", "[LTheyHearLate$Person;", true)
  | 1 => ("TheyHearLate$Yard", "size", "I", false)
  | 2 => ("TheyHearLate$Yard", "formulas", "[LTheyHearLate$Formula;", true)
  | 3 => ("TheyHearLate$Yard", "doing", "[I", true)
  | 4 => ("TheyHearLate$Yard", "due", "I", false)
  | 5 => ("TheyHearLate$Yard", "down", "I", false)
  | 6 => ("TheyHearLate$Yard", "up", "I", false)
  | _ => ("TheyHearLate$Yard", "seen", "[I", true)
def tyX9 : Nat → FieldType := fun k => match k with
  | 0 => .array (.object "TheyHearLate$Person")
  | 1 => .int
  | 2 => .array (.object "TheyHearLate$Formula")
  | 3 => .array .int
  | 4 => .int
  | 5 => .int
  | 6 => .int
  | _ => .array .int
abbrev wsX90 : List Cond := u_ws RX9 TX9 8
theorem nmX9 : ∀ a, a < 8 → ∀ b, b < 8 → a ≠ b → (TX9 a).2.1 ≠ (TX9 b).2.1 := by decide +kernel
theorem tyX9_ok : ∀ k, k < 8 → parseFieldDescriptor (TX9 k).2.2.1 = some (tyX9 k) := by decide +kernel
abbrev cX9_init : ByteArray := prog_11_method_1_code
def yX9_init : MethodName := ⟨RX9, "<init>", "()V"⟩
abbrev cX9_has : ByteArray := prog_11_method_2_code
def yX9_has : MethodName := ⟨RX9, "has", "(I)Z"⟩
abbrev cX9_hasTwo : ByteArray := prog_11_method_3_code
def yX9_hasTwo : MethodName := ⟨RX9, "hasTwo", "(II)Z"⟩
abbrev cX9_isNear : ByteArray := prog_11_method_4_code
def yX9_isNear : MethodName := ⟨RX9, "isNear", "(II)Z"⟩
abbrev cX9_isSeen : ByteArray := prog_11_method_5_code
def yX9_isSeen : MethodName := ⟨RX9, "isSeen", "(II)Z"⟩
abbrev cX9_isDeed : ByteArray := prog_11_method_6_code
def yX9_isDeed : MethodName := ⟨RX9, "isDeed", "(I)Z"⟩
abbrev cX9_toldRules : ByteArray := prog_11_method_7_code
def yX9_toldRules : MethodName := ⟨RX9, "toldRules", "()I"⟩
abbrev cX9_look : ByteArray := prog_11_method_8_code
def yX9_look : MethodName := ⟨RX9, "look", "(LTheyHearLate$Course;I)V"⟩
abbrev cX9_hears : ByteArray := prog_11_method_9_code
def yX9_hears : MethodName := ⟨RX9, "hears", "(LTheyHearLate$Course;I)I"⟩
abbrev cX9_deed : ByteArray := prog_11_method_10_code
def yX9_deed : MethodName := ⟨RX9, "deed", "(I)I"⟩
abbrev cX9_speech : ByteArray := prog_11_method_11_code
def yX9_speech : MethodName := ⟨RX9, "speech", "(I)I"⟩
abbrev cX9_pass : ByteArray := prog_11_method_12_code
def yX9_pass : MethodName := ⟨RX9, "pass", "(LTheyHearLate$Course;I)V"⟩
abbrev cX9_wind : ByteArray := prog_11_method_13_code
def yX9_wind : MethodName := ⟨RX9, "wind", "(LTheyHearLate$Course;)I"⟩
def RX10 : String := "TheyHearLate"
def TX10 : u_T := fun k => match k with
  | 0 => ("TheyHearLate", "yard", "LTheyHearLate$Yard;", true)
  | 1 => ("TheyHearLate", "course", "LTheyHearLate$Course;", true)
  | 2 => ("TheyHearLate", "trial", "LTheyHearLate$Course;", true)
  | 3 => ("TheyHearLate", "kept", "[LTheyHearLate$Course;", true)
  | 4 => ("TheyHearLate", "reader", "LTheyHearLate$Reader;", true)
  | 5 => ("TheyHearLate", "told", "LTheyHearLate$Told;", true)
  | 6 => ("TheyHearLate", "words", "LTheyHearLate$Words;", true)
  | 7 => ("TheyHearLate", "helm", "LTheyHearLate$Helm;", true)
  | 8 => ("TheyHearLate", "sway", "LTheyHearLate$Sway;", true)
  | _ => ("TheyHearLate", "match", "LTheyHearLate$Match;", true)
def tyX10 : Nat → FieldType := fun k => match k with
  | 0 => .object "TheyHearLate$Yard"
  | 1 => .object "TheyHearLate$Course"
  | 2 => .object "TheyHearLate$Course"
  | 3 => .array (.object "TheyHearLate$Course")
  | 4 => .object "TheyHearLate$Reader"
  | 5 => .object "TheyHearLate$Told"
  | 6 => .object "TheyHearLate$Words"
  | 7 => .object "TheyHearLate$Helm"
  | 8 => .object "TheyHearLate$Sway"
  | _ => .object "TheyHearLate$Match"
abbrev wsX100 : List Cond := u_ws RX10 TX10 10
theorem nmX10 : ∀ a, a < 10 → ∀ b, b < 10 → a ≠ b → (TX10 a).2.1 ≠ (TX10 b).2.1 := by decide +kernel
theorem tyX10_ok : ∀ k, k < 10 → parseFieldDescriptor (TX10 k).2.2.1 = some (tyX10 k) := by decide +kernel
abbrev cX10_init : ByteArray := prog_1_method_1_code
def yX10_init : MethodName := ⟨RX10, "<init>", "()V"⟩
abbrev cX10_person : ByteArray := prog_1_method_2_code
def yX10_person : MethodName := ⟨RX10, "person", "(III)I"⟩
abbrev cX10_set : ByteArray := prog_1_method_3_code
def yX10_set : MethodName := ⟨RX10, "set", "(III)I"⟩
abbrev cX10_link : ByteArray := prog_1_method_4_code
def yX10_link : MethodName := ⟨RX10, "link", "(IIIZ)Z"⟩
abbrev cX10_beam : ByteArray := prog_1_method_5_code
def yX10_beam : MethodName := ⟨RX10, "beam", "(II)I"⟩
abbrev cX10_sheet : ByteArray := prog_1_method_6_code
def yX10_sheet : MethodName := ⟨RX10, "sheet", "(IIII)I"⟩
abbrev cX10_sign : ByteArray := prog_1_method_7_code
def yX10_sign : MethodName := ⟨RX10, "sign", "(I)I"⟩
abbrev cX10_end : ByteArray := prog_1_method_8_code
def yX10_end : MethodName := ⟨RX10, "end", "(I)Z"⟩
abbrev cX10_rule : ByteArray := prog_1_method_9_code
def yX10_rule : MethodName := ⟨RX10, "rule", "(I)I"⟩
abbrev cX10_does : ByteArray := prog_1_method_10_code
def yX10_does : MethodName := ⟨RX10, "does", "(II)I"⟩
abbrev cX10_go : ByteArray := prog_1_method_11_code
def yX10_go : MethodName := ⟨RX10, "go", "(I)I"⟩
abbrev cX10_begin : ByteArray := prog_1_method_12_code
def yX10_begin : MethodName := ⟨RX10, "begin", "()Z"⟩
abbrev cX10_place : ByteArray := prog_1_method_13_code
def yX10_place : MethodName := ⟨RX10, "place", "(I)I"⟩
abbrev cX10_was : ByteArray := prog_1_method_14_code
def yX10_was : MethodName := ⟨RX10, "was", "(III)I"⟩
abbrev cX10_cost : ByteArray := prog_1_method_15_code
def yX10_cost : MethodName := ⟨RX10, "cost", "()I"⟩
abbrev cX10_crossed : ByteArray := prog_1_method_16_code
def yX10_crossed : MethodName := ⟨RX10, "crossed", "()I"⟩
abbrev cX10_by : ByteArray := prog_1_method_17_code
def yX10_by : MethodName := ⟨RX10, "by", "(III)I"⟩
abbrev cX10_would : ByteArray := prog_1_method_18_code
def yX10_would : MethodName := ⟨RX10, "would", "(II)I"⟩
abbrev cX10_rules : ByteArray := prog_1_method_19_code
def yX10_rules : MethodName := ⟨RX10, "rules", "(IIII)I"⟩
abbrev cX10_pair : ByteArray := prog_1_method_20_code
def yX10_pair : MethodName := ⟨RX10, "pair", "(III)I"⟩
abbrev cX10_echo : ByteArray := prog_1_method_21_code
def yX10_echo : MethodName := ⟨RX10, "echo", "(I)I"⟩
abbrev cX10_waits : ByteArray := prog_1_method_22_code
def yX10_waits : MethodName := ⟨RX10, "waits", "(I)I"⟩
abbrev cX10_swings : ByteArray := prog_1_method_23_code
def yX10_swings : MethodName := ⟨RX10, "swings", "()I"⟩
abbrev cX10_steer : ByteArray := prog_1_method_24_code
def yX10_steer : MethodName := ⟨RX10, "steer", "(IIII)I"⟩
abbrev cX10_blind : ByteArray := prog_1_method_25_code
def yX10_blind : MethodName := ⟨RX10, "blind", "(IIII)I"⟩
abbrev cX10_pull : ByteArray := prog_1_method_26_code
def yX10_pull : MethodName := ⟨RX10, "pull", "(IIII)I"⟩
abbrev cX10_edge : ByteArray := prog_1_method_27_code
def yX10_edge : MethodName := ⟨RX10, "edge", "(I)I"⟩
abbrev cX10_gentle : ByteArray := prog_1_method_28_code
def yX10_gentle : MethodName := ⟨RX10, "gentle", "(II)I"⟩
abbrev cX10_weight : ByteArray := prog_1_method_29_code
def yX10_weight : MethodName := ⟨RX10, "weight", "(III)I"⟩
abbrev cX10_pays : ByteArray := prog_1_method_30_code
def yX10_pays : MethodName := ⟨RX10, "pays", "()I"⟩
abbrev cX10_two : ByteArray := prog_1_method_31_code
def yX10_two : MethodName := ⟨RX10, "two", "()J"⟩
abbrev cX10_stand : ByteArray := prog_1_method_32_code
def yX10_stand : MethodName := ⟨RX10, "stand", "(II)I"⟩
abbrev cX10_gap : ByteArray := prog_1_method_33_code
def yX10_gap : MethodName := ⟨RX10, "gap", "()J"⟩
abbrev cX10_says : ByteArray := prog_1_method_34_code
def yX10_says : MethodName := ⟨RX10, "says", "(II)I"⟩
abbrev cX10_soon : ByteArray := prog_1_method_35_code
def yX10_soon : MethodName := ⟨RX10, "soon", "(II)I"⟩
abbrev cX10_know : ByteArray := prog_1_method_36_code
def yX10_know : MethodName := ⟨RX10, "know", "(III)I"⟩
abbrev cX10_crier : ByteArray := prog_1_method_37_code
def yX10_crier : MethodName := ⟨RX10, "crier", "()I"⟩
abbrev cX10_deaf : ByteArray := prog_1_method_38_code
def yX10_deaf : MethodName := ⟨RX10, "deaf", "(I)I"⟩
abbrev cX10_warn : ByteArray := prog_1_method_39_code
def yX10_warn : MethodName := ⟨RX10, "warn", "(IIIII)I"⟩
abbrev cX10_fog : ByteArray := prog_1_method_40_code
def yX10_fog : MethodName := ⟨RX10, "fog", "(IIII)Z"⟩
abbrev cX10_chance : ByteArray := prog_1_method_41_code
def yX10_chance : MethodName := ⟨RX10, "chance", "(III)I"⟩
abbrev cX10_sure : ByteArray := prog_1_method_42_code
def yX10_sure : MethodName := ⟨RX10, "sure", "(III)I"⟩
abbrev cX10_seed : ByteArray := prog_1_method_43_code
def yX10_seed : MethodName := ⟨RX10, "seed", "(I)I"⟩
abbrev cX10_keep : ByteArray := prog_1_method_44_code
def yX10_keep : MethodName := ⟨RX10, "keep", "(I)Z"⟩
abbrev cX10_again : ByteArray := prog_1_method_45_code
def yX10_again : MethodName := ⟨RX10, "again", "(I)Z"⟩
abbrev cX10_count : ByteArray := prog_1_method_46_code
def yX10_count : MethodName := ⟨RX10, "count", "(I)I"⟩
abbrev cX10_row : ByteArray := prog_1_method_47_code
def yX10_row : MethodName := ⟨RX10, "row", "(I)J"⟩
abbrev cX10_isWithin : ByteArray := prog_1_method_48_code
def yX10_isWithin : MethodName := ⟨RX10, "isWithin", "(III)Z"⟩
abbrev cX10_putTo : ByteArray := prog_1_method_49_code
def yX10_putTo : MethodName := ⟨RX10, "putTo", "(II)I"⟩
abbrev cX10_withBit : ByteArray := prog_1_method_50_code
def yX10_withBit : MethodName := ⟨RX10, "withBit", "(IIZ)I"⟩
abbrev cX10_hasBit : ByteArray := prog_1_method_51_code
def yX10_hasBit : MethodName := ⟨RX10, "hasBit", "(II)Z"⟩
abbrev cX10_powerOfTen : ByteArray := prog_1_method_52_code
def yX10_powerOfTen : MethodName := ⟨RX10, "powerOfTen", "(I)J"⟩
abbrev cX10_sheetEntry : ByteArray := prog_1_method_53_code
def yX10_sheetEntry : MethodName := ⟨RX10, "sheetEntry", "(II)I"⟩
abbrev cX10_canSteer : ByteArray := prog_1_method_54_code
def yX10_canSteer : MethodName := ⟨RX10, "canSteer", "(IIII)Z"⟩
abbrev cX10_isRuleNumber : ByteArray := prog_1_method_55_code
def yX10_isRuleNumber : MethodName := ⟨RX10, "isRuleNumber", "(I)Z"⟩
abbrev cX10_tryOut : ByteArray := prog_1_method_56_code
def yX10_tryOut : MethodName := ⟨RX10, "tryOut", "(II)I"⟩
abbrev cX10_doneByAll : ByteArray := prog_1_method_57_code
def yX10_doneByAll : MethodName := ⟨RX10, "doneByAll", "(I)I"⟩
abbrev cX10_sameMinute : ByteArray := prog_1_method_58_code
def yX10_sameMinute : MethodName := ⟨RX10, "sameMinute", "(II)I"⟩
abbrev cX10_saidTooSoon : ByteArray := prog_1_method_59_code
def yX10_saidTooSoon : MethodName := ⟨RX10, "saidTooSoon", "(II)I"⟩
abbrev cX10_heardByAll : ByteArray := prog_1_method_60_code
def yX10_heardByAll : MethodName := ⟨RX10, "heardByAll", "(I)I"⟩
abbrev cX10_answeredOfHundred : ByteArray := prog_1_method_61_code
def yX10_answeredOfHundred : MethodName := ⟨RX10, "answeredOfHundred", "(III)I"⟩
def RX11 : String := "TheyHearLateModel"
def TX11 : u_T := fun k => match k with
  | 0 => ("TheyHearLateModel", "thrown", "I", false)
  | 1 => ("TheyHearLateModel", "rows", "I", false)
  | 2 => ("TheyHearLateModel", "row", "[J", true)
  | 3 => ("TheyHearLateModel", "people", "I", false)
  | 4 => ("TheyHearLateModel", "late", "[I", true)
  | 5 => ("TheyHearLateModel", "sight", "[I", true)
  | 6 => ("TheyHearLateModel", "thinks", "[I", true)
  | 7 => ("TheyHearLateModel", "near", "[I", true)
  | 8 => ("TheyHearLateModel", "sees", "[I", true)
  | 9 => ("TheyHearLateModel", "start", "I", false)
  | 10 => ("TheyHearLateModel", "due", "I", false)
  | 11 => ("TheyHearLateModel", "down", "I", false)
  | 12 => ("TheyHearLateModel", "up", "I", false)
  | 13 => ("TheyHearLateModel", "code", "[I", true)
  | 14 => ("TheyHearLateModel", "codes", "[I", true)
  | 15 => ("TheyHearLateModel", "stack", "[I", true)
  | 16 => ("TheyHearLateModel", "tape", "[I", true)
  | 17 => ("TheyHearLateModel", "taped", "I", false)
  | 18 => ("TheyHearLateModel", "at", "I", false)
  | 19 => ("TheyHearLateModel", "to", "I", false)
  | 20 => ("TheyHearLateModel", "nest", "I", false)
  | 21 => ("TheyHearLateModel", "signs", "Ljava/lang/String;", false)
  | 22 => ("TheyHearLateModel", "signAt", "[I", true)
  | 23 => ("TheyHearLateModel", "now", "I", false)
  | 24 => ("TheyHearLateModel", "random", "I", false)
  | 25 => ("TheyHearLateModel", "place", "[I", true)
  | 26 => ("TheyHearLateModel", "gone", "[I", true)
  | 27 => ("TheyHearLateModel", "instead", "[I", true)
  | 28 => ("TheyHearLateModel", "goneThen", "[I", true)
  | 29 => ("TheyHearLateModel", "placeThen", "[I", true)
  | 30 => ("TheyHearLateModel", "nowThen", "I", false)
  | 31 => ("TheyHearLateModel", "randomThen", "I", false)
  | 32 => ("TheyHearLateModel", "endPlace", "I", false)
  | 33 => ("TheyHearLateModel", "hope", "[J", false)
  | 34 => ("TheyHearLateModel", "hopeNext", "[J", false)
  | 35 => ("TheyHearLateModel", "winds", "[J", true)
  | 36 => ("TheyHearLateModel", "windsNext", "[J", true)
  | 37 => ("TheyHearLateModel", "firstThing", "I", false)
  | 38 => ("TheyHearLateModel", "pulled", "[I", true)
  | 39 => ("TheyHearLateModel", "weights", "[I", true)
  | 40 => ("TheyHearLateModel", "bestOne", "I", false)
  | 41 => ("TheyHearLateModel", "bestOther", "I", false)
  | 42 => ("TheyHearLateModel", "standOne", "I", false)
  | 43 => ("TheyHearLateModel", "standOther", "I", false)
  | 44 => ("TheyHearLateModel", "far", "[I", true)
  | 45 => ("TheyHearLateModel", "fogA", "[I", true)
  | 46 => ("TheyHearLateModel", "fogB", "[I", true)
  | 47 => ("TheyHearLateModel", "fogC", "[I", true)
  | 48 => ("TheyHearLateModel", "kept", "[I", true)
  | 49 => ("TheyHearLateModel", "isKept", "[Z", true)
  | 50 => ("TheyHearLateModel", "keptPeople", "[I", true)
  | 51 => ("TheyHearLateModel", "keptNow", "[I", true)
  | 52 => ("TheyHearLateModel", "keptStart", "[I", true)
  | _ => ("TheyHearLateModel", "keptRandom", "[I", true)
def tyX11 : Nat → FieldType := fun k => match k with
  | 0 => .int
  | 1 => .int
  | 2 => .array .long
  | 3 => .int
  | 4 => .array .int
  | 5 => .array .int
  | 6 => .array .int
  | 7 => .array .int
  | 8 => .array .int
  | 9 => .int
  | 10 => .int
  | 11 => .int
  | 12 => .int
  | 13 => .array .int
  | 14 => .array .int
  | 15 => .array .int
  | 16 => .array .int
  | 17 => .int
  | 18 => .int
  | 19 => .int
  | 20 => .int
  | 21 => .object "java/lang/String"
  | 22 => .array .int
  | 23 => .int
  | 24 => .int
  | 25 => .array .int
  | 26 => .array .int
  | 27 => .array .int
  | 28 => .array .int
  | 29 => .array .int
  | 30 => .int
  | 31 => .int
  | 32 => .int
  | 33 => .array .long
  | 34 => .array .long
  | 35 => .array .long
  | 36 => .array .long
  | 37 => .int
  | 38 => .array .int
  | 39 => .array .int
  | 40 => .int
  | 41 => .int
  | 42 => .int
  | 43 => .int
  | 44 => .array .int
  | 45 => .array .int
  | 46 => .array .int
  | 47 => .array .int
  | 48 => .array .int
  | 49 => .array .boolean
  | 50 => .array .int
  | 51 => .array .int
  | 52 => .array .int
  | _ => .array .int
abbrev wsX110 : List Cond := u_ws RX11 TX11 54
theorem nmX11 : ∀ a, a < 54 → ∀ b, b < 54 → a ≠ b → (TX11 a).2.1 ≠ (TX11 b).2.1 := by decide +kernel
theorem tyX11_ok : ∀ k, k < 54 → parseFieldDescriptor (TX11 k).2.2.1 = some (tyX11 k) := by decide +kernel
abbrev cX11_thrown : ByteArray := prog_13_method_1_code
def yX11_thrown : MethodName := ⟨RX11, "thrown", "()I"⟩
abbrev cX11_refuse : ByteArray := prog_13_method_2_code
def yX11_refuse : MethodName := ⟨RX11, "refuse", "()I"⟩
abbrev cX11_in : ByteArray := prog_13_method_3_code
def yX11_in : MethodName := ⟨RX11, "in", "(JJJ)Z"⟩
abbrev cX11_has : ByteArray := prog_13_method_4_code
def yX11_has : MethodName := ⟨RX11, "has", "(II)Z"⟩
abbrev cX11_flag : ByteArray := prog_13_method_5_code
def yX11_flag : MethodName := ⟨RX11, "flag", "(Z)I"⟩
abbrev cX11_put : ByteArray := prog_13_method_6_code
def yX11_put : MethodName := ⟨RX11, "put", "(II)I"⟩
abbrev cX11_enters : ByteArray := prog_13_method_7_code
def yX11_enters : MethodName := ⟨RX11, "enters", "(J)V"⟩
abbrev cX11_common : ByteArray := prog_13_method_8_code
def yX11_common : MethodName := ⟨RX11, "common", "(JJ)J"⟩
abbrev cX11_entersFraction : ByteArray := prog_13_method_9_code
def yX11_entersFraction : MethodName := ⟨RX11, "entersFraction", "(JJ)V"⟩
abbrev cX11_isPerson : ByteArray := prog_13_method_10_code
def yX11_isPerson : MethodName := ⟨RX11, "isPerson", "(I)Z"⟩
abbrev cX11_arePair : ByteArray := prog_13_method_11_code
def yX11_arePair : MethodName := ⟨RX11, "arePair", "(II)Z"⟩
abbrev cX11_mostOf : ByteArray := prog_13_method_12_code
def yX11_mostOf : MethodName := ⟨RX11, "mostOf", "(I)I"⟩
abbrev cX11_person : ByteArray := prog_13_method_13_code
def yX11_person : MethodName := ⟨RX11, "person", "(III)I"⟩
abbrev cX11_set : ByteArray := prog_13_method_14_code
def yX11_set : MethodName := ⟨RX11, "set", "(III)I"⟩
abbrev cX11_with : ByteArray := prog_13_method_15_code
def yX11_with : MethodName := ⟨RX11, "with", "(IIZ)I"⟩
abbrev cX11_link : ByteArray := prog_13_method_16_code
def yX11_link : MethodName := ⟨RX11, "link", "(IIIZ)Z"⟩
abbrev cX11_beam : ByteArray := prog_13_method_17_code
def yX11_beam : MethodName := ⟨RX11, "beam", "(II)I"⟩
abbrev cX11_sheet : ByteArray := prog_13_method_18_code
def yX11_sheet : MethodName := ⟨RX11, "sheet", "(IIII)I"⟩
abbrev cX11_sign : ByteArray := prog_13_method_19_code
def yX11_sign : MethodName := ⟨RX11, "sign", "(I)I"⟩
abbrev cX11_end : ByteArray := prog_13_method_20_code
def yX11_end : MethodName := ⟨RX11, "end", "(I)Z"⟩
abbrev cX11_isDigit : ByteArray := prog_13_method_21_code
def yX11_isDigit : MethodName := ⟨RX11, "isDigit", "()Z"⟩
abbrev cX11_among : ByteArray := prog_13_method_22_code
def yX11_among : MethodName := ⟨RX11, "among", "(Ljava/lang/String;)I"⟩
abbrev cX11_marks : ByteArray := prog_13_method_23_code
def yX11_marks : MethodName := ⟨RX11, "marks", "(I)V"⟩
abbrev cX11_thing : ByteArray := prog_13_method_24_code
def yX11_thing : MethodName := ⟨RX11, "thing", "()Z"⟩
abbrev cX11_ahead : ByteArray := prog_13_method_25_code
def yX11_ahead : MethodName := ⟨RX11, "ahead", "()Z"⟩
abbrev cX11_ranked : ByteArray := prog_13_method_26_code
def yX11_ranked : MethodName := ⟨RX11, "ranked", "(I)Z"⟩
abbrev cX11_reads : ByteArray := prog_13_method_27_code
def yX11_reads : MethodName := ⟨RX11, "reads", "(ILjava/lang/String;)I"⟩
abbrev cX11_rule : ByteArray := prog_13_method_28_code
def yX11_rule : MethodName := ⟨RX11, "rule", "(I)I"⟩
abbrev cX11_pays : ByteArray := prog_13_method_29_code
def yX11_pays : MethodName := ⟨RX11, "pays", "()I"⟩
abbrev cX11_acted : ByteArray := prog_13_method_30_code
def yX11_acted : MethodName := ⟨RX11, "acted", "(III)I"⟩
abbrev cX11_worked : ByteArray := prog_13_method_31_code
def yX11_worked : MethodName := ⟨RX11, "worked", "(I)I"⟩
abbrev cX11_indexOf : ByteArray := prog_13_method_32_code
def yX11_indexOf : MethodName := ⟨RX11, "indexOf", "(III)I"⟩
abbrev cX11_wasOf : ByteArray := prog_13_method_33_code
def yX11_wasOf : MethodName := ⟨RX11, "wasOf", "(III)I"⟩
abbrev cX11_placeAt : ByteArray := prog_13_method_34_code
def yX11_placeAt : MethodName := ⟨RX11, "placeAt", "(I)I"⟩
abbrev cX11_lateOf : ByteArray := prog_13_method_35_code
def yX11_lateOf : MethodName := ⟨RX11, "lateOf", "(I)I"⟩
abbrev cX11_heardBy : ByteArray := prog_13_method_36_code
def yX11_heardBy : MethodName := ⟨RX11, "heardBy", "(II)I"⟩
abbrev cX11_looks : ByteArray := prog_13_method_37_code
def yX11_looks : MethodName := ⟨RX11, "looks", "(II)V"⟩
abbrev cX11_doesNow : ByteArray := prog_13_method_38_code
def yX11_doesNow : MethodName := ⟨RX11, "doesNow", "(III)I"⟩
abbrev cX11_draws : ByteArray := prog_13_method_39_code
def yX11_draws : MethodName := ⟨RX11, "draws", "(I)I"⟩
abbrev cX11_blows : ByteArray := prog_13_method_40_code
def yX11_blows : MethodName := ⟨RX11, "blows", "()I"⟩
abbrev cX11_passes : ByteArray := prog_13_method_41_code
def yX11_passes : MethodName := ⟨RX11, "passes", "()V"⟩
abbrev cX11_does : ByteArray := prog_13_method_42_code
def yX11_does : MethodName := ⟨RX11, "does", "(II)I"⟩
abbrev cX11_go : ByteArray := prog_13_method_43_code
def yX11_go : MethodName := ⟨RX11, "go", "(I)I"⟩
abbrev cX11_begins : ByteArray := prog_13_method_44_code
def yX11_begins : MethodName := ⟨RX11, "begins", "()V"⟩
abbrev cX11_begin : ByteArray := prog_13_method_45_code
def yX11_begin : MethodName := ⟨RX11, "begin", "()Z"⟩
abbrev cX11_place : ByteArray := prog_13_method_46_code
def yX11_place : MethodName := ⟨RX11, "place", "(I)I"⟩
abbrev cX11_was : ByteArray := prog_13_method_47_code
def yX11_was : MethodName := ⟨RX11, "was", "(III)I"⟩
abbrev cX11_costNow : ByteArray := prog_13_method_48_code
def yX11_costNow : MethodName := ⟨RX11, "costNow", "()I"⟩
abbrev cX11_cost : ByteArray := prog_13_method_49_code
def yX11_cost : MethodName := ⟨RX11, "cost", "()I"⟩
abbrev cX11_crossed : ByteArray := prog_13_method_50_code
def yX11_crossed : MethodName := ⟨RX11, "crossed", "()I"⟩
abbrev cX11_by : ByteArray := prog_13_method_51_code
def yX11_by : MethodName := ⟨RX11, "by", "(III)I"⟩
abbrev cX11_putsBy : ByteArray := prog_13_method_52_code
def yX11_putsBy : MethodName := ⟨RX11, "putsBy", "()V"⟩
abbrev cX11_takesBack : ByteArray := prog_13_method_53_code
def yX11_takesBack : MethodName := ⟨RX11, "takesBack", "()V"⟩
abbrev cX11_costs : ByteArray := prog_13_method_54_code
def yX11_costs : MethodName := ⟨RX11, "costs", "(II)I"⟩
abbrev cX11_would : ByteArray := prog_13_method_55_code
def yX11_would : MethodName := ⟨RX11, "would", "(II)I"⟩
abbrev cX11_rules : ByteArray := prog_13_method_56_code
def yX11_rules : MethodName := ⟨RX11, "rules", "(IIII)I"⟩
abbrev cX11_pair : ByteArray := prog_13_method_57_code
def yX11_pair : MethodName := ⟨RX11, "pair", "(III)I"⟩
abbrev cX11_echo : ByteArray := prog_13_method_58_code
def yX11_echo : MethodName := ⟨RX11, "echo", "(I)I"⟩
abbrev cX11_waits : ByteArray := prog_13_method_59_code
def yX11_waits : MethodName := ⟨RX11, "waits", "(I)I"⟩
abbrev cX11_swings : ByteArray := prog_13_method_60_code
def yX11_swings : MethodName := ⟨RX11, "swings", "()I"⟩
abbrev cX11_sumsWinds : ByteArray := prog_13_method_61_code
def yX11_sumsWinds : MethodName := ⟨RX11, "sumsWinds", "(I)V"⟩
abbrev cX11_costOf : ByteArray := prog_13_method_62_code
def yX11_costOf : MethodName := ⟨RX11, "costOf", "(I)J"⟩
abbrev cX11_then : ByteArray := prog_13_method_63_code
def yX11_then : MethodName := ⟨RX11, "then", "(I)J"⟩
abbrev cX11_steers : ByteArray := prog_13_method_64_code
def yX11_steers : MethodName := ⟨RX11, "steers", "(IIII)J"⟩
abbrev cX11_isSteering : ByteArray := prog_13_method_65_code
def yX11_isSteering : MethodName := ⟨RX11, "isSteering", "(IIII)Z"⟩
abbrev cX11_steer : ByteArray := prog_13_method_66_code
def yX11_steer : MethodName := ⟨RX11, "steer", "(IIII)I"⟩
abbrev cX11_power : ByteArray := prog_13_method_67_code
def yX11_power : MethodName := ⟨RX11, "power", "(JI)J"⟩
abbrev cX11_blind : ByteArray := prog_13_method_68_code
def yX11_blind : MethodName := ⟨RX11, "blind", "(IIII)I"⟩
abbrev cX11_pulls : ByteArray := prog_13_method_69_code
def yX11_pulls : MethodName := ⟨RX11, "pulls", "(IIII)V"⟩
abbrev cX11_greatest : ByteArray := prog_13_method_70_code
def yX11_greatest : MethodName := ⟨RX11, "greatest", "(II)I"⟩
abbrev cX11_calm : ByteArray := prog_13_method_71_code
def yX11_calm : MethodName := ⟨RX11, "calm", "(I)I"⟩
abbrev cX11_pull : ByteArray := prog_13_method_72_code
def yX11_pull : MethodName := ⟨RX11, "pull", "(IIII)I"⟩
abbrev cX11_edge : ByteArray := prog_13_method_73_code
def yX11_edge : MethodName := ⟨RX11, "edge", "(I)I"⟩
abbrev cX11_gentle : ByteArray := prog_13_method_74_code
def yX11_gentle : MethodName := ⟨RX11, "gentle", "(II)I"⟩
abbrev cX11_weight : ByteArray := prog_13_method_75_code
def yX11_weight : MethodName := ⟨RX11, "weight", "(III)I"⟩
abbrev cX11_worth : ByteArray := prog_13_method_76_code
def yX11_worth : MethodName := ⟨RX11, "worth", "(IIII)J"⟩
abbrev cX11_thingOf : ByteArray := prog_13_method_77_code
def yX11_thingOf : MethodName := ⟨RX11, "thingOf", "(II)I"⟩
abbrev cX11_worthOf : ByteArray := prog_13_method_78_code
def yX11_worthOf : MethodName := ⟨RX11, "worthOf", "(II)J"⟩
abbrev cX11_ruleAt : ByteArray := prog_13_method_79_code
def yX11_ruleAt : MethodName := ⟨RX11, "ruleAt", "(I)I"⟩
abbrev cX11_bestOfTwo : ByteArray := prog_13_method_80_code
def yX11_bestOfTwo : MethodName := ⟨RX11, "bestOfTwo", "()J"⟩
abbrev cX11_two : ByteArray := prog_13_method_81_code
def yX11_two : MethodName := ⟨RX11, "two", "()J"⟩
abbrev cX11_partOf : ByteArray := prog_13_method_82_code
def yX11_partOf : MethodName := ⟨RX11, "partOf", "(IIII)J"⟩
abbrev cX11_answers : ByteArray := prog_13_method_83_code
def yX11_answers : MethodName := ⟨RX11, "answers", "(III)I"⟩
abbrev cX11_stands : ByteArray := prog_13_method_84_code
def yX11_stands : MethodName := ⟨RX11, "stands", "(II)I"⟩
abbrev cX11_isStand : ByteArray := prog_13_method_85_code
def yX11_isStand : MethodName := ⟨RX11, "isStand", "(I)Z"⟩
abbrev cX11_stand : ByteArray := prog_13_method_86_code
def yX11_stand : MethodName := ⟨RX11, "stand", "(II)I"⟩
abbrev cX11_gap : ByteArray := prog_13_method_87_code
def yX11_gap : MethodName := ⟨RX11, "gap", "()J"⟩
abbrev cX11_stepTo : ByteArray := prog_13_method_88_code
def yX11_stepTo : MethodName := ⟨RX11, "stepTo", "(II)I"⟩
abbrev cX11_fars : ByteArray := prog_13_method_89_code
def yX11_fars : MethodName := ⟨RX11, "fars", "(I)V"⟩
abbrev cX11_minutesTo : ByteArray := prog_13_method_90_code
def yX11_minutesTo : MethodName := ⟨RX11, "minutesTo", "(II)I"⟩
abbrev cX11_says : ByteArray := prog_13_method_91_code
def yX11_says : MethodName := ⟨RX11, "says", "(II)I"⟩
abbrev cX11_soon : ByteArray := prog_13_method_92_code
def yX11_soon : MethodName := ⟨RX11, "soon", "(II)I"⟩
abbrev cX11_know : ByteArray := prog_13_method_93_code
def yX11_know : MethodName := ⟨RX11, "know", "(III)I"⟩
abbrev cX11_crier : ByteArray := prog_13_method_94_code
def yX11_crier : MethodName := ⟨RX11, "crier", "()I"⟩
abbrev cX11_deaf : ByteArray := prog_13_method_95_code
def yX11_deaf : MethodName := ⟨RX11, "deaf", "(I)I"⟩
abbrev cX11_warn : ByteArray := prog_13_method_96_code
def yX11_warn : MethodName := ⟨RX11, "warn", "(IIIII)I"⟩
abbrev cX11_fog : ByteArray := prog_13_method_97_code
def yX11_fog : MethodName := ⟨RX11, "fog", "(IIII)Z"⟩
abbrev cX11_fogOf : ByteArray := prog_13_method_98_code
def yX11_fogOf : MethodName := ⟨RX11, "fogOf", "(II)I"⟩
abbrev cX11_casesBy : ByteArray := prog_13_method_99_code
def yX11_casesBy : MethodName := ⟨RX11, "casesBy", "(III)I"⟩
abbrev cX11_chance : ByteArray := prog_13_method_100_code
def yX11_chance : MethodName := ⟨RX11, "chance", "(III)I"⟩
abbrev cX11_sure : ByteArray := prog_13_method_101_code
def yX11_sure : MethodName := ⟨RX11, "sure", "(III)I"⟩
abbrev cX11_seed : ByteArray := prog_13_method_102_code
def yX11_seed : MethodName := ⟨RX11, "seed", "(I)I"⟩
abbrev cX11_keep : ByteArray := prog_13_method_103_code
def yX11_keep : MethodName := ⟨RX11, "keep", "(I)Z"⟩
abbrev cX11_again : ByteArray := prog_13_method_104_code
def yX11_again : MethodName := ⟨RX11, "again", "(I)Z"⟩
abbrev cX11_rulesTold : ByteArray := prog_13_method_105_code
def yX11_rulesTold : MethodName := ⟨RX11, "rulesTold", "()I"⟩
abbrev cX11_count : ByteArray := prog_13_method_106_code
def yX11_count : MethodName := ⟨RX11, "count", "(I)I"⟩
abbrev cX11_init : ByteArray := prog_13_method_107_code
def yX11_init : MethodName := ⟨RX11, "<init>", "()V"⟩
abbrev cX11_row : ByteArray := prog_13_method_108_code
def yX11_row : MethodName := ⟨RX11, "row", "(I)J"⟩
def RJ6 : String := "java/lang/Integer"
abbrev cJ6_signum_0f7a4 : ByteArray := prog_19_method_56_code
def yJ6_signum_0f7a4 : MethodName := ⟨RJ6, "signum", "(I)I"⟩
def RJ0 : String := "java/lang/String"
def RL : String := "TheyHearLateLaw"
abbrev cL_does : ByteArray := method_3_code
def yL_does : MethodName := ⟨RL, "does", "(LTheyHearLate;II[J)I"⟩
abbrev cL_go : ByteArray := method_4_code
def yL_go : MethodName := ⟨RL, "go", "(LTheyHearLate;I[J)I"⟩
abbrev cL_place : ByteArray := method_5_code
def yL_place : MethodName := ⟨RL, "place", "(LTheyHearLate;I[J)I"⟩
abbrev cL_was : ByteArray := method_6_code
def yL_was : MethodName := ⟨RL, "was", "(LTheyHearLate;III[J)I"⟩
abbrev cL_row : ByteArray := method_7_code
def yL_row : MethodName := ⟨RL, "row", "(LTheyHearLate;I[J)I"⟩
abbrev cL_law : ByteArray := code
def yL_law : MethodName := ⟨RL, "law", "([I)Z"⟩
abbrev vwCl : List vw_C := [(RX0, TX0, 9), (RX1, TX1, 3), (RX2, TX2, 5), (RX3, TX3, 8), (RX4, TX4, 6), (RX5, TX5, 10), (RX6, TX6, 2), (RX7, TX7, 2), (RX8, TX8, 3), (RX9, TX9, 8), (RX10, TX10, 10), (RX11, TX11, 54)]
end
section
/-! THE ABSTRACT MACHINE: cells by number (a reference is a place in the list of cells), one step of it as what must hold for a goal behind it. -/
abbrev am_E : Type := (Nat × Nat × (Nat → Int32)) ⊕ ((Nat × (Nat → Int64)) ⊕ ((Nat × List (Option Nat)) ⊕ (Nat × List Value)))
abbrev am_G : Type := List am_E
abbrev am_L : Type := List (Option Value)
/-- pc, instruction, next pc, a, b, t, u, place of its word, a number, a long number -/
abbrev am_I : Type := Nat × Instr × Nat × Nat × Nat × Nat × Nat × Nat × Int32 × Int64
/-- name, code, maxLocals, returned, cells and slots made, words and parameters, own class, places of its words, table -/
abbrev am_M : Type := MethodName × ByteArray × Nat × Option FieldType × Nat × Nat × Nat × Nat × List Nat × List (Nat × List am_I)
def am_my (M : am_M) : MethodName := M.1
def am_mb (M : am_M) : ByteArray := M.2.1
def am_mL (M : am_M) : Nat := M.2.2.1
def am_mr (M : am_M) : Option FieldType := M.2.2.2.1
def am_mc (M : am_M) : Nat := M.2.2.2.2.1
def am_ms (M : am_M) : Nat := M.2.2.2.2.2.1
def am_mp (M : am_M) : Nat := M.2.2.2.2.2.2.1
def am_mk (M : am_M) : Nat := M.2.2.2.2.2.2.2.1
def am_mw (M : am_M) : List Nat := M.2.2.2.2.2.2.2.2.1
def am_mt (M : am_M) : List (Nat × List am_I) := M.2.2.2.2.2.2.2.2.2
abbrev am_P : Type := Nat → am_L → List Value → am_G → Nat → Nat → Prop
abbrev am_C : Type := Nat → List Value → am_G → (Option Value → am_G → Prop) → Prop
def am_lk1 : List am_I → Nat → Option am_I
  | [], _ => none
  | e :: t, n => bif Nat.beq e.1 n then some e else am_lk1 t n
def am_lk : List (Nat × List am_I) → Nat → Option am_I
  | [], _ => none
  | c :: t, n => bif Nat.blt n c.1 then am_lk1 c.2 n else am_lk t n
def am_O (ci : Nat) (fs : List Value) : am_E := .inr (.inr (.inr (ci, fs)))
def am_A (t n : Nat) (f : Nat → Int32) : am_E := .inl (t, n, f)
def am_J (n : Nat) (f : Nat → Int64) : am_E := .inr (.inl (n, f))
def am_R (t : Nat) (l : List (Option Nat)) : am_E := .inr (.inr (.inl (t, l)))
/-- what one behind a long loses when another one is stored there -/
def am_clr (L : am_L) (i : Nat) : am_L :=
  match i with
  | 0 => L
  | j + 1 => match L[j]? with
    | some (some (.long _)) => L.set j none
    | _ => L
def am_st1 (L : am_L) (i : Nat) (v : Value) : am_L := (am_clr L i).set i (some v)
def am_st2 (L : am_L) (i : Nat) (v : Value) : am_L := ((am_clr L i).set i (some v)).set (i + 1) none
def am_psh (r : Option Value) (st : List Value) : List Value := match r with
  | none => st
  | some v => v :: st
def am_wfv (n : Nat) (v : Value) : Bool := match v with
  | .ref k => decide (k < n) || decide (1000000 ≤ k)
  | _ => true
def am_wfL (n : Nat) (L : am_L) : Bool := L.all (fun o => match o with
  | none => true
  | some v => am_wfv n v)
def am_wfE (n : Nat) (e : am_E) : Bool := match e with
  | .inr (.inr (.inl (_, l))) => l.all (fun o => match o with
    | none => true
    | some k => decide (k < n) || decide (1000000 ≤ k))
  | .inr (.inr (.inr (_, fs))) => fs.all (am_wfv n)
  | _ => true
def am_wfc (n : Nat) (L : am_L) (st : List Value) : Bool := am_wfL n L && st.all (am_wfv n)
def am_wf (L : am_L) (st : List Value) (G : am_G) : Bool := am_wfc G.length L st && G.all (am_wfE G.length) && decide (G.length < 1000000)
def am_dflt (ty : FieldType) : Value := match ty with
  | .int => .int 0
  | .boolean => .int 0
  | .long => .long 0
  | _ => .null
/-- the fields of a new one, by its class's number -/
def am_dfl (ci : Nat) : List Value := match ci with
  | 0 => [.int 0, .int 0, .int 0, .int 0, .null, .null, .null, .null, .null]
  | 1 => [.null, .int 0, .null]
  | 2 => [.null, .null, .null, .null, .int 0]
  | 3 => [.null, .null, .null, .null, .null, .null, .null, .null]
  | 4 => [.int 0, .int 0, .int 0, .int 0, .int 0, .null]
  | 5 => [.null, .int 0, .null, .null, .int 0, .null, .int 0, .int 0, .int 0, .int 0]
  | 6 => [.null, .int 0]
  | 7 => [.null, .int 0]
  | 8 => [.null, .null, .int 0]
  | 9 => [.null, .int 0, .null, .null, .int 0, .int 0, .int 0, .null]
  | 10 => [.null, .null, .null, .null, .null, .null, .null, .null, .null, .null]
  | _ => (List.range 54).map (fun k => am_dflt (tyX11 k))
def am_newa (t n : Nat) : am_E := match t with
  | 1 => .inr (.inl (n, fun _ => 0))
  | _ => .inl (t, n, fun _ => 0)
def am_rc (t : Nat) : Nat := match t with
  | 3 => 4
  | 4 => 1
  | _ => 0
def am_str (j : Nat) : List Nat := match j with
  | 0 => [116, 121, 120, 118, 104, 97]
  | 1 => [105, 106, 97, 98]
  | 2 => [40]
  | 3 => [41]
  | 4 => [33, 45]
  | 5 => [124]
  | 6 => [38]
  | 7 => [60, 62, 61]
  | 8 => [43, 45]
  | 9 => [42, 47]
  | 10 => [116, 121, 120, 118, 104, 97]
  | _ => [105, 106, 97, 98]
/-- the first place of a sign, from a place on -/
def am_ixo : List Nat → Int32 → Nat → Int32
  | [], _, _ => -1
  | c :: t, x, k => if x = nI c then nI k else am_ixo t x (k + 1)
def am_tg (pc : Nat) (off : Int) : Nat := ((pc : Int) + off).toNat
def am_cond (o : Jvm.ClassFile.Cond) (x : Int32) (A B : Prop) : Prop := match o with
  | .eq => (x = 0 → A) ∧ (¬ x = 0 → B)
  | .ne => (¬ x = 0 → A) ∧ (x = 0 → B)
  | .lt => (x < 0 → A) ∧ (¬ x < 0 → B)
  | .ge => (0 ≤ x → A) ∧ (¬ 0 ≤ x → B)
  | .gt => (0 < x → A) ∧ (¬ 0 < x → B)
  | .le => (x ≤ 0 → A) ∧ (¬ x ≤ 0 → B)
def am_cmp (o : Jvm.ClassFile.Cond) (x y : Int32) (A B : Prop) : Prop := match o with
  | .eq => (x = y → A) ∧ (¬ x = y → B)
  | .ne => (¬ x = y → A) ∧ (x = y → B)
  | .lt => (x < y → A) ∧ (¬ x < y → B)
  | .ge => (y ≤ x → A) ∧ (¬ y ≤ x → B)
  | .gt => (y < x → A) ∧ (¬ y < x → B)
  | .le => (x ≤ y → A) ∧ (¬ x ≤ y → B)

/-- a call: its parameters' number n, the callee mi, what it makes; v: it has a receiver of class u -/
def am_inv (C : am_C) (P : am_P) (npc : Nat) (L : am_L) (st : List Value) (G : am_G) (nc ns mi n : Nat) : Prop :=
  n ≤ st.length ∧ ((st.drop n).map fun v => v.category).sum ≤ 8 ∧ ∃ post : Option Value → am_G → Prop, C mi (st.take n).reverse G post ∧ ∀ (r : Option Value) (G1 : am_G), post r G1 → P npc L (am_psh r (st.drop n)) G1 nc ns
def am_invA (C : am_C) (P : am_P) (mc ms : Nat) (npc : Nat) (L : am_L) (st : List Value) (G : am_G) (nc ns mi n kc ks : Nat) : Prop :=
  n ≤ st.length ∧ ((st.drop n).map fun v => v.category).sum ≤ 8 ∧ am_wfc G.length L (st.drop n) = true ∧ nc + kc ≤ mc ∧ ns + ks ≤ ms ∧ ∃ post : Option Value → am_G → Prop, C mi (st.take n).reverse G post ∧ ∀ (r : Option Value) (G1 : am_G), post r G1 → P npc L (am_psh r (st.drop n)) G1 (nc + kc) (ns + ks)
/-- the receiver under n - 1 parameters is of class u -/
def am_rcv (st : List Value) (G : am_G) (n u : Nat) : Prop := match st[n - 1]? with
  | some (.ref o) => match G[o]? with
    | some (.inr (.inr (.inr (ci, _)))) => ci = u
    | _ => False
  | _ => False
def am_rcR (st : List Value) (n : Nat) : Prop := match st[n - 1]? with
  | some (.ref _) => True
  | _ => False
def am_cpy (P : am_P) (npc : Nat) (L : am_L) (G : am_G) (nc ns : Nat) (n dp : Int32) (o1 : Nat) (sp : Int32) (o0 : Nat) (st : List Value) : Prop :=
  ¬ sp < 0 ∧ ¬ dp < 0 ∧ ¬ n < 0 ∧ (st.map fun v => v.category).sum ≤ 8 ∧ match G[o0]?, G[o1]? with
  | some (.inl (t0, n0, f)), some (.inl (t1, n1, g)) => t0 = 0 ∧ t1 = 0 ∧ sp.toNatClampNeg + n.toNatClampNeg ≤ n0 ∧ dp.toNatClampNeg + n.toNatClampNeg ≤ n1 ∧ P npc L st (G.set o1 (.inl (t1, n1, va_cpy f g sp.toNatClampNeg dp.toNatClampNeg n.toNatClampNeg))) nc ns
  | some (.inr (.inl (n0, f))), some (.inr (.inl (n1, g))) => sp.toNatClampNeg + n.toNatClampNeg ≤ n0 ∧ dp.toNatClampNeg + n.toNatClampNeg ≤ n1 ∧ P npc L st (G.set o1 (.inr (.inl (n1, va_cpy f g sp.toNatClampNeg dp.toNatClampNeg n.toNatClampNeg)))) nc ns
  | _, _ => False
def am_ins (C : am_C) (M : am_M) (scr : Option (Nat × (Nat → Int32))) (Q : Option Value → am_G → Prop) (X : Nat → am_L → am_G → Nat → Nat → Prop) (P : am_P) (pc : Nat) (i : Instr) (npc a b t u : Nat) (cv : Int32) (cl : Int64) (L : am_L) (st : List Value) (G : am_G) (nc ns : Nat) : Prop :=
  match i with
  | .iconst _ => P npc L (.int cv :: st) G nc ns
  | .bipush _ => P npc L (.int cv :: st) G nc ns
  | .sipush _ => P npc L (.int cv :: st) G nc ns
  | .ldc _ => (match t with
    | 0 => P npc L (.int cv :: st) G nc ns
    | _ => P npc L (.ref b :: st) G nc ns)
  | .ldc_w _ => (match t with
    | 0 => P npc L (.int cv :: st) G nc ns
    | _ => P npc L (.ref b :: st) G nc ns)
  | .lconst _ => P npc L (.long cl :: st) G nc ns
  | .ldc2_w _ => P npc L (.long cl :: st) G nc ns
  | .iload_n _ => (match L[a]? with
    | some (some (.int x)) => P npc L (.int x :: st) G nc ns
    | _ => False)
  | .iload _ => (match L[a]? with
    | some (some (.int x)) => P npc L (.int x :: st) G nc ns
    | _ => False)
  | .lload_n _ => (match L[a]? with
    | some (some (.long x)) => P npc L (.long x :: st) G nc ns
    | _ => False)
  | .lload _ => (match L[a]? with
    | some (some (.long x)) => P npc L (.long x :: st) G nc ns
    | _ => False)
  | .aload_n _ => (match L[a]? with
    | some (some (.ref x)) => P npc L (.ref x :: st) G nc ns
    | _ => False)
  | .aload _ => (match L[a]? with
    | some (some (.ref x)) => P npc L (.ref x :: st) G nc ns
    | _ => False)
  | .istore_n _ => (match st with
    | .int x :: st => P npc (am_st1 L a (.int x)) st G nc ns
    | _ => False)
  | .istore _ => (match st with
    | .int x :: st => P npc (am_st1 L a (.int x)) st G nc ns
    | _ => False)
  | .astore_n _ => (match st with
    | .ref x :: st => P npc (am_st1 L a (.ref x)) st G nc ns
    | _ => False)
  | .astore _ => (match st with
    | .ref x :: st => P npc (am_st1 L a (.ref x)) st G nc ns
    | _ => False)
  | .lstore_n _ => (match st with
    | .long x :: st => P npc (am_st2 L a (.long x)) st G nc ns
    | _ => False)
  | .lstore _ => (match st with
    | .long x :: st => P npc (am_st2 L a (.long x)) st G nc ns
    | _ => False)
  | .iinc _ _ => (match L[a]? with
    | some (some (.int x)) => P npc (am_st1 L a (.int (x + cv))) st G nc ns
    | _ => False)
  | .iadd => (match st with
    | .int y :: .int x :: st => P npc L (.int (x + y) :: st) G nc ns
    | _ => False)
  | .isub => (match st with
    | .int y :: .int x :: st => P npc L (.int (x - y) :: st) G nc ns
    | _ => False)
  | .imul => (match st with
    | .int y :: .int x :: st => P npc L (.int (x * y) :: st) G nc ns
    | _ => False)
  | .iand => (match st with
    | .int y :: .int x :: st => P npc L (.int (x &&& y) :: st) G nc ns
    | _ => False)
  | .ior => (match st with
    | .int y :: .int x :: st => P npc L (.int (x ||| y) :: st) G nc ns
    | _ => False)
  | .ixor => (match st with
    | .int y :: .int x :: st => P npc L (.int (x ^^^ y) :: st) G nc ns
    | _ => False)
  | .ishl => (match st with
    | .int y :: .int x :: st => P npc L (.int (x <<< (y &&& 31)) :: st) G nc ns
    | _ => False)
  | .ishr => (match st with
    | .int y :: .int x :: st => P npc L (.int (x >>> (y &&& 31)) :: st) G nc ns
    | _ => False)
  | .iushr => (match st with
    | .int y :: .int x :: st => P npc L (.int (x.toUInt32 >>> (y.toUInt32 &&& Int32.toUInt32 31)).toInt32 :: st) G nc ns
    | _ => False)
  | .idiv => (match st with
    | .int y :: .int x :: st => ¬ y = 0 ∧ P npc L (.int (x / y) :: st) G nc ns
    | _ => False)
  | .irem => (match st with
    | .int y :: .int x :: st => ¬ y = 0 ∧ P npc L (.int (x - x / y * y) :: st) G nc ns
    | _ => False)
  | .ladd => (match st with
    | .long y :: .long x :: st => P npc L (.long (x + y) :: st) G nc ns
    | _ => False)
  | .lsub => (match st with
    | .long y :: .long x :: st => P npc L (.long (x - y) :: st) G nc ns
    | _ => False)
  | .lmul => (match st with
    | .long y :: .long x :: st => P npc L (.long (x * y) :: st) G nc ns
    | _ => False)
  | .lcmp => (match st with
    | .long y :: .long x :: st => P npc L (.int (lg_cmp x y) :: st) G nc ns
    | _ => False)
  | .ldiv => (match st with
    | .long y :: .long x :: st => ¬ y = 0 ∧ P npc L (.long (x / y) :: st) G nc ns
    | _ => False)
  | .lrem => (match st with
    | .long y :: .long x :: st => ¬ y = 0 ∧ P npc L (.long (x - x / y * y) :: st) G nc ns
    | _ => False)
  | .ineg => (match st with
    | .int x :: st => P npc L (.int (-x) :: st) G nc ns
    | _ => False)
  | .i2l => (match st with
    | .int x :: st => P npc L (.long x.toInt64 :: st) G nc ns
    | _ => False)
  | .i2b => (match st with
    | .int x :: st => P npc L (.int x.toInt8.toInt32 :: st) G nc ns
    | _ => False)
  | .i2s => (match st with
    | .int x :: st => P npc L (.int x.toInt16.toInt32 :: st) G nc ns
    | _ => False)
  | .i2c => (match st with
    | .int x :: st => P npc L (.int (x.toUInt32 % 65536).toInt32 :: st) G nc ns
    | _ => False)
  | .lneg => (match st with
    | .long x :: st => P npc L (.long (-x) :: st) G nc ns
    | _ => False)
  | .dup => (match st with
    | v :: st => (match v.category with
      | 1 => P npc L (v :: v :: st) G nc ns
      | _ => False)
    | _ => False)
  | .dup2 => (match st with
    | v :: w :: st => (match v.category, w.category with
      | 1, 1 => P npc L (v :: w :: v :: w :: st) G nc ns
      | _, _ => False)
    | _ => False)
  | .pop => (match st with
    | v :: st => (match v.category with
      | 1 => P npc L st G nc ns
      | _ => False)
    | _ => False)
  | .ifCond o _ => (match st with
    | .int x :: st => am_cond o x (P a L st G nc ns) (P npc L st G nc ns)
    | _ => False)
  | .if_icmp o _ => (match st with
    | .int y :: .int x :: st => am_cmp o x y (P a L st G nc ns) (P npc L st G nc ns)
    | _ => False)
  | .ifnull _ => (match st with
    | .ref _ :: st => P npc L st G nc ns
    | .null :: st => P a L st G nc ns
    | _ => False)
  | .ifnonnull _ => (match st with
    | .ref _ :: st => P a L st G nc ns
    | .null :: st => P npc L st G nc ns
    | _ => False)
  | .goto _ => P a L st G nc ns
  | .tableswitch d lo hi offs => (match st with
    | .int x :: st => (x.toInt < lo ∨ hi < x.toInt → P (am_tg pc d) L st G nc ns) ∧ ∀ off : Int, ¬ x.toInt < lo → ¬ hi < x.toInt → offs[(x.toInt - lo).toNat]? = some off → P (am_tg pc off) L st G nc ns
    | _ => False)
  | .lookupswitch d ps => (match st with
    | .int x :: st => P (am_tg pc (Op.lookupswitch.offset ps.toList d x.toInt)) L st G nc ns
    | _ => False)
  | .getfield _ => (match st with
    | .ref o :: st => (match G[o]? with
      | some (.inr (.inr (.inr (ci, fs)))) => ci = a ∧ (match fs[b]? with
        | some v => P npc L (v :: st) G nc ns
        | none => False)
      | _ => False)
    | _ => False)
  | .putfield _ => (match st with
    | v :: .ref o :: st => (match G[o]? with
      | some (.inr (.inr (.inr (ci, fs)))) => ci = a ∧ b < fs.length ∧ (match t, v with
        | 0, .int x => P npc L st (G.set o (.inr (.inr (.inr (ci, fs.set b (.int x)))))) nc ns
        | 1, .int x => (x = 0 ∨ x = 1) ∧ P npc L st (G.set o (.inr (.inr (.inr (ci, fs.set b (.int x)))))) nc ns
        | 2, .ref x => P npc L st (G.set o (.inr (.inr (.inr (ci, fs.set b (.ref x)))))) nc ns
        | _, _ => False)
      | _ => False)
    | _ => False)
  | .iaload => (match st with
    | .int i :: .ref o :: st => (match scr with
      | some s => o = 2000000 ∧ vp_in i s.1 ∧ P npc L (.int (s.2 i.toNatClampNeg) :: st) G nc ns
      | none => (match G[o]? with
        | some (.inl (k, n, f)) => k = 0 ∧ vp_in i n ∧ P npc L (.int (f i.toNatClampNeg) :: st) G nc ns
        | _ => False))
    | _ => False)
  | .iastore => (match st with
    | .int x :: .int i :: .ref o :: st => (match G[o]? with
      | some (.inl (k, n, f)) => k = 0 ∧ vp_in i n ∧ P npc L st (G.set o (.inl (k, n, upd f i.toNatClampNeg x))) nc ns
      | _ => False)
    | _ => False)
  | .baload => (match st with
    | .int i :: .ref o :: st => (match G[o]? with
      | some (.inl (k, n, f)) => k = 2 ∧ vp_in i n ∧ P npc L (.int (f i.toNatClampNeg) :: st) G nc ns
      | _ => False)
    | _ => False)
  | .bastore => (match st with
    | .int x :: .int i :: .ref o :: st => (match G[o]? with
      | some (.inl (k, n, f)) => k = 2 ∧ (x = 0 ∨ x = 1) ∧ vp_in i n ∧ P npc L st (G.set o (.inl (k, n, upd f i.toNatClampNeg x))) nc ns
      | _ => False)
    | _ => False)
  | .laload => (match st with
    | .int i :: .ref o :: st => (match G[o]? with
      | some (.inr (.inl (n, f))) => vp_in i n ∧ P npc L (.long (f i.toNatClampNeg) :: st) G nc ns
      | _ => False)
    | _ => False)
  | .lastore => (match st with
    | .long x :: .int i :: .ref o :: st => (match G[o]? with
      | some (.inr (.inl (n, f))) => vp_in i n ∧ P npc L st (G.set o (.inr (.inl (n, vp_updL f i.toNatClampNeg x)))) nc ns
      | _ => False)
    | _ => False)
  | .aaload => (match st with
    | .int i :: .ref o :: st => (match G[o]? with
      | some (.inr (.inr (.inl (k, l)))) => 3 ≤ k ∧ k < 6 ∧ vp_in i l.length ∧ P npc L (va_rf (l.getD i.toNatClampNeg none) :: st) G nc ns
      | _ => False)
    | _ => False)
  | .aastore => (match st with
    | .ref v :: .int i :: .ref o :: st => (match G[o]?, G[v]? with
      | some (.inr (.inr (.inl (k, l)))), some (.inr (.inr (.inr (ci, _)))) => 3 ≤ k ∧ k < 6 ∧ ci = am_rc k ∧ vp_in i l.length ∧ P npc L st (G.set o (.inr (.inr (.inl (k, l.set i.toNatClampNeg (some v)))))) nc ns
      | _, _ => False)
    | _ => False)
  | .arraylength => (match st with
    | .ref o :: st => (match scr with
      | some s => o = 2000000 ∧ P npc L (.int (Int32.ofNat s.1) :: st) G nc ns
      | none => (match G[o]? with
        | some (.inl (k, n, _)) => k < 3 ∧ P npc L (.int (Int32.ofNat n) :: st) G nc ns
        | some (.inr (.inl (n, _))) => P npc L (.int (Int32.ofNat n) :: st) G nc ns
        | some (.inr (.inr (.inl (k, l)))) => 3 ≤ k ∧ k < 6 ∧ P npc L (.int (Int32.ofNat l.length) :: st) G nc ns
        | _ => False))
    | _ => False)
  | .new _ => (match t with
    | 0 => nc + 1 ≤ am_mc M ∧ ns + b ≤ am_ms M ∧ am_wf L st G = true ∧ P npc L (.ref G.length :: st) (G ++ [.inr (.inr (.inr (a, am_dfl a)))]) (nc + 1) (ns + b)
    | _ => X pc L G nc ns)
  | .newarray _ => (match st with
    | .int n :: st => ¬ n < 0 ∧ n.toNatClampNeg ≤ 60000000 ∧ nc + 1 ≤ am_mc M ∧ ns + n.toNatClampNeg ≤ am_ms M ∧ am_wf L st G = true ∧ P npc L (.ref G.length :: st) (G ++ [am_newa a n.toNatClampNeg]) (nc + 1) (ns + n.toNatClampNeg)
    | _ => False)
  | .anewarray _ => (match st with
    | .int n :: st => ¬ n < 0 ∧ n.toNatClampNeg ≤ 60000000 ∧ nc + 1 ≤ am_mc M ∧ ns + n.toNatClampNeg ≤ am_ms M ∧ am_wf L st G = true ∧ P npc L (.ref G.length :: st) (G ++ [.inr (.inr (.inl (a, List.replicate n.toNatClampNeg none)))]) (nc + 1) (ns + n.toNatClampNeg)
    | _ => False)
  | .ireturn => (match st with
    | [.int x] => (match am_mr M with
      | some .int => Q (some (.int x)) G
      | some .boolean => (x = 0 ∨ x = 1) ∧ Q (some (.int x)) G
      | _ => False)
    | _ => False)
  | .lreturn => (match st with
    | [.long x] => Q (some (.long x)) G
    | _ => False)
  | .return_ => (match st with
    | [] => Q none G
    | _ => False)
  | .invokestatic _ => (match t with
    | 1 => am_inv C P npc L st G nc ns a b
    | 2 => am_inv C P npc L st G nc ns a b
    | 6 => (match st with
      | .int y :: .int x :: st => (st.map fun v => v.category).sum ≤ 8 ∧ P npc L (.int (if x < y then y else x) :: st) G nc ns
      | _ => False)
    | 7 => (match st with
      | .int y :: .int x :: st => (st.map fun v => v.category).sum ≤ 8 ∧ P npc L (.int (if y < x then y else x) :: st) G nc ns
      | _ => False)
    | 8 => (match st with
      | .int x :: st => (st.map fun v => v.category).sum ≤ 8 ∧ P npc L (.int (if 0 ≤ x then x else 0 - x) :: st) G nc ns
      | _ => False)
    | 9 => (match st with
      | .long y :: .long x :: st => (st.map fun v => v.category).sum ≤ 8 ∧ P npc L (.long (if y < x then x else y) :: st) G nc ns
      | _ => False)
    | 10 => (match st with
      | .long x :: st => (st.map fun v => v.category).sum ≤ 8 ∧ P npc L (.long (if 0 < x then x else -x) :: st) G nc ns
      | _ => False)
    | 11 => (match st with
      | .int n :: .int dp :: .ref o1 :: .int sp :: .ref o0 :: st => am_cpy P npc L G nc ns n dp o1 sp o0 st
      | _ => False)
    | _ => False)
  | .invokespecial _ => (match t with
    | 3 => am_rcR st b ∧ am_invA C P (am_mc M) (am_ms M) npc L st G nc ns a b (u / 1000000) (u % 1000000)
    | 4 => am_rcR st b ∧ am_invA C P (am_mc M) (am_ms M) npc L st G nc ns a b (u / 1000000) (u % 1000000)
    | 5 => (match st with
      | .ref _ :: st => (st.map fun v => v.category).sum ≤ 8 ∧ P npc L st G nc ns
      | _ => False)
    | _ => False)
  | .invokevirtual _ => (match t with
    | 0 => am_rcv st G b u ∧ am_inv C P npc L st G nc ns a b
    | 13 => (match st with
      | .ref o :: st => 1000000 ≤ o ∧ o < 1000012 ∧ (st.map fun v => v.category).sum ≤ 8 ∧ P npc L (.int (nI (am_str (o - 1000000)).length) :: st) G nc ns
      | _ => False)
    | 14 => (match st with
      | .int i :: .ref o :: st => 1000000 ≤ o ∧ o < 1000012 ∧ vp_in i (am_str (o - 1000000)).length ∧ (st.map fun v => v.category).sum ≤ 8 ∧ P npc L (.int (nI ((am_str (o - 1000000)).getD i.toNatClampNeg 0)) :: st) G nc ns
      | _ => False)
    | 16 => (match st with
      | .int x :: .ref o :: st => 1000000 ≤ o ∧ o < 1000012 ∧ 0 ≤ x ∧ x < 65536 ∧ (st.map fun v => v.category).sum ≤ 8 ∧ P npc L (.int (am_ixo (am_str (o - 1000000)) x 0) :: st) G nc ns
      | _ => False)
    | _ => False)
  | _ => False
def am_step (C : am_C) (M : am_M) (scr : Option (Nat × (Nat → Int32))) (Q : Option Value → am_G → Prop) (X : Nat → am_L → am_G → Nat → Nat → Prop) (P : am_P) : am_P := fun pc L st G nc ns =>
  match am_lk (am_mt M) pc with
  | none => False
  | some (_, i, npc, a, b, t, u, _, cv, cl) => am_ins C M scr Q X P pc i npc a b t u cv cl L st G nc ns
/-- it comes to its end: the least of all that hold where a step makes them hold -/
def am_Ex (C : am_C) (M : am_M) (scr : Option (Nat × (Nat → Int32))) (Q : Option Value → am_G → Prop) (X : Nat → am_L → am_G → Nat → Nat → Prop) : am_P := fun pc L st G nc ns =>
  ∀ P : am_P, (∀ P0 : am_P, (∀ pc L st G nc ns, P0 pc L st G nc ns → P pc L st G nc ns) → ∀ pc L st G nc ns, am_step C M scr Q X P0 pc L st G nc ns → P pc L st G nc ns) → P pc L st G nc ns
theorem am_Ex_in {C : am_C} {M : am_M} {scr : Option (Nat × (Nat → Int32))} {Q : Option Value → am_G → Prop} {X : Nat → am_L → am_G → Nat → Nat → Prop} {pc : Nat} {L : am_L} {st : List Value} {G : am_G} {nc ns : Nat} (h : am_step C M scr Q X (am_Ex C M scr Q X) pc L st G nc ns) : am_Ex C M scr Q X pc L st G nc ns := fun P hP => hP (am_Ex C M scr Q X) (fun _ _ _ _ _ _ h => h P hP) _ _ _ _ _ _ h
end
section
/-! THE PICTURE: how a list of cells lies in the heap, at addresses ad, and what a step's table must have for its words. -/
def am_cv (ad : Nat → Nat) (v : Value) : Value := match v with
  | .ref k => .ref (ad k)
  | w => w
def am_ce (dA : Nat → ClassId) (ad : Nat → Nat) (e : am_E) : va_E := match e with
  | .inl (t, n, f) => .inl (dA t, n, .inl f)
  | .inr (.inl (n, f)) => .inl (dA 1, n, .inr (.inl f))
  | .inr (.inr (.inl (t, l))) => .inl (dA t, l.length, .inr (.inr (.inr (.inr (fun j => (l.getD j none).map ad)))))
  | .inr (.inr (.inr (ci, fs))) => .inr (ci, fs.map (am_cv ad))
def am_cw (dA : Nat → ClassId) (ad : Nat → Nat) (G : am_G) : va_W := G.mapIdx (fun k e => (ad k, am_ce dA ad e))
theorem am_cw_get {dA : Nat → ClassId} {ad : Nat → Nat} {G : am_G} {q : Nat} {e : am_E} (h : G[q]? = some e) : (am_cw dA ad G)[q]? = some (ad q, am_ce dA ad e) := by
  simp [am_cw, List.getElem?_mapIdx, h]
theorem am_cw_set {dA : Nat → ClassId} {ad : Nat → Nat} {G : am_G} {q : Nat} {e : am_E} : (am_cw dA ad G).set q (ad q, am_ce dA ad e) = am_cw dA ad (G.set q e) := by
  apply List.ext_getElem?
  intro i
  simp only [am_cw, List.getElem?_mapIdx, List.getElem?_set, List.length_mapIdx]
  by_cases h : q = i
  · subst h
    by_cases h2 : q < G.length <;> simp [h2]
  · simp [h]
theorem am_cw_push {dA : Nat → ClassId} {ad : Nat → Nat} {G : am_G} {e : am_E} : am_cw dA ad (G ++ [e]) = am_cw dA ad G ++ [(ad G.length, am_ce dA ad e)] := by
  simp [am_cw, List.mapIdx_append]
theorem am_cv_ad {n : Nat} {ad ad1 : Nat → Nat} (h : ∀ k : Nat, k < n ∨ 1000000 ≤ k → ad1 k = ad k) {v : Value} (hv : am_wfv n v = true) : am_cv ad1 v = am_cv ad v := by
  cases v with
  | ref k =>
    simp only [am_wfv, Bool.or_eq_true, decide_eq_true_eq] at hv
    simp only [am_cv, h k hv]
  | _ => rfl
theorem am_ce_ad {n : Nat} {dA : Nat → ClassId} {ad ad1 : Nat → Nat} (h : ∀ k : Nat, k < n ∨ 1000000 ≤ k → ad1 k = ad k) {e : am_E} (he : am_wfE n e = true) : am_ce dA ad1 e = am_ce dA ad e := by
  match e, he with
  | .inl (t, n, f), _ => rfl
  | .inr (.inl (n, f)), _ => rfl
  | .inr (.inr (.inl (t, l))), he =>
    have hz : ∀ j : Nat, (l.getD j none).map ad1 = (l.getD j none).map ad := by
      intro j
      rw [List.getD_eq_getElem?_getD]
      cases hj : l[j]? with
      | none => rfl
      | some o =>
        cases o with
        | none => rfl
        | some k =>
          have h2 := List.all_eq_true.mp he (some k) (List.mem_of_getElem? hj)
          simp only [Bool.or_eq_true, decide_eq_true_eq] at h2
          simp [h k h2]
    simp only [am_ce]
    congr 7
    funext j
    exact hz j
  | .inr (.inr (.inr (ci, fs))), he =>
    simp only [am_ce]
    congr 2
    exact List.map_congr_left fun v hv => am_cv_ad h (List.all_eq_true.mp he v hv)
theorem am_cw_ad {dA : Nat → ClassId} {ad ad1 : Nat → Nat} {G : am_G} {n : Nat} (h : ∀ k : Nat, k < n ∨ 1000000 ≤ k → ad1 k = ad k) (hn : G.length ≤ n) (hG : G.all (am_wfE n) = true) : am_cw dA ad1 G = am_cw dA ad G := by
  apply List.ext_getElem?
  intro i
  simp only [am_cw, List.getElem?_mapIdx]
  cases hi : G[i]? with
  | none => rfl
  | some e =>
    have h1 : i < G.length := (List.getElem?_eq_some_iff.mp hi).1
    simp only [Option.map_some, h i (Or.inl (Nat.lt_of_lt_of_le h1 hn)), am_ce_ad h (List.all_eq_true.mp hG e (List.mem_of_getElem? hi))]
/-- the locals -/
def am_lv (L : am_L) (ad : Nat → Nat) : List (Nat × Value) := (L.mapIdx (fun i o => o.map (fun v => (i, am_cv ad v)))).filterMap id
theorem am_lv_mem {L : am_L} {ad : Nat → Nat} {q : Nat × Value} : q ∈ am_lv L ad ↔ ∃ v, L[q.1]? = some (some v) ∧ q.2 = am_cv ad v := by
  simp only [am_lv, List.mem_filterMap, id]
  constructor
  · rintro ⟨o, ho, rfl⟩
    obtain ⟨i, hi⟩ := List.getElem?_of_mem ho
    rw [List.getElem?_mapIdx] at hi
    cases hL : L[i]? with
    | none => rw [hL] at hi; cases hi
    | some o =>
      rw [hL] at hi
      cases o with
      | none => cases hi
      | some v =>
        cases hi
        exact ⟨v, hL, rfl⟩
  · rintro ⟨v, h1, h2⟩
    refine ⟨some q, ?_, rfl⟩
    apply List.mem_of_getElem? (i := q.1)
    rw [List.getElem?_mapIdx, h1]
    simp only [Option.map_some, ← h2]
def am_LH (ls : Array Slot) (nL : Nat) (L : am_L) (ad : Nat → Nat) : Prop := L.length = nL ∧ lv_has ls nL (am_lv L ad)
theorem am_LH_at {ls : Array Slot} {nL : Nat} {L : am_L} {ad : Nat → Nat} (h : am_LH ls nL L ad) {i : Nat} {v : Value} (hi : L[i]? = some (some v)) : ls[i]? = some (.val (am_cv ad v)) := h.2.2.2 (i, am_cv ad v) (am_lv_mem.mpr ⟨v, hi, rfl⟩)
theorem am_LH_sub {ls : Array Slot} {nL : Nat} {l l2 : List (Nat × Value)} (h : lv_has ls nL l) (hs : ∀ q ∈ l2, q ∈ l) : lv_has ls nL l2 := ⟨h.1, h.2.1, fun q hq => h.2.2 q (hs q hq)⟩
theorem am_cat (ad : Nat → Nat) (v : Value) : (am_cv ad v).category = v.category := by cases v <;> rfl
theorem am_clr_len (L : am_L) (i : Nat) : (am_clr L i).length = L.length := by
  unfold am_clr
  split
  · rfl
  · split <;> simp
theorem am_clr_get {L : am_L} {i k : Nat} {v : Value} (h : (am_clr L i)[k]? = some (some v)) : L[k]? = some (some v) ∧ ¬ (k + 1 = i ∧ ∃ x, v = .long x) := by
  unfold am_clr at h
  split at h
  · exact ⟨h, fun z => by omega⟩
  · rename_i j
    split at h
    · rename_i x hx
      rw [List.getElem?_set] at h
      split at h
      · split at h <;> cases h
      · rename_i hn
        exact ⟨h, fun z => hn (by omega)⟩
    · rename_i hx
      refine ⟨h, fun z => ?_⟩
      obtain ⟨z1, x, rfl⟩ := z
      have : k = j := by omega
      subst this
      exact hx x h
def am_nod (L : am_L) : Prop := ∀ (i : Nat) (v : Value), L[i]? = some (some v) → v.category = 2 → ∃ x, v = .long x
theorem am_st1_LH {ls : Array Slot} {nL i : Nat} {L : am_L} {ad : Nat → Nat} {v : Value} (hd : am_nod L) (hL : L.length = nL) (h : lv_has ls nL ((i, am_cv ad v) :: (am_lv L ad).filter (fun q => !(q.1 == i) && !(q.1 + 1 == i && q.2.category == 2)))) : am_LH ls nL (am_st1 L i v) ad := by
  refine ⟨by simp [am_st1, am_clr_len, hL], am_LH_sub h fun q hq => ?_⟩
  obtain ⟨w, h1, h2⟩ := am_lv_mem.mp hq
  unfold am_st1 at h1
  rw [List.getElem?_set] at h1
  split at h1
  · rename_i he
    split at h1
    · cases h1
      exact List.mem_cons.mpr (Or.inl (Prod.ext he.symm h2))
    · cases h1
  · rename_i hne
    obtain ⟨a1, a2⟩ := am_clr_get h1
    refine List.mem_cons.mpr (Or.inr (List.mem_filter.mpr ⟨am_lv_mem.mpr ⟨w, a1, h2⟩, ?_⟩))
    have n1 : ¬ q.1 = i := fun z => hne z.symm
    by_cases b : q.1 + 1 = i
    · have n2 : ¬ q.2.category = 2 := by
        rw [h2, am_cat]
        intro z
        exact a2 ⟨b, hd _ _ a1 z⟩
      simp [n1, n2]
    · simp [n1, b]
theorem am_st2_LH {ls : Array Slot} {nL i : Nat} {L : am_L} {ad : Nat → Nat} {v : Value} (hd : am_nod L) (hL : L.length = nL) (h : lv_has ls nL ((i, am_cv ad v) :: (am_lv L ad).filter (fun q => !(q.1 == i) && (!(q.1 == i + 1) && !(q.1 + 1 == i && q.2.category == 2))))) : am_LH ls nL (am_st2 L i v) ad := by
  refine ⟨by simp [am_st2, am_clr_len, hL], am_LH_sub h fun q hq => ?_⟩
  obtain ⟨w, h1, h2⟩ := am_lv_mem.mp hq
  unfold am_st2 at h1
  rw [List.getElem?_set] at h1
  split at h1
  · split at h1 <;> cases h1
  · rename_i hne2
    rw [List.getElem?_set] at h1
    split at h1
    · rename_i he
      split at h1
      · cases h1
        exact List.mem_cons.mpr (Or.inl (Prod.ext he.symm h2))
      · cases h1
    · rename_i hne
      obtain ⟨a1, a2⟩ := am_clr_get h1
      refine List.mem_cons.mpr (Or.inr (List.mem_filter.mpr ⟨am_lv_mem.mpr ⟨w, a1, h2⟩, ?_⟩))
      have n1 : ¬ q.1 = i := fun z => hne z.symm
      have n3 : ¬ q.1 = i + 1 := fun z => hne2 z.symm
      by_cases b : q.1 + 1 = i
      · have n2 : ¬ q.2.category = 2 := by
          rw [h2, am_cat]
          intro z
          exact a2 ⟨b, hd _ _ a1 z⟩
        simp [n1, n2, n3]
      · simp [n1, n3, b]
theorem am_nod_clr {L : am_L} {i : Nat} (h : am_nod L) : am_nod (am_clr L i) := fun k v hk hc => h k v (am_clr_get hk).1 hc
theorem am_nod_set {L : am_L} {i : Nat} {o : Option Value} (h : am_nod L) (ho : ∀ v, o = some v → v.category = 2 → ∃ x, v = .long x) : am_nod (L.set i o) := by
  intro k v hk hc
  rw [List.getElem?_set] at hk
  split at hk
  · split at hk
    · exact ho v (Option.some.inj hk) hc
    · cases hk
  · exact h k v hk hc
theorem am_nod_st1 {L : am_L} {i : Nat} {v : Value} (h : am_nod L) (hv : v.category = 1) : am_nod (am_st1 L i v) := am_nod_set (am_nod_clr h) (fun w hw hc => by cases hw; omega)
theorem am_nod_st2 {L : am_L} {i : Nat} {x : Int64} (h : am_nod L) : am_nod (am_st2 L i (.long x)) := am_nod_set (am_nod_set (am_nod_clr h) (fun w hw _ => ⟨x, (Option.some.inj hw).symm⟩)) (fun w hw _ => by cases hw)
end
section
/-! WHAT A TABLE MUST HAVE: each instruction as it decodes, its word among the tables' words at its place. -/
def am_at (pos : Nat) (w : Jvm.Cond) : Bool := decide (lw_tbl[pos]? = some w)
def am_U : List Jvm.Cond := lw_tbl.filter goodWord
theorem am_at_U {pos : Nat} {w : Jvm.Cond} (h : am_at pos w = true) (hg : goodWord w = true) : w ∈ am_U := List.mem_filter.mpr ⟨List.mem_of_getElem? (of_decide_eq_true h), hg⟩
def am_len (i : Instr) (d : Nat) : Nat := match i with
  | .bipush _ => 2
  | .sipush _ => 3
  | .ldc _ => 2
  | .ldc_w _ => 3
  | .ldc2_w _ => 3
  | .iload _ => 2
  | .lload _ => 2
  | .aload _ => 2
  | .istore _ => 2
  | .lstore _ => 2
  | .astore _ => 2
  | .iinc _ _ => 3
  | .ifCond _ _ => 3
  | .if_icmp _ _ => 3
  | .ifnull _ => 3
  | .ifnonnull _ => 3
  | .goto _ => 3
  | .tableswitch _ _ _ _ => d
  | .lookupswitch _ _ => d
  | .getfield _ => 3
  | .putfield _ => 3
  | .new _ => 3
  | .newarray _ => 2
  | .anewarray _ => 3
  | .invokestatic _ => 3
  | .invokespecial _ => 3
  | .invokevirtual _ => 3
  | _ => 1
/-- where the constant texts stand: the class and the entry -/
def am_sk (j : Nat) : Option (String × Nat) := match j with
  | 0 => some (RX10, 141)
  | 1 => some (RX10, 281)
  | 2 => some (RX11, 155)
  | 3 => some (RX11, 163)
  | 4 => some (RX11, 165)
  | 5 => some (RX11, 173)
  | 6 => some (RX11, 175)
  | 7 => some (RX11, 177)
  | 8 => some (RX11, 179)
  | 9 => some (RX11, 181)
  | 10 => some (RX11, 185)
  | 11 => some (RX11, 191)
  | _ => none
/-- the words of nest mates -/
def am_nest : List Jvm.Cond := lw_tbl.filter (fun w => match w with
  | .methodLinkNest _ _ _ _ => true
  | _ => false)
def am_fld (own : String) (idx a b pos : Nat) : Bool := match vwCl[a]? with
  | some (C, T, N) => decide (b < N) && decide ((T b).1 = C) && am_at pos (.fieldLink own idx C (T b).2.1 (T b).2.2.1)
  | none => false
def am_pfl (own : String) (ini : Bool) (a b t : Nat) : Bool := match vwCl[a]? with
  | some (_, T, _) => ((T b).2.2.2 == false || (ini && decide ((T b).1 = own))) && (match parseFieldDescriptor (T b).2.2.1 with
    | some .int => t == 0
    | some .boolean => t == 1
    | some (.object _) => t == 2
    | some (.array _) => t == 2
    | _ => false)
  | none => false
def am_aty (a : Nat) : ArrayType := match a with
  | 0 => .int
  | 1 => .long
  | _ => .boolean
/-- a callee: k 0 static, 1 of an object, 2 a maker -/
def am_okM (M : am_M) : Bool := match am_mw M with
  | [p0, p1, p2, p3, k] => am_at p0 (.code (am_my M) (am_mb M) (am_mL M) (am_mr M)) && am_at p3 (.initialized (am_my M).cls) && plainName (am_my M).cls && decide ((am_my M).cls ≠ "java/lang/invoke/MethodHandle") && decide ((am_my M).cls ≠ "java/lang/invoke/VarHandle") && decide (am_mL M ≤ 40) && (match k with
    | 0 => am_at p1 (.static (am_my M)) && decide ((parseMethodDescriptor (am_my M).desc).map (fun d => d.parameters.length) = some (am_mp M)) && decide ((am_my M).name ≠ "<init>")
    | 1 => am_at p1 (.instanceMethod (am_my M)) && am_at p2 (.selects (am_my M).cls (am_my M) (am_my M)) && decide ((parseMethodDescriptor (am_my M).desc).map (fun d => d.parameters.length) = some (am_mp M - 1)) && decide (1 ≤ am_mp M) && decide ((vwCl[am_mk M]?).map (fun q => q.1) = some (am_my M).cls)
    | 2 => am_at p1 (.instanceMethod (am_my M)) && decide ((parseMethodDescriptor (am_my M).desc).map (fun d => d.parameters.length) = some (am_mp M - 1)) && decide (1 ≤ am_mp M) && decide ((am_my M).name = "<init>") && decide (am_mr M = none)
    | _ => false)
  | _ => false
def am_kd (M : am_M) : Nat := match am_mw M with
  | [_, _, _, _, k] => k
  | _ => 9
/-- the link of a call -/
def am_lnk (MT : Nat → Option am_M) (own : String) (idx a b t u pos : Nat) : Bool := match MT a with
  | some M2 => decide (b = am_mp M2) && (match t with
    | 0 => decide (am_kd M2 = 1) && decide (u = am_mk M2) && am_at pos (.methodLink own idx (am_my M2)) && decide (am_mc M2 = 0) && decide (am_ms M2 = 0)
    | 1 => decide (am_kd M2 = 0) && am_at pos (.methodLink own idx (am_my M2)) && decide (am_mc M2 = 0) && decide (am_ms M2 = 0)
    | 2 => decide (am_kd M2 = 0) && am_at pos (.methodLinkNest own idx (am_my M2) RX10) && decide (am_mc M2 = 0) && decide (am_ms M2 = 0)
    | 3 => decide (am_kd M2 = 2) && am_at pos (.methodLink own idx (am_my M2)) && decide (am_mc M2 = u / 1000000) && decide (am_ms M2 = u % 1000000)
    | 4 => decide (am_kd M2 = 2) && am_at pos (.methodLinkNest own idx (am_my M2) RX10) && decide (am_mc M2 = u / 1000000) && decide (am_ms M2 = u % 1000000)
    | _ => false)
  | none => false
def am_okX (MT : Nat → Option am_M) (M : am_M) (pc : Nat) (i : Instr) (a b t u pos : Nat) (cv : Int32) (cl : Int64) : Bool :=
  match i with
  | .iconst n => decide (Int32.ofInt n = cv)
  | .bipush n => decide ((Int8.ofInt n).toInt32 = cv)
  | .sipush n => decide ((Int16.ofInt n).toInt32 = cv)
  | .ldc idx => (match t with
    | 0 => am_at pos (.constant (am_my M).cls idx cv)
    | _ => decide (1000000 ≤ b) && decide (am_sk (b - 1000000) = some ((am_my M).cls, idx)))
  | .ldc_w idx => (match t with
    | 0 => am_at pos (.constant (am_my M).cls idx cv)
    | _ => decide (1000000 ≤ b) && decide (am_sk (b - 1000000) = some ((am_my M).cls, idx)))
  | .lconst n => decide (Int64.ofNat (n : Nat) = cl)
  | .ldc2_w idx => am_at pos (.constantLong (am_my M).cls idx cl)
  | .iload_n k => decide ((k : Nat) = a)
  | .iload k => decide (k = a)
  | .lload_n k => decide ((k : Nat) = a)
  | .lload k => decide (k = a)
  | .aload_n k => decide ((k : Nat) = a)
  | .aload k => decide (k = a)
  | .istore_n k => decide ((k : Nat) = a) && decide (a < am_mL M)
  | .istore k => decide (k = a) && decide (a < am_mL M)
  | .astore_n k => decide ((k : Nat) = a) && decide (a < am_mL M)
  | .astore k => decide (k = a) && decide (a < am_mL M)
  | .lstore_n k => decide ((k : Nat) = a) && decide (a + 1 < am_mL M)
  | .lstore k => decide (k = a) && decide (a + 1 < am_mL M)
  | .iinc k n => decide (k = a) && decide (Int32.ofInt n = cv) && decide (a < am_mL M)
  | .ifCond _ off => decide ((pc : Int) + off = (a : Int))
  | .if_icmp _ off => decide ((pc : Int) + off = (a : Int))
  | .ifnull off => decide ((pc : Int) + off = (a : Int))
  | .ifnonnull off => decide ((pc : Int) + off = (a : Int))
  | .goto off => decide ((pc : Int) + off = (a : Int))
  | .tableswitch d lo hi offs => decide (0 ≤ (pc : Int) + d) && offs.toList.all (fun o => decide (0 ≤ (pc : Int) + o)) && decide ((offs.size : Int) = hi - lo + 1)
  | .lookupswitch d ps => (ps.toList.zip (ps.toList.drop 1)).all (fun (a, next) => a.1 < next.1) && decide (0 ≤ (pc : Int) + d) && ps.toList.all (fun o => decide (0 ≤ (pc : Int) + o.2))
  | .getfield idx => am_fld (am_my M).cls idx a b pos
  | .putfield idx => am_fld (am_my M).cls idx a b pos && am_pfl (am_my M).cls (decide ((am_my M).name = "<init>")) a b t
  | .new idx => (match t with
    | 0 => (match vwCl[a]? with
      | some (C, _, N) => decide (b = N) && am_at pos (.classLink (am_my M).cls idx C) && am_at u (.instantiable C N)
      | none => false)
    | _ => true)
  | .newarray ty => decide (a < 3) && decide (ty = am_aty a) && am_at pos (.arrayClass (newarray.typeOf ty))
  | .anewarray idx => decide (3 ≤ a) && decide (a < 6) && (match vwCl[am_rc a]? with
    | some (C, _, _) => am_at pos (.classLink (am_my M).cls idx C)
    | none => false)
  | .ireturn => decide (am_mr M = some .int) || decide (am_mr M = some .boolean)
  | .lreturn => decide (am_mr M = some .long)
  | .return_ => decide (am_mr M = none)
  | .invokestatic idx => (match t with
    | 6 => am_at pos (.methodLink (am_my M).cls idx Lib.Math.max.name)
    | 7 => am_at pos (.methodLink (am_my M).cls idx Lib.Math.min.name)
    | 8 => am_at pos (.methodLink (am_my M).cls idx Lib.Math.abs.name)
    | 9 => am_at pos (.methodLink (am_my M).cls idx Lib.MathLoose.max_long.x)
    | 10 => am_at pos (.methodLink (am_my M).cls idx Lib.MathLoose.abs_long.x)
    | 11 => am_at pos (.methodLink (am_my M).cls idx arraycopyName)
    | _ => am_lnk MT (am_my M).cls idx a b t u pos)
  | .invokespecial idx => (match t with
    | 5 => am_at pos (.methodLink (am_my M).cls idx Lib.objectInit)
    | _ => am_lnk MT (am_my M).cls idx a b t u pos)
  | .invokevirtual idx => (match t with
    | 13 => am_at pos (.methodLink (am_my M).cls idx ⟨RJ0, "length", "()I"⟩)
    | 14 => am_at pos (.methodLink (am_my M).cls idx ⟨RJ0, "charAt", "(I)C"⟩)
    | 16 => am_at pos (.methodLink (am_my M).cls idx ⟨RJ0, "indexOf", "(I)I"⟩)
    | _ => am_lnk MT (am_my M).cls idx a b t u pos)
  | _ => true
def am_okI (MT : Nat → Option am_M) (M : am_M) (e : am_I) : Bool := match e with
  | (pc, i, npc, a, b, t, u, pos, cv, cl) => decide (decode (am_mb M) pc = .ok (i, am_len i (npc - pc))) && decide (npc = pc + am_len i (npc - pc)) && am_okX MT M pc i a b t u pos cv cl
def am_okT (MT : Nat → Option am_M) (M : am_M) : Bool := (am_mt M).all (fun q => q.2.all (am_okI MT M))
theorem am_lk1_mem : ∀ {l : List am_I} {n : Nat} {e : am_I}, am_lk1 l n = some e → e ∈ l ∧ e.1 = n
  | [], _, _, h => by cases h
  | x :: t, n, e, h => by
    unfold am_lk1 at h
    cases hb : Nat.beq x.1 n with
    | true =>
      rw [hb] at h
      cases h
      exact ⟨List.mem_cons_self, Nat.eq_of_beq_eq_true hb⟩
    | false =>
      rw [hb] at h
      obtain ⟨h1, h2⟩ := am_lk1_mem h
      exact ⟨List.mem_cons_of_mem _ h1, h2⟩
theorem am_lk_mem : ∀ {l : List (Nat × List am_I)} {n : Nat} {e : am_I}, am_lk l n = some e → ∃ q ∈ l, e ∈ q.2 ∧ e.1 = n
  | [], _, _, h => by cases h
  | x :: t, n, e, h => by
    unfold am_lk at h
    cases hb : Nat.blt n x.1 with
    | true =>
      rw [hb] at h
      obtain ⟨h1, h2⟩ := am_lk1_mem h
      exact ⟨x, List.mem_cons_self, h1, h2⟩
    | false =>
      rw [hb] at h
      obtain ⟨q, h1, h2⟩ := am_lk_mem h
      exact ⟨q, List.mem_cons_of_mem _ h1, h2⟩
theorem am_lk_ok {MT : Nat → Option am_M} {M : am_M} (hT : am_okT MT M = true) {pc : Nat} {e : am_I} (h : am_lk (am_mt M) pc = some e) : am_okI MT M e = true ∧ e.1 = pc := by
  obtain ⟨q, h1, h2, h3⟩ := am_lk_mem h
  exact ⟨List.all_eq_true.mp (List.all_eq_true.mp hT q h1) e h2, h3⟩
end
section
/-! the classes: their fields' words, types and names -/
theorem am_cl0 : ∀ w ∈ u_ws RX0 TX0 9, w ∈ am_U := by
  have h : u_ws RX0 TX0 9 = ([230, 232, 234, 236, 238, 240, 242, 244, 246] : List Nat).filterMap (fun i => lw_tbl[i]?) := by decide +kernel
  have h2 : (u_ws RX0 TX0 9).all goodWord = true := by decide +kernel
  intro w hw
  have hg := List.all_eq_true.mp h2 w hw
  rw [h] at hw
  obtain ⟨j, -, hj⟩ := List.mem_filterMap.mp hw
  exact List.mem_filter.mpr ⟨List.mem_of_getElem? hj, hg⟩
theorem am_cl1 : ∀ w ∈ u_ws RX1 TX1 3, w ∈ am_U := by
  have h : u_ws RX1 TX1 3 = ([161, 163, 165] : List Nat).filterMap (fun i => lw_tbl[i]?) := by decide +kernel
  have h2 : (u_ws RX1 TX1 3).all goodWord = true := by decide +kernel
  intro w hw
  have hg := List.all_eq_true.mp h2 w hw
  rw [h] at hw
  obtain ⟨j, -, hj⟩ := List.mem_filterMap.mp hw
  exact List.mem_filter.mpr ⟨List.mem_of_getElem? hj, hg⟩
theorem am_cl2 : ∀ w ∈ u_ws RX2 TX2 5, w ∈ am_U := by
  have h : u_ws RX2 TX2 5 = ([337, 339, 341, 343, 345] : List Nat).filterMap (fun i => lw_tbl[i]?) := by decide +kernel
  have h2 : (u_ws RX2 TX2 5).all goodWord = true := by decide +kernel
  intro w hw
  have hg := List.all_eq_true.mp h2 w hw
  rw [h] at hw
  obtain ⟨j, -, hj⟩ := List.mem_filterMap.mp hw
  exact List.mem_filter.mpr ⟨List.mem_of_getElem? hj, hg⟩
theorem am_cl3 : ∀ w ∈ u_ws RX3 TX3 8, w ∈ am_U := by
  have h : u_ws RX3 TX3 8 = ([383, 385, 387, 389, 391, 393, 395, 397] : List Nat).filterMap (fun i => lw_tbl[i]?) := by decide +kernel
  have h2 : (u_ws RX3 TX3 8).all goodWord = true := by decide +kernel
  intro w hw
  have hg := List.all_eq_true.mp h2 w hw
  rw [h] at hw
  obtain ⟨j, -, hj⟩ := List.mem_filterMap.mp hw
  exact List.mem_filter.mpr ⟨List.mem_of_getElem? hj, hg⟩
theorem am_cl4 : ∀ w ∈ u_ws RX4 TX4 6, w ∈ am_U := by
  have h : u_ws RX4 TX4 6 = ([137, 139, 141, 143, 145, 147] : List Nat).filterMap (fun i => lw_tbl[i]?) := by decide +kernel
  have h2 : (u_ws RX4 TX4 6).all goodWord = true := by decide +kernel
  intro w hw
  have hg := List.all_eq_true.mp h2 w hw
  rw [h] at hw
  obtain ⟨j, -, hj⟩ := List.mem_filterMap.mp hw
  exact List.mem_filter.mpr ⟨List.mem_of_getElem? hj, hg⟩
theorem am_cl5 : ∀ w ∈ u_ws RX5 TX5 10, w ∈ am_U := by
  have h : u_ws RX5 TX5 10 = ([269, 271, 273, 275, 277, 279, 281, 283, 285, 287] : List Nat).filterMap (fun i => lw_tbl[i]?) := by decide +kernel
  have h2 : (u_ws RX5 TX5 10).all goodWord = true := by decide +kernel
  intro w hw
  have hg := List.all_eq_true.mp h2 w hw
  rw [h] at hw
  obtain ⟨j, -, hj⟩ := List.mem_filterMap.mp hw
  exact List.mem_filter.mpr ⟨List.mem_of_getElem? hj, hg⟩
theorem am_cl6 : ∀ w ∈ u_ws RX6 TX6 2, w ∈ am_U := by
  have h : u_ws RX6 TX6 2 = ([356, 358] : List Nat).filterMap (fun i => lw_tbl[i]?) := by decide +kernel
  have h2 : (u_ws RX6 TX6 2).all goodWord = true := by decide +kernel
  intro w hw
  have hg := List.all_eq_true.mp h2 w hw
  rw [h] at hw
  obtain ⟨j, -, hj⟩ := List.mem_filterMap.mp hw
  exact List.mem_filter.mpr ⟨List.mem_of_getElem? hj, hg⟩
theorem am_cl7 : ∀ w ∈ u_ws RX7 TX7 2, w ∈ am_U := by
  have h : u_ws RX7 TX7 2 = ([301, 303] : List Nat).filterMap (fun i => lw_tbl[i]?) := by decide +kernel
  have h2 : (u_ws RX7 TX7 2).all goodWord = true := by decide +kernel
  intro w hw
  have hg := List.all_eq_true.mp h2 w hw
  rw [h] at hw
  obtain ⟨j, -, hj⟩ := List.mem_filterMap.mp hw
  exact List.mem_filter.mpr ⟨List.mem_of_getElem? hj, hg⟩
theorem am_cl8 : ∀ w ∈ u_ws RX8 TX8 3, w ∈ am_U := by
  have h : u_ws RX8 TX8 3 = ([318, 320, 322] : List Nat).filterMap (fun i => lw_tbl[i]?) := by decide +kernel
  have h2 : (u_ws RX8 TX8 3).all goodWord = true := by decide +kernel
  intro w hw
  have hg := List.all_eq_true.mp h2 w hw
  rw [h] at hw
  obtain ⟨j, -, hj⟩ := List.mem_filterMap.mp hw
  exact List.mem_filter.mpr ⟨List.mem_of_getElem? hj, hg⟩
theorem am_cl9 : ∀ w ∈ u_ws RX9 TX9 8, w ∈ am_U := by
  have h : u_ws RX9 TX9 8 = ([187, 189, 191, 193, 195, 197, 199, 201] : List Nat).filterMap (fun i => lw_tbl[i]?) := by decide +kernel
  have h2 : (u_ws RX9 TX9 8).all goodWord = true := by decide +kernel
  intro w hw
  have hg := List.all_eq_true.mp h2 w hw
  rw [h] at hw
  obtain ⟨j, -, hj⟩ := List.mem_filterMap.mp hw
  exact List.mem_filter.mpr ⟨List.mem_of_getElem? hj, hg⟩
theorem am_cl10 : ∀ w ∈ u_ws RX10 TX10 10, w ∈ am_U := by
  have h : u_ws RX10 TX10 10 = ([410, 412, 414, 416, 418, 420, 422, 424, 426, 428] : List Nat).filterMap (fun i => lw_tbl[i]?) := by decide +kernel
  have h2 : (u_ws RX10 TX10 10).all goodWord = true := by decide +kernel
  intro w hw
  have hg := List.all_eq_true.mp h2 w hw
  rw [h] at hw
  obtain ⟨j, -, hj⟩ := List.mem_filterMap.mp hw
  exact List.mem_filter.mpr ⟨List.mem_of_getElem? hj, hg⟩
theorem am_cl11 : ∀ w ∈ u_ws RX11 TX11 54, w ∈ am_U := by
  have h : u_ws RX11 TX11 54 = ([1715, 1717, 1719, 1721, 1723, 1725, 1727, 1729, 1731, 1733, 1735, 1737, 1739, 1741, 1743, 1745, 1747, 1749, 1751, 1753, 1755, 1757, 1759, 1761, 1763, 1765, 1767, 1769, 1771, 1773, 1775, 1777, 1779, 1781, 1783, 1785, 1787, 1789, 1791, 1793, 1795, 1797, 1799, 1801, 1803, 1805, 1807, 1809, 1811, 1813, 1815, 1817, 1819, 1821] : List Nat).filterMap (fun i => lw_tbl[i]?) := by decide +kernel
  have h2 : (u_ws RX11 TX11 54).all goodWord = true := by decide +kernel
  intro w hw
  have hg := List.all_eq_true.mp h2 w hw
  rw [h] at hw
  obtain ⟨j, -, hj⟩ := List.mem_filterMap.mp hw
  exact List.mem_filter.mpr ⟨List.mem_of_getElem? hj, hg⟩
theorem am_cls_ok {a : Nat} {C : String} {T : u_T} {N : Nat} (h : vwCl[a]? = some (C, T, N)) : (∀ w ∈ u_ws C T N, w ∈ am_U) ∧ ∃ ty : Nat → FieldType, (∀ k, k < N → parseFieldDescriptor (T k).2.2.1 = some (ty k)) ∧ (∀ x, x < N → ∀ y, y < N → x ≠ y → (T x).2.1 ≠ (T y).2.1) ∧ (∀ j, j < N → defaultValue (ty j) = vp_V (am_dfl a) j) := by
  match a, h with
  | 0, h => cases h; exact ⟨am_cl0, tyX0, tyX0_ok, nmX0, by decide +kernel⟩
  | 1, h => cases h; exact ⟨am_cl1, tyX1, tyX1_ok, nmX1, by decide +kernel⟩
  | 2, h => cases h; exact ⟨am_cl2, tyX2, tyX2_ok, nmX2, by decide +kernel⟩
  | 3, h => cases h; exact ⟨am_cl3, tyX3, tyX3_ok, nmX3, by decide +kernel⟩
  | 4, h => cases h; exact ⟨am_cl4, tyX4, tyX4_ok, nmX4, by decide +kernel⟩
  | 5, h => cases h; exact ⟨am_cl5, tyX5, tyX5_ok, nmX5, by decide +kernel⟩
  | 6, h => cases h; exact ⟨am_cl6, tyX6, tyX6_ok, nmX6, by decide +kernel⟩
  | 7, h => cases h; exact ⟨am_cl7, tyX7, tyX7_ok, nmX7, by decide +kernel⟩
  | 8, h => cases h; exact ⟨am_cl8, tyX8, tyX8_ok, nmX8, by decide +kernel⟩
  | 9, h => cases h; exact ⟨am_cl9, tyX9, tyX9_ok, nmX9, by decide +kernel⟩
  | 10, h => cases h; exact ⟨am_cl10, tyX10, tyX10_ok, nmX10, by decide +kernel⟩
  | 11, h => cases h; exact ⟨am_cl11, tyX11, tyX11_ok, nmX11, by decide +kernel⟩
  | n + 12, h => simp at h
theorem am_cls_ini {a : Nat} {C : String} {T : u_T} {N : Nat} (h : vwCl[a]? = some (C, T, N)) : Jvm.Cond.initialized C ∈ am_U := by
  match a, h with
  | 0, h => cases h; exact am_at_U (pos := 80) (by decide +kernel) rfl
  | 1, h => cases h; exact am_at_U (pos := 79) (by decide +kernel) rfl
  | 2, h => cases h; exact am_at_U (pos := 84) (by decide +kernel) rfl
  | 3, h => cases h; exact am_at_U (pos := 86) (by decide +kernel) rfl
  | 4, h => cases h; exact am_at_U (pos := 78) (by decide +kernel) rfl
  | 5, h => cases h; exact am_at_U (pos := 81) (by decide +kernel) rfl
  | 6, h => cases h; exact am_at_U (pos := 85) (by decide +kernel) rfl
  | 7, h => cases h; exact am_at_U (pos := 82) (by decide +kernel) rfl
  | 8, h => cases h; exact am_at_U (pos := 83) (by decide +kernel) rfl
  | 9, h => cases h; exact am_at_U (pos := 77) (by decide +kernel) rfl
  | 10, h => cases h; exact am_at_U (pos := 76) (by decide +kernel) rfl
  | 11, h => cases h; exact am_at_U (pos := 87) (by decide +kernel) rfl
  | n + 12, h => simp at h
theorem am_w_an : Jvm.Cond.native arraycopyName ∈ am_U := am_at_U (pos := 635) (by decide +kernel) rfl
theorem am_w_as : Jvm.Cond.static arraycopyName ∈ am_U := am_at_U (pos := 634) (by decide +kernel) rfl
theorem am_w_ai : Jvm.Cond.initialized "java/lang/System" ∈ am_U := am_at_U (pos := 94) (by decide +kernel) rfl
theorem am_w_oi : Jvm.Cond.instanceMethod Lib.objectInit ∈ am_U := am_at_U (pos := 106) (by decide +kernel) rfl
theorem am_w_oc : Jvm.Cond.code Lib.objectInit ⟨#[0xb1]⟩ 1 none ∈ am_U := am_at_U (pos := 107) (by decide +kernel) rfl
theorem am_w_mi : Jvm.Cond.initialized "java/lang/Math" ∈ am_U := am_at_U (pos := 88) (by decide +kernel) rfl
theorem am_w_maxs : Jvm.Cond.static Lib.Math.max.name ∈ am_U := am_at_U (pos := 550) (by decide +kernel) rfl
theorem am_w_maxc : Jvm.Cond.code Lib.Math.max.name Lib.Math.max.code 2 (some .int) ∈ am_U := am_at_U (pos := 551) (by decide +kernel) rfl
theorem am_w_mins : Jvm.Cond.static Lib.Math.min.name ∈ am_U := am_at_U (pos := 499) (by decide +kernel) rfl
theorem am_w_minc : Jvm.Cond.code Lib.Math.min.name Lib.Math.min.code 2 (some .int) ∈ am_U := am_at_U (pos := 500) (by decide +kernel) rfl
theorem am_w_abss : Jvm.Cond.static Lib.Math.abs.name ∈ am_U := am_at_U (pos := 662) (by decide +kernel) rfl
theorem am_w_absc : Jvm.Cond.code Lib.Math.abs.name Lib.Math.abs.code 1 (some .int) ∈ am_U := am_at_U (pos := 663) (by decide +kernel) rfl
theorem am_w_maxls : Jvm.Cond.static Lib.MathLoose.max_long.x ∈ am_U := am_at_U (pos := 988) (by decide +kernel) rfl
theorem am_w_maxlc : Jvm.Cond.code Lib.MathLoose.max_long.x Lib.MathLoose.max_long.code 4 (some .long) ∈ am_U := am_at_U (pos := 989) (by decide +kernel) rfl
theorem am_w_absls : Jvm.Cond.static Lib.MathLoose.abs_long.x ∈ am_U := am_at_U (pos := 875) (by decide +kernel) rfl
theorem am_w_abslc : Jvm.Cond.code Lib.MathLoose.abs_long.x Lib.MathLoose.abs_long.code 2 (some .long) ∈ am_U := am_at_U (pos := 876) (by decide +kernel) rfl
end
section
/-! ONE STEP IS SOUND: what a step asks for makes the machine's own step. -/
def am_ty (dA : Nat → ClassId) : List (ClassId × FieldType) := [(dA 0, .int), (dA 1, .long), (dA 2, .boolean), (dA 3, .object RX4), (dA 4, .object RX1), (dA 5, .object RX0)]
def am_KX (U : State) : Prop := (∀ w ∈ am_nest, va_Nw w U) ∧ va_AO RX4 U ∧ va_AO RX1 U ∧ va_AO RX0 U
def am_Rel (mc n : Nat) (ad0 ad : Nat → Nat) : Prop := (mc = 0 → ad = ad0) ∧ ∀ k : Nat, k < n ∨ 1000000 ≤ k → ad k = ad0 k
def am_Ctx (p : Program) (R : Room) (s : State) (m : MethodId) (args : Array Value) (meth : Method) (c : Code) (dC : Nat → ClassId) (dI : Nat → Nat → Nat) (dA : Nat → ClassId) (d : Nat) (M : am_M) : Prop :=
  p.tables.exec = Jvm.exec ∧ c.code = am_mb M ∧ c.maxLocals = am_mL M ∧ s.vm.findClass (am_my M).cls = some m.cls ∧ (∀ w ∈ am_U, w.before args s = true) ∧ ((am_my M).name = "<init>" → meth.name = "<init>") ∧ va_K (dC, dI) vwCl (am_ty dA) s ∧ am_KX s ∧ R.cells = am_mc M ∧ R.slots = am_ms M ∧ d + 40 ≤ R.frames ∧ 80 * d + 2000 ≤ R.locals
def am_Wd (dC : Nat → ClassId) (dI : Nat → Nat → Nat) (dA : Nat → ClassId) (A : Nat → Prop) (H0 : Heap) (ad : Nat → Nat) (G : am_G) (H : Heap) (locs : List Loc) : Prop :=
  va_P (dC, dI) vwCl (am_cw dA ad G) H ∧ va_D A (am_cw dA ad G) ∧ va_S A H0 H locs
def am_W (p : Program) (l : Launch) (e : Env) (R : Room) (s : State) (m : MethodId) (args : Array Value) (below : List Frame) (meth : Method) (c : Code) (dC : Nat → ClassId) (dI : Nat → Nat → Nat) (dA : Nat → ClassId) (M : am_M) (A : Nat → Prop) (H0 : Heap) (ad0 : Nat → Nat) (n0 : Nat) (QW : State → Prop) : am_P := fun pc L st G nc ns =>
  ∀ (ad : Nat → Nat) (H : Heap) (locs : List Loc) (ls : Array Slot), am_Rel (am_mc M) n0 ad0 ad → n0 ≤ G.length → am_Wd dC dI dA A H0 ad G H locs → am_nod L → am_LH ls (am_mL M) L ad → nc ≤ am_mc M ∧ ns ≤ am_ms M → W p l e R s m args below meth c H locs nc ns QW (F0 m pc ls (st.map (am_cv ad)))
theorem am_fld_ok {own : String} {idx a b pos : Nat} (h : am_fld own idx a b pos = true) : ∃ (C : String) (T : u_T) (N : Nat), vwCl[a]? = some (C, T, N) ∧ b < N ∧ (T b).1 = C ∧ Jvm.Cond.fieldLink own idx C (T b).2.1 (T b).2.2.1 ∈ am_U := by
  unfold am_fld at h
  split at h
  · rename_i C T N hq
    simp only [Bool.and_eq_true, decide_eq_true_eq] at h
    exact ⟨C, T, N, hq, h.1.1, h.1.2, am_at_U h.2 rfl⟩
  · cases h
theorem am_set_O {dA : Nat → ClassId} {ad : Nat → Nat} {G : am_G} {o ci b : Nat} {fs : List Value} {v : Value} : (am_cw dA ad G).set o (ad o, .inr (ci, (fs.map (am_cv ad)).set b (am_cv ad v))) = am_cw dA ad (G.set o (.inr (.inr (.inr (ci, fs.set b v))))) := by
  rw [← am_cw_set]
  simp only [am_ce, List.map_set]
theorem am_set_R {dA : Nat → ClassId} {ad : Nat → Nat} {G : am_G} {o k i v : Nat} {l : List (Option Nat)} (hi : i < l.length) : (am_cw dA ad G).set o (ad o, .inl (dA k, l.length, .inr (.inr (.inr (.inr (va_up (fun j => (l.getD j none).map ad) i (some (ad v)))))))) = am_cw dA ad (G.set o (.inr (.inr (.inl (k, l.set i (some v)))))) := by
  rw [← am_cw_set]
  simp only [am_ce, List.length_set]
  congr 9
  funext j
  simp only [va_up, List.getD_eq_getElem?_getD, List.getElem?_set]
  by_cases h : j = i
  · subst h
    simp [hi]
  · simp [h, Ne.symm h]
theorem am_prim {dC : Nat → ClassId} {dI : Nat → Nat → Nat} {dA : Nat → ClassId} {s : State} {a : Nat} {cA : ClassId} {ty : FieldType} (ha : a < 3) (hty : newarray.typeOf (am_aty a) = ty) (hK : va_K (dC, dI) vwCl (am_ty dA) s) (h : va_K (dC, dI) vwCl (am_ty dA ++ [(cA, ty)]) s) : cA = dA a := by
  have h1 := (h.2 6 (cA, ty) rfl).2
  match a, ha with
  | 0, _ =>
    cases hty
    have h2 := (hK.2 0 (dA 0, .int) rfl).2
    exact Option.some.inj (h1.symm.trans h2)
  | 1, _ =>
    cases hty
    have h2 := (hK.2 1 (dA 1, .long) rfl).2
    exact Option.some.inj (h1.symm.trans h2)
  | 2, _ =>
    cases hty
    have h2 := (hK.2 2 (dA 2, .boolean) rfl).2
    exact Option.some.inj (h1.symm.trans h2)
theorem am_obj {dC : Nat → ClassId} {dI : Nat → Nat → Nat} {dA : Nat → ClassId} {s : State} {k : Nat} {cA : ClassId} {C : String} (hk : (am_ty dA)[k]? = some (dA k, .object C)) (hK : va_K (dC, dI) vwCl (am_ty dA) s) (h : va_K (dC, dI) vwCl (am_ty dA ++ [(cA, .object C)]) s) : cA = dA k := by
  obtain ⟨_, _, _, _, _, h1⟩ := (h.2 6 (cA, .object C) rfl).2
  obtain ⟨_, _, _, _, _, h2⟩ := (hK.2 k (dA k, .object C) hk).2
  exact Option.some.inj (h1.symm.trans h2)
theorem am_Wd_new {dC : Nat → ClassId} {dI : Nat → Nat → Nat} {dA : Nat → ClassId} {A : Nat → Prop} {H0 H1 : Heap} {ad : Nat → Nat} {G : am_G} {e : am_E} {ee : va_E} {locs : List Loc} {q : Nat} (hw : G.all (am_wfE G.length) = true) (he : am_ce dA (va_up ad G.length q) e = ee) (hP : va_P (dC, dI) vwCl (am_cw dA ad G ++ [(q, ee)]) H1) (hD : va_D A (am_cw dA ad G ++ [(q, ee)])) (hS : va_S A H0 H1 locs) (hbig : G.length < 1000000) : am_Wd dC dI dA A H0 (va_up ad G.length q) (G ++ [e]) H1 locs := by
  have hx : ∀ k : Nat, k < G.length ∨ 1000000 ≤ k → va_up ad G.length q k = ad k := fun k hk => by
    simp only [va_up]
    rw [if_neg (by omega)]
  have e1 : am_cw dA (va_up ad G.length q) (G ++ [e]) = am_cw dA ad G ++ [(q, ee)] := by
    rw [am_cw_push, am_cw_ad hx (Nat.le_refl _) hw, he]
    simp [va_up]
  exact ⟨by rw [e1]; exact hP, by rw [e1]; exact hD, hS⟩
theorem am_st_ad {n : Nat} {ad ad1 : Nat → Nat} (h : ∀ k : Nat, k < n ∨ 1000000 ≤ k → ad1 k = ad k) {st : List Value} (hst : st.all (am_wfv n) = true) : st.map (am_cv ad1) = st.map (am_cv ad) := List.map_congr_left fun v hv => am_cv_ad h (List.all_eq_true.mp hst v hv)
theorem am_LH_ad {n : Nat} {ad ad1 : Nat → Nat} (h : ∀ k : Nat, k < n ∨ 1000000 ≤ k → ad1 k = ad k) {ls : Array Slot} {nL : Nat} {L : am_L} (hw : am_wfL n L = true) (hl : am_LH ls nL L ad) : am_LH ls nL L ad1 := by
  refine ⟨hl.1, am_LH_sub hl.2 fun q hq => ?_⟩
  obtain ⟨v, h1, h2⟩ := am_lv_mem.mp hq
  have h3 := List.all_eq_true.mp hw (some v) (List.mem_of_getElem? h1)
  exact am_lv_mem.mpr ⟨v, h1, h2.trans (am_cv_ad h h3)⟩
section AMS
variable {p : Program} {l : Launch} {e : Env} {R : Room} {s : State} {m : MethodId} {args : Array Value} {below : List Frame} {meth : Method} {c : Code} {dC : Nat → ClassId} {dI : Nat → Nat → Nat} {dA : Nat → ClassId} {d : Nat} {M : am_M} {A : Nat → Prop} {H0 : Heap} {ad0 : Nat → Nat} {n0 : Nat} {QW : State → Prop} {MT : Nat → Option am_M} {scr : Option (Nat × (Nat → Int32))}

theorem am_i_iconst {n : Int} (hC : am_Ctx p R s m args meth c dC dI dA d M) {P0 : am_P} (hm : ∀ pc L st G nc ns, P0 pc L st G nc ns → am_W p l e R s m args below meth c dC dI dA M A H0 ad0 n0 QW pc L st G nc ns) {C : am_C} {Q : Option Value → am_G → Prop} {X : Nat → am_L → am_G → Nat → Nat → Prop} {pc npc a b t u pos : Nat} {cv : Int32} {cl : Int64} {L : am_L} {st : List Value} {G : am_G} {nc ns : Nat} (hd : decode (am_mb M) pc = .ok (.iconst n, am_len (.iconst n) (npc - pc))) (hn : npc = pc + am_len (.iconst n) (npc - pc)) (hok : am_okX MT M pc (.iconst n) a b t u pos cv cl = true) (h : am_ins C M scr Q X P0 pc (.iconst n) npc a b t u cv cl L st G nc ns) : am_W p l e R s m args below meth c dC dI dA M A H0 ad0 n0 QW pc L st G nc ns := by
  obtain ⟨hx, hb, hml, hown, hts, hini, hK, hKX, hRc, hRs, hRf, hRl⟩ := hC
  have hn : npc = pc + 1 := hn
  subst hn
  simp only [am_okX, decide_eq_true_eq] at hok
  intro ad H locs ls hrel hn0 hw hnd hL hcs
  exact lv_iconst hx hb hd hok (hm _ _ _ _ _ _ h ad H locs ls hrel hn0 hw hnd hL hcs)

theorem am_i_bipush {n : Int} (hC : am_Ctx p R s m args meth c dC dI dA d M) {P0 : am_P} (hm : ∀ pc L st G nc ns, P0 pc L st G nc ns → am_W p l e R s m args below meth c dC dI dA M A H0 ad0 n0 QW pc L st G nc ns) {C : am_C} {Q : Option Value → am_G → Prop} {X : Nat → am_L → am_G → Nat → Nat → Prop} {pc npc a b t u pos : Nat} {cv : Int32} {cl : Int64} {L : am_L} {st : List Value} {G : am_G} {nc ns : Nat} (hd : decode (am_mb M) pc = .ok (.bipush n, am_len (.bipush n) (npc - pc))) (hn : npc = pc + am_len (.bipush n) (npc - pc)) (hok : am_okX MT M pc (.bipush n) a b t u pos cv cl = true) (h : am_ins C M scr Q X P0 pc (.bipush n) npc a b t u cv cl L st G nc ns) : am_W p l e R s m args below meth c dC dI dA M A H0 ad0 n0 QW pc L st G nc ns := by
  obtain ⟨hx, hb, hml, hown, hts, hini, hK, hKX, hRc, hRs, hRf, hRl⟩ := hC
  have hn : npc = pc + 2 := hn
  subst hn
  simp only [am_okX, decide_eq_true_eq] at hok
  intro ad H locs ls hrel hn0 hw hnd hL hcs
  exact lv_bipush hx hb hd hok (hm _ _ _ _ _ _ h ad H locs ls hrel hn0 hw hnd hL hcs)

theorem am_i_sipush {n : Int} (hC : am_Ctx p R s m args meth c dC dI dA d M) {P0 : am_P} (hm : ∀ pc L st G nc ns, P0 pc L st G nc ns → am_W p l e R s m args below meth c dC dI dA M A H0 ad0 n0 QW pc L st G nc ns) {C : am_C} {Q : Option Value → am_G → Prop} {X : Nat → am_L → am_G → Nat → Nat → Prop} {pc npc a b t u pos : Nat} {cv : Int32} {cl : Int64} {L : am_L} {st : List Value} {G : am_G} {nc ns : Nat} (hd : decode (am_mb M) pc = .ok (.sipush n, am_len (.sipush n) (npc - pc))) (hn : npc = pc + am_len (.sipush n) (npc - pc)) (hok : am_okX MT M pc (.sipush n) a b t u pos cv cl = true) (h : am_ins C M scr Q X P0 pc (.sipush n) npc a b t u cv cl L st G nc ns) : am_W p l e R s m args below meth c dC dI dA M A H0 ad0 n0 QW pc L st G nc ns := by
  obtain ⟨hx, hb, hml, hown, hts, hini, hK, hKX, hRc, hRs, hRf, hRl⟩ := hC
  have hn : npc = pc + 3 := hn
  subst hn
  simp only [am_okX, decide_eq_true_eq] at hok
  intro ad H locs ls hrel hn0 hw hnd hL hcs
  exact lv_sipush hx hb hd hok (hm _ _ _ _ _ _ h ad H locs ls hrel hn0 hw hnd hL hcs)

theorem am_i_lconst {n : Fin 2} (hC : am_Ctx p R s m args meth c dC dI dA d M) {P0 : am_P} (hm : ∀ pc L st G nc ns, P0 pc L st G nc ns → am_W p l e R s m args below meth c dC dI dA M A H0 ad0 n0 QW pc L st G nc ns) {C : am_C} {Q : Option Value → am_G → Prop} {X : Nat → am_L → am_G → Nat → Nat → Prop} {pc npc a b t u pos : Nat} {cv : Int32} {cl : Int64} {L : am_L} {st : List Value} {G : am_G} {nc ns : Nat} (hd : decode (am_mb M) pc = .ok (.lconst n, am_len (.lconst n) (npc - pc))) (hn : npc = pc + am_len (.lconst n) (npc - pc)) (hok : am_okX MT M pc (.lconst n) a b t u pos cv cl = true) (h : am_ins C M scr Q X P0 pc (.lconst n) npc a b t u cv cl L st G nc ns) : am_W p l e R s m args below meth c dC dI dA M A H0 ad0 n0 QW pc L st G nc ns := by
  obtain ⟨hx, hb, hml, hown, hts, hini, hK, hKX, hRc, hRs, hRf, hRl⟩ := hC
  have hn : npc = pc + 1 := hn
  subst hn
  simp only [am_okX, decide_eq_true_eq] at hok
  intro ad H locs ls hrel hn0 hw hnd hL hcs
  exact lv_lconst hx hb hd hok (hm _ _ _ _ _ _ h ad H locs ls hrel hn0 hw hnd hL hcs)

theorem am_i_ldc2 {n : Nat} (hC : am_Ctx p R s m args meth c dC dI dA d M) {P0 : am_P} (hm : ∀ pc L st G nc ns, P0 pc L st G nc ns → am_W p l e R s m args below meth c dC dI dA M A H0 ad0 n0 QW pc L st G nc ns) {C : am_C} {Q : Option Value → am_G → Prop} {X : Nat → am_L → am_G → Nat → Nat → Prop} {pc npc a b t u pos : Nat} {cv : Int32} {cl : Int64} {L : am_L} {st : List Value} {G : am_G} {nc ns : Nat} (hd : decode (am_mb M) pc = .ok (.ldc2_w n, am_len (.ldc2_w n) (npc - pc))) (hn : npc = pc + am_len (.ldc2_w n) (npc - pc)) (hok : am_okX MT M pc (.ldc2_w n) a b t u pos cv cl = true) (h : am_ins C M scr Q X P0 pc (.ldc2_w n) npc a b t u cv cl L st G nc ns) : am_W p l e R s m args below meth c dC dI dA M A H0 ad0 n0 QW pc L st G nc ns := by
  obtain ⟨hx, hb, hml, hown, hts, hini, hK, hKX, hRc, hRs, hRf, hRl⟩ := hC
  have hn : npc = pc + 3 := hn
  subst hn
  have hw1 := hts _ (am_at_U hok rfl)
  intro ad H locs ls hrel hn0 hw hnd hL hcs
  exact lv_ldc2 hx hb hown hw1 hd (hm _ _ _ _ _ _ h ad H locs ls hrel hn0 hw hnd hL hcs)

theorem am_i_ldc {n : Nat} (hC : am_Ctx p R s m args meth c dC dI dA d M) {P0 : am_P} (hm : ∀ pc L st G nc ns, P0 pc L st G nc ns → am_W p l e R s m args below meth c dC dI dA M A H0 ad0 n0 QW pc L st G nc ns) {C : am_C} {Q : Option Value → am_G → Prop} {X : Nat → am_L → am_G → Nat → Nat → Prop} {pc npc a b t u pos : Nat} {cv : Int32} {cl : Int64} {L : am_L} {st : List Value} {G : am_G} {nc ns : Nat} (hd : decode (am_mb M) pc = .ok (.ldc n, am_len (.ldc n) (npc - pc))) (hn : npc = pc + am_len (.ldc n) (npc - pc)) (hok : am_okX MT M pc (.ldc n) a b t u pos cv cl = true) (h : am_ins C M scr Q X P0 pc (.ldc n) npc a b t u cv cl L st G nc ns) (hstr : ∀ (n b : Nat), 1000000 ≤ b → am_sk (b - 1000000) = some ((am_my M).cls, n) → decode (am_mb M) pc = .ok (.ldc n, 2) → ∀ (ad : Nat → Nat) (H : Heap) (locs : List Loc) (ls : Array Slot), am_Rel (am_mc M) n0 ad0 ad → n0 ≤ G.length → am_Wd dC dI dA A H0 ad G H locs → am_nod L → am_LH ls (am_mL M) L ad → nc ≤ am_mc M ∧ ns ≤ am_ms M → W p l e R s m args below meth c H locs nc ns QW (F0 m (pc + 2) ls ((.ref b :: st).map (am_cv ad))) → W p l e R s m args below meth c H locs nc ns QW (F0 m pc ls (st.map (am_cv ad)))) : am_W p l e R s m args below meth c dC dI dA M A H0 ad0 n0 QW pc L st G nc ns := by
  obtain ⟨hx, hb, hml, hown, hts, hini, hK, hKX, hRc, hRs, hRf, hRl⟩ := hC
  have hn : npc = pc + 2 := hn
  subst hn
  match t, hok, h with
  | 0, hok, h =>
    have hw1 := hts _ (am_at_U hok rfl)
    intro ad H locs ls hrel hn0 hw hnd hL hcs
    exact lv_ldc hx hb hown hw1 hd (hm _ _ _ _ _ _ h ad H locs ls hrel hn0 hw hnd hL hcs)
  | t + 1, hok, h =>
    simp only [am_okX, Bool.and_eq_true, decide_eq_true_eq] at hok
    intro ad H locs ls hrel hn0 hw hnd hL hcs
    exact hstr n b hok.1 hok.2 hd ad H locs ls hrel hn0 hw hnd hL hcs (hm _ _ _ _ _ _ h ad H locs ls hrel hn0 hw hnd hL hcs)

theorem am_i_ldc_w {n : Nat} (hC : am_Ctx p R s m args meth c dC dI dA d M) {P0 : am_P} (hm : ∀ pc L st G nc ns, P0 pc L st G nc ns → am_W p l e R s m args below meth c dC dI dA M A H0 ad0 n0 QW pc L st G nc ns) {C : am_C} {Q : Option Value → am_G → Prop} {X : Nat → am_L → am_G → Nat → Nat → Prop} {pc npc a b t u pos : Nat} {cv : Int32} {cl : Int64} {L : am_L} {st : List Value} {G : am_G} {nc ns : Nat} (hd : decode (am_mb M) pc = .ok (.ldc_w n, am_len (.ldc_w n) (npc - pc))) (hn : npc = pc + am_len (.ldc_w n) (npc - pc)) (hok : am_okX MT M pc (.ldc_w n) a b t u pos cv cl = true) (h : am_ins C M scr Q X P0 pc (.ldc_w n) npc a b t u cv cl L st G nc ns) (hstr : ∀ (n b : Nat), 1000000 ≤ b → am_sk (b - 1000000) = some ((am_my M).cls, n) → decode (am_mb M) pc = .ok (.ldc_w n, 3) → ∀ (ad : Nat → Nat) (H : Heap) (locs : List Loc) (ls : Array Slot), am_Rel (am_mc M) n0 ad0 ad → n0 ≤ G.length → am_Wd dC dI dA A H0 ad G H locs → am_nod L → am_LH ls (am_mL M) L ad → nc ≤ am_mc M ∧ ns ≤ am_ms M → W p l e R s m args below meth c H locs nc ns QW (F0 m (pc + 3) ls ((.ref b :: st).map (am_cv ad))) → W p l e R s m args below meth c H locs nc ns QW (F0 m pc ls (st.map (am_cv ad)))) : am_W p l e R s m args below meth c dC dI dA M A H0 ad0 n0 QW pc L st G nc ns := by
  obtain ⟨hx, hb, hml, hown, hts, hini, hK, hKX, hRc, hRs, hRf, hRl⟩ := hC
  have hn : npc = pc + 3 := hn
  subst hn
  match t, hok, h with
  | 0, hok, h =>
    have hw1 := hts _ (am_at_U hok rfl)
    intro ad H locs ls hrel hn0 hw hnd hL hcs
    exact lv_ldcw hx hb hown hw1 hd (hm _ _ _ _ _ _ h ad H locs ls hrel hn0 hw hnd hL hcs)
  | t + 1, hok, h =>
    simp only [am_okX, Bool.and_eq_true, decide_eq_true_eq] at hok
    intro ad H locs ls hrel hn0 hw hnd hL hcs
    exact hstr n b hok.1 hok.2 hd ad H locs ls hrel hn0 hw hnd hL hcs (hm _ _ _ _ _ _ h ad H locs ls hrel hn0 hw hnd hL hcs)

theorem am_i_iload_n {k : Fin 4} (hC : am_Ctx p R s m args meth c dC dI dA d M) {P0 : am_P} (hm : ∀ pc L st G nc ns, P0 pc L st G nc ns → am_W p l e R s m args below meth c dC dI dA M A H0 ad0 n0 QW pc L st G nc ns) {C : am_C} {Q : Option Value → am_G → Prop} {X : Nat → am_L → am_G → Nat → Nat → Prop} {pc npc a b t u pos : Nat} {cv : Int32} {cl : Int64} {L : am_L} {st : List Value} {G : am_G} {nc ns : Nat} (hd : decode (am_mb M) pc = .ok (.iload_n k, am_len (.iload_n k) (npc - pc))) (hn : npc = pc + am_len (.iload_n k) (npc - pc)) (hok : am_okX MT M pc (.iload_n k) a b t u pos cv cl = true) (h : am_ins C M scr Q X P0 pc (.iload_n k) npc a b t u cv cl L st G nc ns) : am_W p l e R s m args below meth c dC dI dA M A H0 ad0 n0 QW pc L st G nc ns := by
  obtain ⟨hx, hb, hml, hown, hts, hini, hK, hKX, hRc, hRs, hRf, hRl⟩ := hC
  have hn : npc = pc + 1 := hn
  subst hn
  simp only [am_okX, decide_eq_true_eq] at hok
  simp only [am_ins] at h
  split at h
  · rename_i hq
    intro ad H locs ls hrel hn0 hw hnd hL hcs
    exact lv_iload_n hx hb hd hok (am_LH_at hL hq) (hm _ _ _ _ _ _ h ad H locs ls hrel hn0 hw hnd hL hcs)
  · exact h.elim

theorem am_i_iload {k : Nat} (hC : am_Ctx p R s m args meth c dC dI dA d M) {P0 : am_P} (hm : ∀ pc L st G nc ns, P0 pc L st G nc ns → am_W p l e R s m args below meth c dC dI dA M A H0 ad0 n0 QW pc L st G nc ns) {C : am_C} {Q : Option Value → am_G → Prop} {X : Nat → am_L → am_G → Nat → Nat → Prop} {pc npc a b t u pos : Nat} {cv : Int32} {cl : Int64} {L : am_L} {st : List Value} {G : am_G} {nc ns : Nat} (hd : decode (am_mb M) pc = .ok (.iload k, am_len (.iload k) (npc - pc))) (hn : npc = pc + am_len (.iload k) (npc - pc)) (hok : am_okX MT M pc (.iload k) a b t u pos cv cl = true) (h : am_ins C M scr Q X P0 pc (.iload k) npc a b t u cv cl L st G nc ns) : am_W p l e R s m args below meth c dC dI dA M A H0 ad0 n0 QW pc L st G nc ns := by
  obtain ⟨hx, hb, hml, hown, hts, hini, hK, hKX, hRc, hRs, hRf, hRl⟩ := hC
  have hn : npc = pc + 2 := hn
  subst hn
  simp only [am_okX, decide_eq_true_eq] at hok
  simp only [am_ins] at h
  split at h
  · rename_i hq
    subst hok
    intro ad H locs ls hrel hn0 hw hnd hL hcs
    exact lv_iload hx hb hd (am_LH_at hL hq) (hm _ _ _ _ _ _ h ad H locs ls hrel hn0 hw hnd hL hcs)
  · exact h.elim

theorem am_i_lload_n {k : Fin 4} (hC : am_Ctx p R s m args meth c dC dI dA d M) {P0 : am_P} (hm : ∀ pc L st G nc ns, P0 pc L st G nc ns → am_W p l e R s m args below meth c dC dI dA M A H0 ad0 n0 QW pc L st G nc ns) {C : am_C} {Q : Option Value → am_G → Prop} {X : Nat → am_L → am_G → Nat → Nat → Prop} {pc npc a b t u pos : Nat} {cv : Int32} {cl : Int64} {L : am_L} {st : List Value} {G : am_G} {nc ns : Nat} (hd : decode (am_mb M) pc = .ok (.lload_n k, am_len (.lload_n k) (npc - pc))) (hn : npc = pc + am_len (.lload_n k) (npc - pc)) (hok : am_okX MT M pc (.lload_n k) a b t u pos cv cl = true) (h : am_ins C M scr Q X P0 pc (.lload_n k) npc a b t u cv cl L st G nc ns) : am_W p l e R s m args below meth c dC dI dA M A H0 ad0 n0 QW pc L st G nc ns := by
  obtain ⟨hx, hb, hml, hown, hts, hini, hK, hKX, hRc, hRs, hRf, hRl⟩ := hC
  have hn : npc = pc + 1 := hn
  subst hn
  simp only [am_okX, decide_eq_true_eq] at hok
  simp only [am_ins] at h
  split at h
  · rename_i hq
    intro ad H locs ls hrel hn0 hw hnd hL hcs
    exact lv_lload_n hx hb hd hok (am_LH_at hL hq) (hm _ _ _ _ _ _ h ad H locs ls hrel hn0 hw hnd hL hcs)
  · exact h.elim

theorem am_i_lload {k : Nat} (hC : am_Ctx p R s m args meth c dC dI dA d M) {P0 : am_P} (hm : ∀ pc L st G nc ns, P0 pc L st G nc ns → am_W p l e R s m args below meth c dC dI dA M A H0 ad0 n0 QW pc L st G nc ns) {C : am_C} {Q : Option Value → am_G → Prop} {X : Nat → am_L → am_G → Nat → Nat → Prop} {pc npc a b t u pos : Nat} {cv : Int32} {cl : Int64} {L : am_L} {st : List Value} {G : am_G} {nc ns : Nat} (hd : decode (am_mb M) pc = .ok (.lload k, am_len (.lload k) (npc - pc))) (hn : npc = pc + am_len (.lload k) (npc - pc)) (hok : am_okX MT M pc (.lload k) a b t u pos cv cl = true) (h : am_ins C M scr Q X P0 pc (.lload k) npc a b t u cv cl L st G nc ns) : am_W p l e R s m args below meth c dC dI dA M A H0 ad0 n0 QW pc L st G nc ns := by
  obtain ⟨hx, hb, hml, hown, hts, hini, hK, hKX, hRc, hRs, hRf, hRl⟩ := hC
  have hn : npc = pc + 2 := hn
  subst hn
  simp only [am_okX, decide_eq_true_eq] at hok
  simp only [am_ins] at h
  split at h
  · rename_i hq
    subst hok
    intro ad H locs ls hrel hn0 hw hnd hL hcs
    exact lv_lload hx hb hd (am_LH_at hL hq) (hm _ _ _ _ _ _ h ad H locs ls hrel hn0 hw hnd hL hcs)
  · exact h.elim

theorem am_i_aload_n {k : Fin 4} (hC : am_Ctx p R s m args meth c dC dI dA d M) {P0 : am_P} (hm : ∀ pc L st G nc ns, P0 pc L st G nc ns → am_W p l e R s m args below meth c dC dI dA M A H0 ad0 n0 QW pc L st G nc ns) {C : am_C} {Q : Option Value → am_G → Prop} {X : Nat → am_L → am_G → Nat → Nat → Prop} {pc npc a b t u pos : Nat} {cv : Int32} {cl : Int64} {L : am_L} {st : List Value} {G : am_G} {nc ns : Nat} (hd : decode (am_mb M) pc = .ok (.aload_n k, am_len (.aload_n k) (npc - pc))) (hn : npc = pc + am_len (.aload_n k) (npc - pc)) (hok : am_okX MT M pc (.aload_n k) a b t u pos cv cl = true) (h : am_ins C M scr Q X P0 pc (.aload_n k) npc a b t u cv cl L st G nc ns) : am_W p l e R s m args below meth c dC dI dA M A H0 ad0 n0 QW pc L st G nc ns := by
  obtain ⟨hx, hb, hml, hown, hts, hini, hK, hKX, hRc, hRs, hRf, hRl⟩ := hC
  have hn : npc = pc + 1 := hn
  subst hn
  simp only [am_okX, decide_eq_true_eq] at hok
  simp only [am_ins] at h
  split at h
  · rename_i hq
    intro ad H locs ls hrel hn0 hw hnd hL hcs
    exact lv_aload_n hx hb hd hok (am_LH_at hL hq) (hm _ _ _ _ _ _ h ad H locs ls hrel hn0 hw hnd hL hcs)
  · exact h.elim

theorem am_i_aload {k : Nat} (hC : am_Ctx p R s m args meth c dC dI dA d M) {P0 : am_P} (hm : ∀ pc L st G nc ns, P0 pc L st G nc ns → am_W p l e R s m args below meth c dC dI dA M A H0 ad0 n0 QW pc L st G nc ns) {C : am_C} {Q : Option Value → am_G → Prop} {X : Nat → am_L → am_G → Nat → Nat → Prop} {pc npc a b t u pos : Nat} {cv : Int32} {cl : Int64} {L : am_L} {st : List Value} {G : am_G} {nc ns : Nat} (hd : decode (am_mb M) pc = .ok (.aload k, am_len (.aload k) (npc - pc))) (hn : npc = pc + am_len (.aload k) (npc - pc)) (hok : am_okX MT M pc (.aload k) a b t u pos cv cl = true) (h : am_ins C M scr Q X P0 pc (.aload k) npc a b t u cv cl L st G nc ns) : am_W p l e R s m args below meth c dC dI dA M A H0 ad0 n0 QW pc L st G nc ns := by
  obtain ⟨hx, hb, hml, hown, hts, hini, hK, hKX, hRc, hRs, hRf, hRl⟩ := hC
  have hn : npc = pc + 2 := hn
  subst hn
  simp only [am_okX, decide_eq_true_eq] at hok
  simp only [am_ins] at h
  split at h
  · rename_i hq
    subst hok
    intro ad H locs ls hrel hn0 hw hnd hL hcs
    exact lv_aload hx hb hd (am_LH_at hL hq) (hm _ _ _ _ _ _ h ad H locs ls hrel hn0 hw hnd hL hcs)
  · exact h.elim

theorem am_i_istore_n {k : Fin 4} (hC : am_Ctx p R s m args meth c dC dI dA d M) {P0 : am_P} (hm : ∀ pc L st G nc ns, P0 pc L st G nc ns → am_W p l e R s m args below meth c dC dI dA M A H0 ad0 n0 QW pc L st G nc ns) {C : am_C} {Q : Option Value → am_G → Prop} {X : Nat → am_L → am_G → Nat → Nat → Prop} {pc npc a b t u pos : Nat} {cv : Int32} {cl : Int64} {L : am_L} {st : List Value} {G : am_G} {nc ns : Nat} (hd : decode (am_mb M) pc = .ok (.istore_n k, am_len (.istore_n k) (npc - pc))) (hn : npc = pc + am_len (.istore_n k) (npc - pc)) (hok : am_okX MT M pc (.istore_n k) a b t u pos cv cl = true) (h : am_ins C M scr Q X P0 pc (.istore_n k) npc a b t u cv cl L st G nc ns) : am_W p l e R s m args below meth c dC dI dA M A H0 ad0 n0 QW pc L st G nc ns := by
  obtain ⟨hx, hb, hml, hown, hts, hini, hK, hKX, hRc, hRs, hRf, hRl⟩ := hC
  have hn : npc = pc + 1 := hn
  subst hn
  simp only [am_okX, Bool.and_eq_true, decide_eq_true_eq] at hok
  simp only [am_ins] at h
  split at h
  · intro ad H locs ls hrel hn0 hw hnd hL hcs
    exact lv_istore_n hx hb hd hok.1 hL.2 hok.2 rfl (fun ls2 hl2 => hm _ _ _ _ _ _ h ad H locs ls2 hrel hn0 hw ((am_nod_st1 hnd rfl)) (am_st1_LH hnd hL.1 hl2) hcs)
  · exact h.elim

theorem am_i_istore {k : Nat} (hC : am_Ctx p R s m args meth c dC dI dA d M) {P0 : am_P} (hm : ∀ pc L st G nc ns, P0 pc L st G nc ns → am_W p l e R s m args below meth c dC dI dA M A H0 ad0 n0 QW pc L st G nc ns) {C : am_C} {Q : Option Value → am_G → Prop} {X : Nat → am_L → am_G → Nat → Nat → Prop} {pc npc a b t u pos : Nat} {cv : Int32} {cl : Int64} {L : am_L} {st : List Value} {G : am_G} {nc ns : Nat} (hd : decode (am_mb M) pc = .ok (.istore k, am_len (.istore k) (npc - pc))) (hn : npc = pc + am_len (.istore k) (npc - pc)) (hok : am_okX MT M pc (.istore k) a b t u pos cv cl = true) (h : am_ins C M scr Q X P0 pc (.istore k) npc a b t u cv cl L st G nc ns) : am_W p l e R s m args below meth c dC dI dA M A H0 ad0 n0 QW pc L st G nc ns := by
  obtain ⟨hx, hb, hml, hown, hts, hini, hK, hKX, hRc, hRs, hRf, hRl⟩ := hC
  have hn : npc = pc + 2 := hn
  subst hn
  simp only [am_okX, Bool.and_eq_true, decide_eq_true_eq] at hok
  simp only [am_ins] at h
  split at h
  · obtain ⟨rfl, hlt⟩ := hok
    intro ad H locs ls hrel hn0 hw hnd hL hcs
    exact lv_istore hx hb hd hL.2 hlt rfl (fun ls2 hl2 => hm _ _ _ _ _ _ h ad H locs ls2 hrel hn0 hw ((am_nod_st1 hnd rfl)) (am_st1_LH hnd hL.1 hl2) hcs)
  · exact h.elim

theorem am_i_astore_n {k : Fin 4} (hC : am_Ctx p R s m args meth c dC dI dA d M) {P0 : am_P} (hm : ∀ pc L st G nc ns, P0 pc L st G nc ns → am_W p l e R s m args below meth c dC dI dA M A H0 ad0 n0 QW pc L st G nc ns) {C : am_C} {Q : Option Value → am_G → Prop} {X : Nat → am_L → am_G → Nat → Nat → Prop} {pc npc a b t u pos : Nat} {cv : Int32} {cl : Int64} {L : am_L} {st : List Value} {G : am_G} {nc ns : Nat} (hd : decode (am_mb M) pc = .ok (.astore_n k, am_len (.astore_n k) (npc - pc))) (hn : npc = pc + am_len (.astore_n k) (npc - pc)) (hok : am_okX MT M pc (.astore_n k) a b t u pos cv cl = true) (h : am_ins C M scr Q X P0 pc (.astore_n k) npc a b t u cv cl L st G nc ns) : am_W p l e R s m args below meth c dC dI dA M A H0 ad0 n0 QW pc L st G nc ns := by
  obtain ⟨hx, hb, hml, hown, hts, hini, hK, hKX, hRc, hRs, hRf, hRl⟩ := hC
  have hn : npc = pc + 1 := hn
  subst hn
  simp only [am_okX, Bool.and_eq_true, decide_eq_true_eq] at hok
  simp only [am_ins] at h
  split at h
  · intro ad H locs ls hrel hn0 hw hnd hL hcs
    exact lv_astore_n hx hb hd hok.1 hL.2 hok.2 rfl (fun ls2 hl2 => hm _ _ _ _ _ _ h ad H locs ls2 hrel hn0 hw ((am_nod_st1 hnd rfl)) (am_st1_LH hnd hL.1 hl2) hcs)
  · exact h.elim

theorem am_i_astore {k : Nat} (hC : am_Ctx p R s m args meth c dC dI dA d M) {P0 : am_P} (hm : ∀ pc L st G nc ns, P0 pc L st G nc ns → am_W p l e R s m args below meth c dC dI dA M A H0 ad0 n0 QW pc L st G nc ns) {C : am_C} {Q : Option Value → am_G → Prop} {X : Nat → am_L → am_G → Nat → Nat → Prop} {pc npc a b t u pos : Nat} {cv : Int32} {cl : Int64} {L : am_L} {st : List Value} {G : am_G} {nc ns : Nat} (hd : decode (am_mb M) pc = .ok (.astore k, am_len (.astore k) (npc - pc))) (hn : npc = pc + am_len (.astore k) (npc - pc)) (hok : am_okX MT M pc (.astore k) a b t u pos cv cl = true) (h : am_ins C M scr Q X P0 pc (.astore k) npc a b t u cv cl L st G nc ns) : am_W p l e R s m args below meth c dC dI dA M A H0 ad0 n0 QW pc L st G nc ns := by
  obtain ⟨hx, hb, hml, hown, hts, hini, hK, hKX, hRc, hRs, hRf, hRl⟩ := hC
  have hn : npc = pc + 2 := hn
  subst hn
  simp only [am_okX, Bool.and_eq_true, decide_eq_true_eq] at hok
  simp only [am_ins] at h
  split at h
  · obtain ⟨rfl, hlt⟩ := hok
    intro ad H locs ls hrel hn0 hw hnd hL hcs
    exact lv_astore hx hb hd hL.2 hlt rfl (fun ls2 hl2 => hm _ _ _ _ _ _ h ad H locs ls2 hrel hn0 hw ((am_nod_st1 hnd rfl)) (am_st1_LH hnd hL.1 hl2) hcs)
  · exact h.elim

theorem am_i_lstore_n {k : Fin 4} (hC : am_Ctx p R s m args meth c dC dI dA d M) {P0 : am_P} (hm : ∀ pc L st G nc ns, P0 pc L st G nc ns → am_W p l e R s m args below meth c dC dI dA M A H0 ad0 n0 QW pc L st G nc ns) {C : am_C} {Q : Option Value → am_G → Prop} {X : Nat → am_L → am_G → Nat → Nat → Prop} {pc npc a b t u pos : Nat} {cv : Int32} {cl : Int64} {L : am_L} {st : List Value} {G : am_G} {nc ns : Nat} (hd : decode (am_mb M) pc = .ok (.lstore_n k, am_len (.lstore_n k) (npc - pc))) (hn : npc = pc + am_len (.lstore_n k) (npc - pc)) (hok : am_okX MT M pc (.lstore_n k) a b t u pos cv cl = true) (h : am_ins C M scr Q X P0 pc (.lstore_n k) npc a b t u cv cl L st G nc ns) : am_W p l e R s m args below meth c dC dI dA M A H0 ad0 n0 QW pc L st G nc ns := by
  obtain ⟨hx, hb, hml, hown, hts, hini, hK, hKX, hRc, hRs, hRf, hRl⟩ := hC
  have hn : npc = pc + 1 := hn
  subst hn
  simp only [am_okX, Bool.and_eq_true, decide_eq_true_eq] at hok
  simp only [am_ins] at h
  split at h
  · intro ad H locs ls hrel hn0 hw hnd hL hcs
    exact lv_lstore_n hx hb hd hok.1 hL.2 hok.2 rfl (fun ls2 hl2 => hm _ _ _ _ _ _ h ad H locs ls2 hrel hn0 hw (am_nod_st2 hnd) (am_st2_LH hnd hL.1 hl2) hcs)
  · exact h.elim

theorem am_i_lstore {k : Nat} (hC : am_Ctx p R s m args meth c dC dI dA d M) {P0 : am_P} (hm : ∀ pc L st G nc ns, P0 pc L st G nc ns → am_W p l e R s m args below meth c dC dI dA M A H0 ad0 n0 QW pc L st G nc ns) {C : am_C} {Q : Option Value → am_G → Prop} {X : Nat → am_L → am_G → Nat → Nat → Prop} {pc npc a b t u pos : Nat} {cv : Int32} {cl : Int64} {L : am_L} {st : List Value} {G : am_G} {nc ns : Nat} (hd : decode (am_mb M) pc = .ok (.lstore k, am_len (.lstore k) (npc - pc))) (hn : npc = pc + am_len (.lstore k) (npc - pc)) (hok : am_okX MT M pc (.lstore k) a b t u pos cv cl = true) (h : am_ins C M scr Q X P0 pc (.lstore k) npc a b t u cv cl L st G nc ns) : am_W p l e R s m args below meth c dC dI dA M A H0 ad0 n0 QW pc L st G nc ns := by
  obtain ⟨hx, hb, hml, hown, hts, hini, hK, hKX, hRc, hRs, hRf, hRl⟩ := hC
  have hn : npc = pc + 2 := hn
  subst hn
  simp only [am_okX, Bool.and_eq_true, decide_eq_true_eq] at hok
  simp only [am_ins] at h
  split at h
  · obtain ⟨rfl, hlt⟩ := hok
    intro ad H locs ls hrel hn0 hw hnd hL hcs
    exact lv_lstore hx hb hd hL.2 hlt rfl (fun ls2 hl2 => hm _ _ _ _ _ _ h ad H locs ls2 hrel hn0 hw (am_nod_st2 hnd) (am_st2_LH hnd hL.1 hl2) hcs)
  · exact h.elim

theorem am_i_iinc {k : Nat} {n : Int} (hC : am_Ctx p R s m args meth c dC dI dA d M) {P0 : am_P} (hm : ∀ pc L st G nc ns, P0 pc L st G nc ns → am_W p l e R s m args below meth c dC dI dA M A H0 ad0 n0 QW pc L st G nc ns) {C : am_C} {Q : Option Value → am_G → Prop} {X : Nat → am_L → am_G → Nat → Nat → Prop} {pc npc a b t u pos : Nat} {cv : Int32} {cl : Int64} {L : am_L} {st : List Value} {G : am_G} {nc ns : Nat} (hd : decode (am_mb M) pc = .ok (.iinc k n, am_len (.iinc k n) (npc - pc))) (hn : npc = pc + am_len (.iinc k n) (npc - pc)) (hok : am_okX MT M pc (.iinc k n) a b t u pos cv cl = true) (h : am_ins C M scr Q X P0 pc (.iinc k n) npc a b t u cv cl L st G nc ns) : am_W p l e R s m args below meth c dC dI dA M A H0 ad0 n0 QW pc L st G nc ns := by
  obtain ⟨hx, hb, hml, hown, hts, hini, hK, hKX, hRc, hRs, hRf, hRl⟩ := hC
  have hn : npc = pc + 3 := hn
  subst hn
  simp only [am_okX, Bool.and_eq_true, decide_eq_true_eq] at hok
  obtain ⟨⟨rfl, hv⟩, hlt⟩ := hok
  simp only [am_ins] at h
  split at h
  · rename_i x hq
    intro ad H locs ls hrel hn0 hw hnd hL hcs
    obtain ⟨j, hj⟩ := List.getElem?_of_mem (am_lv_mem.mpr ⟨_, hq, rfl⟩ : ((k, am_cv ad (.int x)) : Nat × Value) ∈ am_lv L ad)
    exact lv_iinc hx hb hd hL.2 hj (by rw [hv]) hlt rfl (fun ls2 hl2 => hm _ _ _ _ _ _ h ad H locs ls2 hrel hn0 hw (am_nod_st1 hnd rfl) (am_st1_LH hnd hL.1 hl2) hcs)
  · exact h.elim

theorem am_i_iadd (hC : am_Ctx p R s m args meth c dC dI dA d M) {P0 : am_P} (hm : ∀ pc L st G nc ns, P0 pc L st G nc ns → am_W p l e R s m args below meth c dC dI dA M A H0 ad0 n0 QW pc L st G nc ns) {C : am_C} {Q : Option Value → am_G → Prop} {X : Nat → am_L → am_G → Nat → Nat → Prop} {pc npc a b t u pos : Nat} {cv : Int32} {cl : Int64} {L : am_L} {st : List Value} {G : am_G} {nc ns : Nat} (hd : decode (am_mb M) pc = .ok (.iadd, am_len (.iadd) (npc - pc))) (hn : npc = pc + am_len (.iadd) (npc - pc)) (hok : am_okX MT M pc (.iadd) a b t u pos cv cl = true) (h : am_ins C M scr Q X P0 pc (.iadd) npc a b t u cv cl L st G nc ns) : am_W p l e R s m args below meth c dC dI dA M A H0 ad0 n0 QW pc L st G nc ns := by
  obtain ⟨hx, hb, hml, hown, hts, hini, hK, hKX, hRc, hRs, hRf, hRl⟩ := hC
  have hn : npc = pc + 1 := hn
  subst hn
  simp only [am_ins] at h
  split at h
  · intro ad H locs ls hrel hn0 hw hnd hL hcs
    exact lv_iadd hx hb hd (hm _ _ _ _ _ _ h ad H locs ls hrel hn0 hw hnd hL hcs)
  · exact h.elim

theorem am_i_isub (hC : am_Ctx p R s m args meth c dC dI dA d M) {P0 : am_P} (hm : ∀ pc L st G nc ns, P0 pc L st G nc ns → am_W p l e R s m args below meth c dC dI dA M A H0 ad0 n0 QW pc L st G nc ns) {C : am_C} {Q : Option Value → am_G → Prop} {X : Nat → am_L → am_G → Nat → Nat → Prop} {pc npc a b t u pos : Nat} {cv : Int32} {cl : Int64} {L : am_L} {st : List Value} {G : am_G} {nc ns : Nat} (hd : decode (am_mb M) pc = .ok (.isub, am_len (.isub) (npc - pc))) (hn : npc = pc + am_len (.isub) (npc - pc)) (hok : am_okX MT M pc (.isub) a b t u pos cv cl = true) (h : am_ins C M scr Q X P0 pc (.isub) npc a b t u cv cl L st G nc ns) : am_W p l e R s m args below meth c dC dI dA M A H0 ad0 n0 QW pc L st G nc ns := by
  obtain ⟨hx, hb, hml, hown, hts, hini, hK, hKX, hRc, hRs, hRf, hRl⟩ := hC
  have hn : npc = pc + 1 := hn
  subst hn
  simp only [am_ins] at h
  split at h
  · intro ad H locs ls hrel hn0 hw hnd hL hcs
    exact lv_isub hx hb hd (hm _ _ _ _ _ _ h ad H locs ls hrel hn0 hw hnd hL hcs)
  · exact h.elim

theorem am_i_imul (hC : am_Ctx p R s m args meth c dC dI dA d M) {P0 : am_P} (hm : ∀ pc L st G nc ns, P0 pc L st G nc ns → am_W p l e R s m args below meth c dC dI dA M A H0 ad0 n0 QW pc L st G nc ns) {C : am_C} {Q : Option Value → am_G → Prop} {X : Nat → am_L → am_G → Nat → Nat → Prop} {pc npc a b t u pos : Nat} {cv : Int32} {cl : Int64} {L : am_L} {st : List Value} {G : am_G} {nc ns : Nat} (hd : decode (am_mb M) pc = .ok (.imul, am_len (.imul) (npc - pc))) (hn : npc = pc + am_len (.imul) (npc - pc)) (hok : am_okX MT M pc (.imul) a b t u pos cv cl = true) (h : am_ins C M scr Q X P0 pc (.imul) npc a b t u cv cl L st G nc ns) : am_W p l e R s m args below meth c dC dI dA M A H0 ad0 n0 QW pc L st G nc ns := by
  obtain ⟨hx, hb, hml, hown, hts, hini, hK, hKX, hRc, hRs, hRf, hRl⟩ := hC
  have hn : npc = pc + 1 := hn
  subst hn
  simp only [am_ins] at h
  split at h
  · intro ad H locs ls hrel hn0 hw hnd hL hcs
    exact lv_imul hx hb hd (hm _ _ _ _ _ _ h ad H locs ls hrel hn0 hw hnd hL hcs)
  · exact h.elim

theorem am_i_iand (hC : am_Ctx p R s m args meth c dC dI dA d M) {P0 : am_P} (hm : ∀ pc L st G nc ns, P0 pc L st G nc ns → am_W p l e R s m args below meth c dC dI dA M A H0 ad0 n0 QW pc L st G nc ns) {C : am_C} {Q : Option Value → am_G → Prop} {X : Nat → am_L → am_G → Nat → Nat → Prop} {pc npc a b t u pos : Nat} {cv : Int32} {cl : Int64} {L : am_L} {st : List Value} {G : am_G} {nc ns : Nat} (hd : decode (am_mb M) pc = .ok (.iand, am_len (.iand) (npc - pc))) (hn : npc = pc + am_len (.iand) (npc - pc)) (hok : am_okX MT M pc (.iand) a b t u pos cv cl = true) (h : am_ins C M scr Q X P0 pc (.iand) npc a b t u cv cl L st G nc ns) : am_W p l e R s m args below meth c dC dI dA M A H0 ad0 n0 QW pc L st G nc ns := by
  obtain ⟨hx, hb, hml, hown, hts, hini, hK, hKX, hRc, hRs, hRf, hRl⟩ := hC
  have hn : npc = pc + 1 := hn
  subst hn
  simp only [am_ins] at h
  split at h
  · intro ad H locs ls hrel hn0 hw hnd hL hcs
    exact lv_iand hx hb hd (hm _ _ _ _ _ _ h ad H locs ls hrel hn0 hw hnd hL hcs)
  · exact h.elim

theorem am_i_ior (hC : am_Ctx p R s m args meth c dC dI dA d M) {P0 : am_P} (hm : ∀ pc L st G nc ns, P0 pc L st G nc ns → am_W p l e R s m args below meth c dC dI dA M A H0 ad0 n0 QW pc L st G nc ns) {C : am_C} {Q : Option Value → am_G → Prop} {X : Nat → am_L → am_G → Nat → Nat → Prop} {pc npc a b t u pos : Nat} {cv : Int32} {cl : Int64} {L : am_L} {st : List Value} {G : am_G} {nc ns : Nat} (hd : decode (am_mb M) pc = .ok (.ior, am_len (.ior) (npc - pc))) (hn : npc = pc + am_len (.ior) (npc - pc)) (hok : am_okX MT M pc (.ior) a b t u pos cv cl = true) (h : am_ins C M scr Q X P0 pc (.ior) npc a b t u cv cl L st G nc ns) : am_W p l e R s m args below meth c dC dI dA M A H0 ad0 n0 QW pc L st G nc ns := by
  obtain ⟨hx, hb, hml, hown, hts, hini, hK, hKX, hRc, hRs, hRf, hRl⟩ := hC
  have hn : npc = pc + 1 := hn
  subst hn
  simp only [am_ins] at h
  split at h
  · intro ad H locs ls hrel hn0 hw hnd hL hcs
    exact lv_ior hx hb hd (hm _ _ _ _ _ _ h ad H locs ls hrel hn0 hw hnd hL hcs)
  · exact h.elim

theorem am_i_ixor (hC : am_Ctx p R s m args meth c dC dI dA d M) {P0 : am_P} (hm : ∀ pc L st G nc ns, P0 pc L st G nc ns → am_W p l e R s m args below meth c dC dI dA M A H0 ad0 n0 QW pc L st G nc ns) {C : am_C} {Q : Option Value → am_G → Prop} {X : Nat → am_L → am_G → Nat → Nat → Prop} {pc npc a b t u pos : Nat} {cv : Int32} {cl : Int64} {L : am_L} {st : List Value} {G : am_G} {nc ns : Nat} (hd : decode (am_mb M) pc = .ok (.ixor, am_len (.ixor) (npc - pc))) (hn : npc = pc + am_len (.ixor) (npc - pc)) (hok : am_okX MT M pc (.ixor) a b t u pos cv cl = true) (h : am_ins C M scr Q X P0 pc (.ixor) npc a b t u cv cl L st G nc ns) : am_W p l e R s m args below meth c dC dI dA M A H0 ad0 n0 QW pc L st G nc ns := by
  obtain ⟨hx, hb, hml, hown, hts, hini, hK, hKX, hRc, hRs, hRf, hRl⟩ := hC
  have hn : npc = pc + 1 := hn
  subst hn
  simp only [am_ins] at h
  split at h
  · intro ad H locs ls hrel hn0 hw hnd hL hcs
    exact lv_ixor hx hb hd (hm _ _ _ _ _ _ h ad H locs ls hrel hn0 hw hnd hL hcs)
  · exact h.elim

theorem am_i_ishl (hC : am_Ctx p R s m args meth c dC dI dA d M) {P0 : am_P} (hm : ∀ pc L st G nc ns, P0 pc L st G nc ns → am_W p l e R s m args below meth c dC dI dA M A H0 ad0 n0 QW pc L st G nc ns) {C : am_C} {Q : Option Value → am_G → Prop} {X : Nat → am_L → am_G → Nat → Nat → Prop} {pc npc a b t u pos : Nat} {cv : Int32} {cl : Int64} {L : am_L} {st : List Value} {G : am_G} {nc ns : Nat} (hd : decode (am_mb M) pc = .ok (.ishl, am_len (.ishl) (npc - pc))) (hn : npc = pc + am_len (.ishl) (npc - pc)) (hok : am_okX MT M pc (.ishl) a b t u pos cv cl = true) (h : am_ins C M scr Q X P0 pc (.ishl) npc a b t u cv cl L st G nc ns) : am_W p l e R s m args below meth c dC dI dA M A H0 ad0 n0 QW pc L st G nc ns := by
  obtain ⟨hx, hb, hml, hown, hts, hini, hK, hKX, hRc, hRs, hRf, hRl⟩ := hC
  have hn : npc = pc + 1 := hn
  subst hn
  simp only [am_ins] at h
  split at h
  · intro ad H locs ls hrel hn0 hw hnd hL hcs
    exact lv_ishl hx hb hd (hm _ _ _ _ _ _ h ad H locs ls hrel hn0 hw hnd hL hcs)
  · exact h.elim

theorem am_i_ishr (hC : am_Ctx p R s m args meth c dC dI dA d M) {P0 : am_P} (hm : ∀ pc L st G nc ns, P0 pc L st G nc ns → am_W p l e R s m args below meth c dC dI dA M A H0 ad0 n0 QW pc L st G nc ns) {C : am_C} {Q : Option Value → am_G → Prop} {X : Nat → am_L → am_G → Nat → Nat → Prop} {pc npc a b t u pos : Nat} {cv : Int32} {cl : Int64} {L : am_L} {st : List Value} {G : am_G} {nc ns : Nat} (hd : decode (am_mb M) pc = .ok (.ishr, am_len (.ishr) (npc - pc))) (hn : npc = pc + am_len (.ishr) (npc - pc)) (hok : am_okX MT M pc (.ishr) a b t u pos cv cl = true) (h : am_ins C M scr Q X P0 pc (.ishr) npc a b t u cv cl L st G nc ns) : am_W p l e R s m args below meth c dC dI dA M A H0 ad0 n0 QW pc L st G nc ns := by
  obtain ⟨hx, hb, hml, hown, hts, hini, hK, hKX, hRc, hRs, hRf, hRl⟩ := hC
  have hn : npc = pc + 1 := hn
  subst hn
  simp only [am_ins] at h
  split at h
  · intro ad H locs ls hrel hn0 hw hnd hL hcs
    exact lv_ishr hx hb hd (hm _ _ _ _ _ _ h ad H locs ls hrel hn0 hw hnd hL hcs)
  · exact h.elim

theorem am_i_ladd (hC : am_Ctx p R s m args meth c dC dI dA d M) {P0 : am_P} (hm : ∀ pc L st G nc ns, P0 pc L st G nc ns → am_W p l e R s m args below meth c dC dI dA M A H0 ad0 n0 QW pc L st G nc ns) {C : am_C} {Q : Option Value → am_G → Prop} {X : Nat → am_L → am_G → Nat → Nat → Prop} {pc npc a b t u pos : Nat} {cv : Int32} {cl : Int64} {L : am_L} {st : List Value} {G : am_G} {nc ns : Nat} (hd : decode (am_mb M) pc = .ok (.ladd, am_len (.ladd) (npc - pc))) (hn : npc = pc + am_len (.ladd) (npc - pc)) (hok : am_okX MT M pc (.ladd) a b t u pos cv cl = true) (h : am_ins C M scr Q X P0 pc (.ladd) npc a b t u cv cl L st G nc ns) : am_W p l e R s m args below meth c dC dI dA M A H0 ad0 n0 QW pc L st G nc ns := by
  obtain ⟨hx, hb, hml, hown, hts, hini, hK, hKX, hRc, hRs, hRf, hRl⟩ := hC
  have hn : npc = pc + 1 := hn
  subst hn
  simp only [am_ins] at h
  split at h
  · intro ad H locs ls hrel hn0 hw hnd hL hcs
    exact lv_ladd hx hb hd (hm _ _ _ _ _ _ h ad H locs ls hrel hn0 hw hnd hL hcs)
  · exact h.elim

theorem am_i_lsub (hC : am_Ctx p R s m args meth c dC dI dA d M) {P0 : am_P} (hm : ∀ pc L st G nc ns, P0 pc L st G nc ns → am_W p l e R s m args below meth c dC dI dA M A H0 ad0 n0 QW pc L st G nc ns) {C : am_C} {Q : Option Value → am_G → Prop} {X : Nat → am_L → am_G → Nat → Nat → Prop} {pc npc a b t u pos : Nat} {cv : Int32} {cl : Int64} {L : am_L} {st : List Value} {G : am_G} {nc ns : Nat} (hd : decode (am_mb M) pc = .ok (.lsub, am_len (.lsub) (npc - pc))) (hn : npc = pc + am_len (.lsub) (npc - pc)) (hok : am_okX MT M pc (.lsub) a b t u pos cv cl = true) (h : am_ins C M scr Q X P0 pc (.lsub) npc a b t u cv cl L st G nc ns) : am_W p l e R s m args below meth c dC dI dA M A H0 ad0 n0 QW pc L st G nc ns := by
  obtain ⟨hx, hb, hml, hown, hts, hini, hK, hKX, hRc, hRs, hRf, hRl⟩ := hC
  have hn : npc = pc + 1 := hn
  subst hn
  simp only [am_ins] at h
  split at h
  · intro ad H locs ls hrel hn0 hw hnd hL hcs
    exact lv_lsub hx hb hd (hm _ _ _ _ _ _ h ad H locs ls hrel hn0 hw hnd hL hcs)
  · exact h.elim

theorem am_i_lmul (hC : am_Ctx p R s m args meth c dC dI dA d M) {P0 : am_P} (hm : ∀ pc L st G nc ns, P0 pc L st G nc ns → am_W p l e R s m args below meth c dC dI dA M A H0 ad0 n0 QW pc L st G nc ns) {C : am_C} {Q : Option Value → am_G → Prop} {X : Nat → am_L → am_G → Nat → Nat → Prop} {pc npc a b t u pos : Nat} {cv : Int32} {cl : Int64} {L : am_L} {st : List Value} {G : am_G} {nc ns : Nat} (hd : decode (am_mb M) pc = .ok (.lmul, am_len (.lmul) (npc - pc))) (hn : npc = pc + am_len (.lmul) (npc - pc)) (hok : am_okX MT M pc (.lmul) a b t u pos cv cl = true) (h : am_ins C M scr Q X P0 pc (.lmul) npc a b t u cv cl L st G nc ns) : am_W p l e R s m args below meth c dC dI dA M A H0 ad0 n0 QW pc L st G nc ns := by
  obtain ⟨hx, hb, hml, hown, hts, hini, hK, hKX, hRc, hRs, hRf, hRl⟩ := hC
  have hn : npc = pc + 1 := hn
  subst hn
  simp only [am_ins] at h
  split at h
  · intro ad H locs ls hrel hn0 hw hnd hL hcs
    exact lv_lmul hx hb hd (hm _ _ _ _ _ _ h ad H locs ls hrel hn0 hw hnd hL hcs)
  · exact h.elim

theorem am_i_ineg (hC : am_Ctx p R s m args meth c dC dI dA d M) {P0 : am_P} (hm : ∀ pc L st G nc ns, P0 pc L st G nc ns → am_W p l e R s m args below meth c dC dI dA M A H0 ad0 n0 QW pc L st G nc ns) {C : am_C} {Q : Option Value → am_G → Prop} {X : Nat → am_L → am_G → Nat → Nat → Prop} {pc npc a b t u pos : Nat} {cv : Int32} {cl : Int64} {L : am_L} {st : List Value} {G : am_G} {nc ns : Nat} (hd : decode (am_mb M) pc = .ok (.ineg, am_len (.ineg) (npc - pc))) (hn : npc = pc + am_len (.ineg) (npc - pc)) (hok : am_okX MT M pc (.ineg) a b t u pos cv cl = true) (h : am_ins C M scr Q X P0 pc (.ineg) npc a b t u cv cl L st G nc ns) : am_W p l e R s m args below meth c dC dI dA M A H0 ad0 n0 QW pc L st G nc ns := by
  obtain ⟨hx, hb, hml, hown, hts, hini, hK, hKX, hRc, hRs, hRf, hRl⟩ := hC
  have hn : npc = pc + 1 := hn
  subst hn
  simp only [am_ins] at h
  split at h
  · intro ad H locs ls hrel hn0 hw hnd hL hcs
    exact lv_ineg hx hb hd (hm _ _ _ _ _ _ h ad H locs ls hrel hn0 hw hnd hL hcs)
  · exact h.elim

theorem am_i_lneg (hC : am_Ctx p R s m args meth c dC dI dA d M) {P0 : am_P} (hm : ∀ pc L st G nc ns, P0 pc L st G nc ns → am_W p l e R s m args below meth c dC dI dA M A H0 ad0 n0 QW pc L st G nc ns) {C : am_C} {Q : Option Value → am_G → Prop} {X : Nat → am_L → am_G → Nat → Nat → Prop} {pc npc a b t u pos : Nat} {cv : Int32} {cl : Int64} {L : am_L} {st : List Value} {G : am_G} {nc ns : Nat} (hd : decode (am_mb M) pc = .ok (.lneg, am_len (.lneg) (npc - pc))) (hn : npc = pc + am_len (.lneg) (npc - pc)) (hok : am_okX MT M pc (.lneg) a b t u pos cv cl = true) (h : am_ins C M scr Q X P0 pc (.lneg) npc a b t u cv cl L st G nc ns) : am_W p l e R s m args below meth c dC dI dA M A H0 ad0 n0 QW pc L st G nc ns := by
  obtain ⟨hx, hb, hml, hown, hts, hini, hK, hKX, hRc, hRs, hRf, hRl⟩ := hC
  have hn : npc = pc + 1 := hn
  subst hn
  simp only [am_ins] at h
  split at h
  · intro ad H locs ls hrel hn0 hw hnd hL hcs
    exact lv_lneg hx hb hd (hm _ _ _ _ _ _ h ad H locs ls hrel hn0 hw hnd hL hcs)
  · exact h.elim

theorem am_i_lcmp (hC : am_Ctx p R s m args meth c dC dI dA d M) {P0 : am_P} (hm : ∀ pc L st G nc ns, P0 pc L st G nc ns → am_W p l e R s m args below meth c dC dI dA M A H0 ad0 n0 QW pc L st G nc ns) {C : am_C} {Q : Option Value → am_G → Prop} {X : Nat → am_L → am_G → Nat → Nat → Prop} {pc npc a b t u pos : Nat} {cv : Int32} {cl : Int64} {L : am_L} {st : List Value} {G : am_G} {nc ns : Nat} (hd : decode (am_mb M) pc = .ok (.lcmp, am_len (.lcmp) (npc - pc))) (hn : npc = pc + am_len (.lcmp) (npc - pc)) (hok : am_okX MT M pc (.lcmp) a b t u pos cv cl = true) (h : am_ins C M scr Q X P0 pc (.lcmp) npc a b t u cv cl L st G nc ns) : am_W p l e R s m args below meth c dC dI dA M A H0 ad0 n0 QW pc L st G nc ns := by
  obtain ⟨hx, hb, hml, hown, hts, hini, hK, hKX, hRc, hRs, hRf, hRl⟩ := hC
  have hn : npc = pc + 1 := hn
  subst hn
  simp only [am_ins] at h
  split at h
  · intro ad H locs ls hrel hn0 hw hnd hL hcs
    exact W.lcmp hx hb hd (hm _ _ _ _ _ _ h ad H locs ls hrel hn0 hw hnd hL hcs)
  · exact h.elim

theorem am_i_iushr (hC : am_Ctx p R s m args meth c dC dI dA d M) {P0 : am_P} (hm : ∀ pc L st G nc ns, P0 pc L st G nc ns → am_W p l e R s m args below meth c dC dI dA M A H0 ad0 n0 QW pc L st G nc ns) {C : am_C} {Q : Option Value → am_G → Prop} {X : Nat → am_L → am_G → Nat → Nat → Prop} {pc npc a b t u pos : Nat} {cv : Int32} {cl : Int64} {L : am_L} {st : List Value} {G : am_G} {nc ns : Nat} (hd : decode (am_mb M) pc = .ok (.iushr, am_len (.iushr) (npc - pc))) (hn : npc = pc + am_len (.iushr) (npc - pc)) (hok : am_okX MT M pc (.iushr) a b t u pos cv cl = true) (h : am_ins C M scr Q X P0 pc (.iushr) npc a b t u cv cl L st G nc ns) : am_W p l e R s m args below meth c dC dI dA M A H0 ad0 n0 QW pc L st G nc ns := by
  obtain ⟨hx, hb, hml, hown, hts, hini, hK, hKX, hRc, hRs, hRf, hRl⟩ := hC
  have hn : npc = pc + 1 := hn
  subst hn
  simp only [am_ins] at h
  split at h
  · intro ad H locs ls hrel hn0 hw hnd hL hcs
    exact lv_iushr hx hb hd rfl (hm _ _ _ _ _ _ h ad H locs ls hrel hn0 hw hnd hL hcs)
  · exact h.elim

theorem am_i_i2l (hC : am_Ctx p R s m args meth c dC dI dA d M) {P0 : am_P} (hm : ∀ pc L st G nc ns, P0 pc L st G nc ns → am_W p l e R s m args below meth c dC dI dA M A H0 ad0 n0 QW pc L st G nc ns) {C : am_C} {Q : Option Value → am_G → Prop} {X : Nat → am_L → am_G → Nat → Nat → Prop} {pc npc a b t u pos : Nat} {cv : Int32} {cl : Int64} {L : am_L} {st : List Value} {G : am_G} {nc ns : Nat} (hd : decode (am_mb M) pc = .ok (.i2l, am_len (.i2l) (npc - pc))) (hn : npc = pc + am_len (.i2l) (npc - pc)) (hok : am_okX MT M pc (.i2l) a b t u pos cv cl = true) (h : am_ins C M scr Q X P0 pc (.i2l) npc a b t u cv cl L st G nc ns) : am_W p l e R s m args below meth c dC dI dA M A H0 ad0 n0 QW pc L st G nc ns := by
  obtain ⟨hx, hb, hml, hown, hts, hini, hK, hKX, hRc, hRs, hRf, hRl⟩ := hC
  have hn : npc = pc + 1 := hn
  subst hn
  simp only [am_ins] at h
  split at h
  · intro ad H locs ls hrel hn0 hw hnd hL hcs
    exact lv_i2l hx hb hd rfl (hm _ _ _ _ _ _ h ad H locs ls hrel hn0 hw hnd hL hcs)
  · exact h.elim

theorem am_i_i2b (hC : am_Ctx p R s m args meth c dC dI dA d M) {P0 : am_P} (hm : ∀ pc L st G nc ns, P0 pc L st G nc ns → am_W p l e R s m args below meth c dC dI dA M A H0 ad0 n0 QW pc L st G nc ns) {C : am_C} {Q : Option Value → am_G → Prop} {X : Nat → am_L → am_G → Nat → Nat → Prop} {pc npc a b t u pos : Nat} {cv : Int32} {cl : Int64} {L : am_L} {st : List Value} {G : am_G} {nc ns : Nat} (hd : decode (am_mb M) pc = .ok (.i2b, am_len (.i2b) (npc - pc))) (hn : npc = pc + am_len (.i2b) (npc - pc)) (hok : am_okX MT M pc (.i2b) a b t u pos cv cl = true) (h : am_ins C M scr Q X P0 pc (.i2b) npc a b t u cv cl L st G nc ns) : am_W p l e R s m args below meth c dC dI dA M A H0 ad0 n0 QW pc L st G nc ns := by
  obtain ⟨hx, hb, hml, hown, hts, hini, hK, hKX, hRc, hRs, hRf, hRl⟩ := hC
  have hn : npc = pc + 1 := hn
  subst hn
  simp only [am_ins] at h
  split at h
  · intro ad H locs ls hrel hn0 hw hnd hL hcs
    exact lv_i2b hx hb hd rfl (hm _ _ _ _ _ _ h ad H locs ls hrel hn0 hw hnd hL hcs)
  · exact h.elim

theorem am_i_i2s (hC : am_Ctx p R s m args meth c dC dI dA d M) {P0 : am_P} (hm : ∀ pc L st G nc ns, P0 pc L st G nc ns → am_W p l e R s m args below meth c dC dI dA M A H0 ad0 n0 QW pc L st G nc ns) {C : am_C} {Q : Option Value → am_G → Prop} {X : Nat → am_L → am_G → Nat → Nat → Prop} {pc npc a b t u pos : Nat} {cv : Int32} {cl : Int64} {L : am_L} {st : List Value} {G : am_G} {nc ns : Nat} (hd : decode (am_mb M) pc = .ok (.i2s, am_len (.i2s) (npc - pc))) (hn : npc = pc + am_len (.i2s) (npc - pc)) (hok : am_okX MT M pc (.i2s) a b t u pos cv cl = true) (h : am_ins C M scr Q X P0 pc (.i2s) npc a b t u cv cl L st G nc ns) : am_W p l e R s m args below meth c dC dI dA M A H0 ad0 n0 QW pc L st G nc ns := by
  obtain ⟨hx, hb, hml, hown, hts, hini, hK, hKX, hRc, hRs, hRf, hRl⟩ := hC
  have hn : npc = pc + 1 := hn
  subst hn
  simp only [am_ins] at h
  split at h
  · intro ad H locs ls hrel hn0 hw hnd hL hcs
    exact lv_i2s hx hb hd rfl (hm _ _ _ _ _ _ h ad H locs ls hrel hn0 hw hnd hL hcs)
  · exact h.elim

theorem am_i_i2c (hC : am_Ctx p R s m args meth c dC dI dA d M) {P0 : am_P} (hm : ∀ pc L st G nc ns, P0 pc L st G nc ns → am_W p l e R s m args below meth c dC dI dA M A H0 ad0 n0 QW pc L st G nc ns) {C : am_C} {Q : Option Value → am_G → Prop} {X : Nat → am_L → am_G → Nat → Nat → Prop} {pc npc a b t u pos : Nat} {cv : Int32} {cl : Int64} {L : am_L} {st : List Value} {G : am_G} {nc ns : Nat} (hd : decode (am_mb M) pc = .ok (.i2c, am_len (.i2c) (npc - pc))) (hn : npc = pc + am_len (.i2c) (npc - pc)) (hok : am_okX MT M pc (.i2c) a b t u pos cv cl = true) (h : am_ins C M scr Q X P0 pc (.i2c) npc a b t u cv cl L st G nc ns) : am_W p l e R s m args below meth c dC dI dA M A H0 ad0 n0 QW pc L st G nc ns := by
  obtain ⟨hx, hb, hml, hown, hts, hini, hK, hKX, hRc, hRs, hRf, hRl⟩ := hC
  have hn : npc = pc + 1 := hn
  subst hn
  simp only [am_ins] at h
  split at h
  · intro ad H locs ls hrel hn0 hw hnd hL hcs
    exact lv_i2c hx hb hd rfl (hm _ _ _ _ _ _ h ad H locs ls hrel hn0 hw hnd hL hcs)
  · exact h.elim

theorem am_i_idiv (hC : am_Ctx p R s m args meth c dC dI dA d M) {P0 : am_P} (hm : ∀ pc L st G nc ns, P0 pc L st G nc ns → am_W p l e R s m args below meth c dC dI dA M A H0 ad0 n0 QW pc L st G nc ns) {C : am_C} {Q : Option Value → am_G → Prop} {X : Nat → am_L → am_G → Nat → Nat → Prop} {pc npc a b t u pos : Nat} {cv : Int32} {cl : Int64} {L : am_L} {st : List Value} {G : am_G} {nc ns : Nat} (hd : decode (am_mb M) pc = .ok (.idiv, am_len (.idiv) (npc - pc))) (hn : npc = pc + am_len (.idiv) (npc - pc)) (hok : am_okX MT M pc (.idiv) a b t u pos cv cl = true) (h : am_ins C M scr Q X P0 pc (.idiv) npc a b t u cv cl L st G nc ns) : am_W p l e R s m args below meth c dC dI dA M A H0 ad0 n0 QW pc L st G nc ns := by
  obtain ⟨hx, hb, hml, hown, hts, hini, hK, hKX, hRc, hRs, hRf, hRl⟩ := hC
  have hn : npc = pc + 1 := hn
  subst hn
  simp only [am_ins] at h
  split at h
  · intro ad H locs ls hrel hn0 hw hnd hL hcs
    exact lv_idiv hx hb hd h.1 (hm _ _ _ _ _ _ h.2 ad H locs ls hrel hn0 hw hnd hL hcs)
  · exact h.elim

theorem am_i_irem (hC : am_Ctx p R s m args meth c dC dI dA d M) {P0 : am_P} (hm : ∀ pc L st G nc ns, P0 pc L st G nc ns → am_W p l e R s m args below meth c dC dI dA M A H0 ad0 n0 QW pc L st G nc ns) {C : am_C} {Q : Option Value → am_G → Prop} {X : Nat → am_L → am_G → Nat → Nat → Prop} {pc npc a b t u pos : Nat} {cv : Int32} {cl : Int64} {L : am_L} {st : List Value} {G : am_G} {nc ns : Nat} (hd : decode (am_mb M) pc = .ok (.irem, am_len (.irem) (npc - pc))) (hn : npc = pc + am_len (.irem) (npc - pc)) (hok : am_okX MT M pc (.irem) a b t u pos cv cl = true) (h : am_ins C M scr Q X P0 pc (.irem) npc a b t u cv cl L st G nc ns) : am_W p l e R s m args below meth c dC dI dA M A H0 ad0 n0 QW pc L st G nc ns := by
  obtain ⟨hx, hb, hml, hown, hts, hini, hK, hKX, hRc, hRs, hRf, hRl⟩ := hC
  have hn : npc = pc + 1 := hn
  subst hn
  simp only [am_ins] at h
  split at h
  · intro ad H locs ls hrel hn0 hw hnd hL hcs
    exact lv_irem hx hb hd h.1 (hm _ _ _ _ _ _ h.2 ad H locs ls hrel hn0 hw hnd hL hcs)
  · exact h.elim

theorem am_i_ldiv (hC : am_Ctx p R s m args meth c dC dI dA d M) {P0 : am_P} (hm : ∀ pc L st G nc ns, P0 pc L st G nc ns → am_W p l e R s m args below meth c dC dI dA M A H0 ad0 n0 QW pc L st G nc ns) {C : am_C} {Q : Option Value → am_G → Prop} {X : Nat → am_L → am_G → Nat → Nat → Prop} {pc npc a b t u pos : Nat} {cv : Int32} {cl : Int64} {L : am_L} {st : List Value} {G : am_G} {nc ns : Nat} (hd : decode (am_mb M) pc = .ok (.ldiv, am_len (.ldiv) (npc - pc))) (hn : npc = pc + am_len (.ldiv) (npc - pc)) (hok : am_okX MT M pc (.ldiv) a b t u pos cv cl = true) (h : am_ins C M scr Q X P0 pc (.ldiv) npc a b t u cv cl L st G nc ns) : am_W p l e R s m args below meth c dC dI dA M A H0 ad0 n0 QW pc L st G nc ns := by
  obtain ⟨hx, hb, hml, hown, hts, hini, hK, hKX, hRc, hRs, hRf, hRl⟩ := hC
  have hn : npc = pc + 1 := hn
  subst hn
  simp only [am_ins] at h
  split at h
  · intro ad H locs ls hrel hn0 hw hnd hL hcs
    exact lv_ldiv hx hb hd h.1 (hm _ _ _ _ _ _ h.2 ad H locs ls hrel hn0 hw hnd hL hcs)
  · exact h.elim

theorem am_i_lrem (hC : am_Ctx p R s m args meth c dC dI dA d M) {P0 : am_P} (hm : ∀ pc L st G nc ns, P0 pc L st G nc ns → am_W p l e R s m args below meth c dC dI dA M A H0 ad0 n0 QW pc L st G nc ns) {C : am_C} {Q : Option Value → am_G → Prop} {X : Nat → am_L → am_G → Nat → Nat → Prop} {pc npc a b t u pos : Nat} {cv : Int32} {cl : Int64} {L : am_L} {st : List Value} {G : am_G} {nc ns : Nat} (hd : decode (am_mb M) pc = .ok (.lrem, am_len (.lrem) (npc - pc))) (hn : npc = pc + am_len (.lrem) (npc - pc)) (hok : am_okX MT M pc (.lrem) a b t u pos cv cl = true) (h : am_ins C M scr Q X P0 pc (.lrem) npc a b t u cv cl L st G nc ns) : am_W p l e R s m args below meth c dC dI dA M A H0 ad0 n0 QW pc L st G nc ns := by
  obtain ⟨hx, hb, hml, hown, hts, hini, hK, hKX, hRc, hRs, hRf, hRl⟩ := hC
  have hn : npc = pc + 1 := hn
  subst hn
  simp only [am_ins] at h
  split at h
  · intro ad H locs ls hrel hn0 hw hnd hL hcs
    exact lv_lrem hx hb hd h.1 (hm _ _ _ _ _ _ h.2 ad H locs ls hrel hn0 hw hnd hL hcs)
  · exact h.elim

theorem am_i_dup (hC : am_Ctx p R s m args meth c dC dI dA d M) {P0 : am_P} (hm : ∀ pc L st G nc ns, P0 pc L st G nc ns → am_W p l e R s m args below meth c dC dI dA M A H0 ad0 n0 QW pc L st G nc ns) {C : am_C} {Q : Option Value → am_G → Prop} {X : Nat → am_L → am_G → Nat → Nat → Prop} {pc npc a b t u pos : Nat} {cv : Int32} {cl : Int64} {L : am_L} {st : List Value} {G : am_G} {nc ns : Nat} (hd : decode (am_mb M) pc = .ok (.dup, am_len (.dup) (npc - pc))) (hn : npc = pc + am_len (.dup) (npc - pc)) (hok : am_okX MT M pc (.dup) a b t u pos cv cl = true) (h : am_ins C M scr Q X P0 pc (.dup) npc a b t u cv cl L st G nc ns) : am_W p l e R s m args below meth c dC dI dA M A H0 ad0 n0 QW pc L st G nc ns := by
  obtain ⟨hx, hb, hml, hown, hts, hini, hK, hKX, hRc, hRs, hRf, hRl⟩ := hC
  have hn : npc = pc + 1 := hn
  subst hn
  simp only [am_ins] at h
  split at h
  · split at h
    · rename_i v _ _ hc
      intro ad H locs ls hrel hn0 hw hnd hL hcs
      exact lv_dup hx hb hd ((am_cat ad v).trans hc) (hm _ _ _ _ _ _ h ad H locs ls hrel hn0 hw hnd hL hcs)
    · exact h.elim
  · exact h.elim

theorem am_i_pop (hC : am_Ctx p R s m args meth c dC dI dA d M) {P0 : am_P} (hm : ∀ pc L st G nc ns, P0 pc L st G nc ns → am_W p l e R s m args below meth c dC dI dA M A H0 ad0 n0 QW pc L st G nc ns) {C : am_C} {Q : Option Value → am_G → Prop} {X : Nat → am_L → am_G → Nat → Nat → Prop} {pc npc a b t u pos : Nat} {cv : Int32} {cl : Int64} {L : am_L} {st : List Value} {G : am_G} {nc ns : Nat} (hd : decode (am_mb M) pc = .ok (.pop, am_len (.pop) (npc - pc))) (hn : npc = pc + am_len (.pop) (npc - pc)) (hok : am_okX MT M pc (.pop) a b t u pos cv cl = true) (h : am_ins C M scr Q X P0 pc (.pop) npc a b t u cv cl L st G nc ns) : am_W p l e R s m args below meth c dC dI dA M A H0 ad0 n0 QW pc L st G nc ns := by
  obtain ⟨hx, hb, hml, hown, hts, hini, hK, hKX, hRc, hRs, hRf, hRl⟩ := hC
  have hn : npc = pc + 1 := hn
  subst hn
  simp only [am_ins] at h
  split at h
  · split at h
    · rename_i v _ _ hc
      intro ad H locs ls hrel hn0 hw hnd hL hcs
      exact lv_pop hx hb hd ((am_cat ad v).trans hc) (hm _ _ _ _ _ _ h ad H locs ls hrel hn0 hw hnd hL hcs)
    · exact h.elim
  · exact h.elim

theorem am_i_dup2 (hC : am_Ctx p R s m args meth c dC dI dA d M) {P0 : am_P} (hm : ∀ pc L st G nc ns, P0 pc L st G nc ns → am_W p l e R s m args below meth c dC dI dA M A H0 ad0 n0 QW pc L st G nc ns) {C : am_C} {Q : Option Value → am_G → Prop} {X : Nat → am_L → am_G → Nat → Nat → Prop} {pc npc a b t u pos : Nat} {cv : Int32} {cl : Int64} {L : am_L} {st : List Value} {G : am_G} {nc ns : Nat} (hd : decode (am_mb M) pc = .ok (.dup2, am_len (.dup2) (npc - pc))) (hn : npc = pc + am_len (.dup2) (npc - pc)) (hok : am_okX MT M pc (.dup2) a b t u pos cv cl = true) (h : am_ins C M scr Q X P0 pc (.dup2) npc a b t u cv cl L st G nc ns) : am_W p l e R s m args below meth c dC dI dA M A H0 ad0 n0 QW pc L st G nc ns := by
  obtain ⟨hx, hb, hml, hown, hts, hini, hK, hKX, hRc, hRs, hRf, hRl⟩ := hC
  have hn : npc = pc + 1 := hn
  subst hn
  simp only [am_ins] at h
  split at h
  · split at h
    · rename_i v w _ _ _ hc1 hc2
      intro ad H locs ls hrel hn0 hw hnd hL hcs
      exact lv_dup2_11 hx hb hd ((am_cat ad v).trans hc1) ((am_cat ad w).trans hc2) (hm _ _ _ _ _ _ h ad H locs ls hrel hn0 hw hnd hL hcs)
    · exact h.elim
  · exact h.elim

theorem am_i_ifCond {o : Jvm.ClassFile.Cond} {off : Int} (hC : am_Ctx p R s m args meth c dC dI dA d M) {P0 : am_P} (hm : ∀ pc L st G nc ns, P0 pc L st G nc ns → am_W p l e R s m args below meth c dC dI dA M A H0 ad0 n0 QW pc L st G nc ns) {C : am_C} {Q : Option Value → am_G → Prop} {X : Nat → am_L → am_G → Nat → Nat → Prop} {pc npc a b t u pos : Nat} {cv : Int32} {cl : Int64} {L : am_L} {st : List Value} {G : am_G} {nc ns : Nat} (hd : decode (am_mb M) pc = .ok (.ifCond o off, am_len (.ifCond o off) (npc - pc))) (hn : npc = pc + am_len (.ifCond o off) (npc - pc)) (hok : am_okX MT M pc (.ifCond o off) a b t u pos cv cl = true) (h : am_ins C M scr Q X P0 pc (.ifCond o off) npc a b t u cv cl L st G nc ns) : am_W p l e R s m args below meth c dC dI dA M A H0 ad0 n0 QW pc L st G nc ns := by
  obtain ⟨hx, hb, hml, hown, hts, hini, hK, hKX, hRc, hRs, hRf, hRl⟩ := hC
  have hn : npc = pc + 3 := hn
  subst hn
  simp only [am_okX, decide_eq_true_eq] at hok
  simp only [am_ins] at h
  split at h
  · intro ad H locs ls hrel hn0 hw hnd hL hcs
    cases o with
    | eq => exact lv_if_eq hx hb hd hok (fun q => hm _ _ _ _ _ _ (h.1 q) ad H locs ls hrel hn0 hw hnd hL hcs) (fun q => hm _ _ _ _ _ _ (h.2 q) ad H locs ls hrel hn0 hw hnd hL hcs)
    | ne => exact lv_if_ne hx hb hd hok (fun q => hm _ _ _ _ _ _ (h.1 q) ad H locs ls hrel hn0 hw hnd hL hcs) (fun q => hm _ _ _ _ _ _ (h.2 q) ad H locs ls hrel hn0 hw hnd hL hcs)
    | lt => exact lv_if_lt hx hb hd hok (fun q => hm _ _ _ _ _ _ (h.1 q) ad H locs ls hrel hn0 hw hnd hL hcs) (fun q => hm _ _ _ _ _ _ (h.2 q) ad H locs ls hrel hn0 hw hnd hL hcs)
    | ge => exact lv_if_ge hx hb hd hok (fun q => hm _ _ _ _ _ _ (h.1 q) ad H locs ls hrel hn0 hw hnd hL hcs) (fun q => hm _ _ _ _ _ _ (h.2 q) ad H locs ls hrel hn0 hw hnd hL hcs)
    | gt => exact lv_if_gt hx hb hd hok (fun q => hm _ _ _ _ _ _ (h.1 q) ad H locs ls hrel hn0 hw hnd hL hcs) (fun q => hm _ _ _ _ _ _ (h.2 q) ad H locs ls hrel hn0 hw hnd hL hcs)
    | le => exact lv_if_le hx hb hd hok (fun q => hm _ _ _ _ _ _ (h.1 q) ad H locs ls hrel hn0 hw hnd hL hcs) (fun q => hm _ _ _ _ _ _ (h.2 q) ad H locs ls hrel hn0 hw hnd hL hcs)
  · exact h.elim

theorem am_i_if_icmp {o : Jvm.ClassFile.Cond} {off : Int} (hC : am_Ctx p R s m args meth c dC dI dA d M) {P0 : am_P} (hm : ∀ pc L st G nc ns, P0 pc L st G nc ns → am_W p l e R s m args below meth c dC dI dA M A H0 ad0 n0 QW pc L st G nc ns) {C : am_C} {Q : Option Value → am_G → Prop} {X : Nat → am_L → am_G → Nat → Nat → Prop} {pc npc a b t u pos : Nat} {cv : Int32} {cl : Int64} {L : am_L} {st : List Value} {G : am_G} {nc ns : Nat} (hd : decode (am_mb M) pc = .ok (.if_icmp o off, am_len (.if_icmp o off) (npc - pc))) (hn : npc = pc + am_len (.if_icmp o off) (npc - pc)) (hok : am_okX MT M pc (.if_icmp o off) a b t u pos cv cl = true) (h : am_ins C M scr Q X P0 pc (.if_icmp o off) npc a b t u cv cl L st G nc ns) : am_W p l e R s m args below meth c dC dI dA M A H0 ad0 n0 QW pc L st G nc ns := by
  obtain ⟨hx, hb, hml, hown, hts, hini, hK, hKX, hRc, hRs, hRf, hRl⟩ := hC
  have hn : npc = pc + 3 := hn
  subst hn
  simp only [am_okX, decide_eq_true_eq] at hok
  simp only [am_ins] at h
  split at h
  · intro ad H locs ls hrel hn0 hw hnd hL hcs
    cases o with
    | eq => exact lv_icmp_eq hx hb hd hok (fun q => hm _ _ _ _ _ _ (h.1 q) ad H locs ls hrel hn0 hw hnd hL hcs) (fun q => hm _ _ _ _ _ _ (h.2 q) ad H locs ls hrel hn0 hw hnd hL hcs)
    | ne => exact lv_icmp_ne hx hb hd hok (fun q => hm _ _ _ _ _ _ (h.1 q) ad H locs ls hrel hn0 hw hnd hL hcs) (fun q => hm _ _ _ _ _ _ (h.2 q) ad H locs ls hrel hn0 hw hnd hL hcs)
    | lt => exact lv_icmp_lt hx hb hd hok (fun q => hm _ _ _ _ _ _ (h.1 q) ad H locs ls hrel hn0 hw hnd hL hcs) (fun q => hm _ _ _ _ _ _ (h.2 q) ad H locs ls hrel hn0 hw hnd hL hcs)
    | ge => exact lv_icmp_ge hx hb hd hok (fun q => hm _ _ _ _ _ _ (h.1 q) ad H locs ls hrel hn0 hw hnd hL hcs) (fun q => hm _ _ _ _ _ _ (h.2 q) ad H locs ls hrel hn0 hw hnd hL hcs)
    | gt => exact lv_icmp_gt hx hb hd hok (fun q => hm _ _ _ _ _ _ (h.1 q) ad H locs ls hrel hn0 hw hnd hL hcs) (fun q => hm _ _ _ _ _ _ (h.2 q) ad H locs ls hrel hn0 hw hnd hL hcs)
    | le => exact lv_icmp_le hx hb hd hok (fun q => hm _ _ _ _ _ _ (h.1 q) ad H locs ls hrel hn0 hw hnd hL hcs) (fun q => hm _ _ _ _ _ _ (h.2 q) ad H locs ls hrel hn0 hw hnd hL hcs)
  · exact h.elim

theorem am_i_ifnull {off : Int} (hC : am_Ctx p R s m args meth c dC dI dA d M) {P0 : am_P} (hm : ∀ pc L st G nc ns, P0 pc L st G nc ns → am_W p l e R s m args below meth c dC dI dA M A H0 ad0 n0 QW pc L st G nc ns) {C : am_C} {Q : Option Value → am_G → Prop} {X : Nat → am_L → am_G → Nat → Nat → Prop} {pc npc a b t u pos : Nat} {cv : Int32} {cl : Int64} {L : am_L} {st : List Value} {G : am_G} {nc ns : Nat} (hd : decode (am_mb M) pc = .ok (.ifnull off, am_len (.ifnull off) (npc - pc))) (hn : npc = pc + am_len (.ifnull off) (npc - pc)) (hok : am_okX MT M pc (.ifnull off) a b t u pos cv cl = true) (h : am_ins C M scr Q X P0 pc (.ifnull off) npc a b t u cv cl L st G nc ns) : am_W p l e R s m args below meth c dC dI dA M A H0 ad0 n0 QW pc L st G nc ns := by
  obtain ⟨hx, hb, hml, hown, hts, hini, hK, hKX, hRc, hRs, hRf, hRl⟩ := hC
  have hn : npc = pc + 3 := hn
  subst hn
  simp only [am_okX, decide_eq_true_eq] at hok
  simp only [am_ins] at h
  split at h
  · intro ad H locs ls hrel hn0 hw hnd hL hcs
    exact lv_ifnull hx hb hd (hm _ _ _ _ _ _ h ad H locs ls hrel hn0 hw hnd hL hcs)
  · intro ad H locs ls hrel hn0 hw hnd hL hcs
    exact lv_ifnullN hx hb hd hok (hm _ _ _ _ _ _ h ad H locs ls hrel hn0 hw hnd hL hcs)
  · exact h.elim

theorem am_i_ifnonnull {off : Int} (hC : am_Ctx p R s m args meth c dC dI dA d M) {P0 : am_P} (hm : ∀ pc L st G nc ns, P0 pc L st G nc ns → am_W p l e R s m args below meth c dC dI dA M A H0 ad0 n0 QW pc L st G nc ns) {C : am_C} {Q : Option Value → am_G → Prop} {X : Nat → am_L → am_G → Nat → Nat → Prop} {pc npc a b t u pos : Nat} {cv : Int32} {cl : Int64} {L : am_L} {st : List Value} {G : am_G} {nc ns : Nat} (hd : decode (am_mb M) pc = .ok (.ifnonnull off, am_len (.ifnonnull off) (npc - pc))) (hn : npc = pc + am_len (.ifnonnull off) (npc - pc)) (hok : am_okX MT M pc (.ifnonnull off) a b t u pos cv cl = true) (h : am_ins C M scr Q X P0 pc (.ifnonnull off) npc a b t u cv cl L st G nc ns) : am_W p l e R s m args below meth c dC dI dA M A H0 ad0 n0 QW pc L st G nc ns := by
  obtain ⟨hx, hb, hml, hown, hts, hini, hK, hKX, hRc, hRs, hRf, hRl⟩ := hC
  have hn : npc = pc + 3 := hn
  subst hn
  simp only [am_okX, decide_eq_true_eq] at hok
  simp only [am_ins] at h
  split at h
  · intro ad H locs ls hrel hn0 hw hnd hL hcs
    exact lv_ifnonnull hx hb hd hok (hm _ _ _ _ _ _ h ad H locs ls hrel hn0 hw hnd hL hcs)
  · intro ad H locs ls hrel hn0 hw hnd hL hcs
    exact lv_ifnonnullN hx hb hd (hm _ _ _ _ _ _ h ad H locs ls hrel hn0 hw hnd hL hcs)
  · exact h.elim

theorem am_i_goto {off : Int} (hC : am_Ctx p R s m args meth c dC dI dA d M) {P0 : am_P} (hm : ∀ pc L st G nc ns, P0 pc L st G nc ns → am_W p l e R s m args below meth c dC dI dA M A H0 ad0 n0 QW pc L st G nc ns) {C : am_C} {Q : Option Value → am_G → Prop} {X : Nat → am_L → am_G → Nat → Nat → Prop} {pc npc a b t u pos : Nat} {cv : Int32} {cl : Int64} {L : am_L} {st : List Value} {G : am_G} {nc ns : Nat} (hd : decode (am_mb M) pc = .ok (.goto off, am_len (.goto off) (npc - pc))) (hn : npc = pc + am_len (.goto off) (npc - pc)) (hok : am_okX MT M pc (.goto off) a b t u pos cv cl = true) (h : am_ins C M scr Q X P0 pc (.goto off) npc a b t u cv cl L st G nc ns) : am_W p l e R s m args below meth c dC dI dA M A H0 ad0 n0 QW pc L st G nc ns := by
  obtain ⟨hx, hb, hml, hown, hts, hini, hK, hKX, hRc, hRs, hRf, hRl⟩ := hC
  have hn : npc = pc + 3 := hn
  subst hn
  simp only [am_okX, decide_eq_true_eq] at hok
  intro ad H locs ls hrel hn0 hw hnd hL hcs
  exact lv_goto hx hb hd hok (hm _ _ _ _ _ _ h ad H locs ls hrel hn0 hw hnd hL hcs)

theorem am_i_tableswitch {df lo hi : Int} {offs : Array Int} (hC : am_Ctx p R s m args meth c dC dI dA d M) {P0 : am_P} (hm : ∀ pc L st G nc ns, P0 pc L st G nc ns → am_W p l e R s m args below meth c dC dI dA M A H0 ad0 n0 QW pc L st G nc ns) {C : am_C} {Q : Option Value → am_G → Prop} {X : Nat → am_L → am_G → Nat → Nat → Prop} {pc npc a b t u pos : Nat} {cv : Int32} {cl : Int64} {L : am_L} {st : List Value} {G : am_G} {nc ns : Nat} (hd : decode (am_mb M) pc = .ok (.tableswitch df lo hi offs, am_len (.tableswitch df lo hi offs) (npc - pc))) (hn : npc = pc + am_len (.tableswitch df lo hi offs) (npc - pc)) (hok : am_okX MT M pc (.tableswitch df lo hi offs) a b t u pos cv cl = true) (h : am_ins C M scr Q X P0 pc (.tableswitch df lo hi offs) npc a b t u cv cl L st G nc ns) : am_W p l e R s m args below meth c dC dI dA M A H0 ad0 n0 QW pc L st G nc ns := by
  obtain ⟨hx, hb, hml, hown, hts, hini, hK, hKX, hRc, hRs, hRf, hRl⟩ := hC
  simp only [am_okX, Bool.and_eq_true, decide_eq_true_eq] at hok
  simp only [am_ins] at h
  split at h
  · rename_i x _
    intro ad H locs ls hrel hn0 hw hnd hL hcs
    by_cases q : x.toInt < lo ∨ hi < x.toInt
    · exact lv_tableOut hx hb hd q (by simp only [am_tg]; omega) (hm _ _ _ _ _ _ (h.1 q) ad H locs ls hrel hn0 hw hnd hL hcs)
    · have q1 : ¬ x.toInt < lo := fun z => q (Or.inl z)
      have q2 : ¬ hi < x.toInt := fun z => q (Or.inr z)
      cases ho : offs[(x.toInt - lo).toNat]? with
      | none =>
        have h4 := Array.getElem?_eq_none_iff.mp ho
        omega
      | some off =>
        have h3 : 0 ≤ (pc : Int) + off := of_decide_eq_true (List.all_eq_true.mp hok.1.2 off (Array.mem_toList_iff.mpr (Array.mem_of_getElem? ho)))
        exact lv_tableIn hx hb hd q1 q2 ho (by simp only [am_tg]; omega) (hm _ _ _ _ _ _ (h.2 off q1 q2 ho) ad H locs ls hrel hn0 hw hnd hL hcs)
  · exact h.elim

theorem am_i_lookupswitch {df : Int} {ps : Array (Int × Int)} (hC : am_Ctx p R s m args meth c dC dI dA d M) {P0 : am_P} (hm : ∀ pc L st G nc ns, P0 pc L st G nc ns → am_W p l e R s m args below meth c dC dI dA M A H0 ad0 n0 QW pc L st G nc ns) {C : am_C} {Q : Option Value → am_G → Prop} {X : Nat → am_L → am_G → Nat → Nat → Prop} {pc npc a b t u pos : Nat} {cv : Int32} {cl : Int64} {L : am_L} {st : List Value} {G : am_G} {nc ns : Nat} (hd : decode (am_mb M) pc = .ok (.lookupswitch df ps, am_len (.lookupswitch df ps) (npc - pc))) (hn : npc = pc + am_len (.lookupswitch df ps) (npc - pc)) (hok : am_okX MT M pc (.lookupswitch df ps) a b t u pos cv cl = true) (h : am_ins C M scr Q X P0 pc (.lookupswitch df ps) npc a b t u cv cl L st G nc ns) : am_W p l e R s m args below meth c dC dI dA M A H0 ad0 n0 QW pc L st G nc ns := by
  obtain ⟨hx, hb, hml, hown, hts, hini, hK, hKX, hRc, hRs, hRf, hRl⟩ := hC
  simp only [am_okX, Bool.and_eq_true, decide_eq_true_eq] at hok
  simp only [am_ins] at h
  split at h
  · rename_i x _
    intro ad H locs ls hrel hn0 hw hnd hL hcs
    have hz : 0 ≤ (pc : Int) + Op.lookupswitch.offset ps.toList df x.toInt := by
      have key : ∀ q : List (Int × Int), (∀ o ∈ q, 0 ≤ (pc : Int) + o.2) → 0 ≤ (pc : Int) + Op.lookupswitch.offset q df x.toInt := by
        intro q
        induction q with
        | nil => intro _; exact hok.1.2
        | cons y q ih =>
          intro hq
          simp only [Op.lookupswitch.offset]
          split
          · exact hq y List.mem_cons_self
          · exact ih (fun o ho => hq o (List.mem_cons_of_mem _ ho))
      exact key _ (fun o ho => of_decide_eq_true (List.all_eq_true.mp hok.2 o ho))
    exact lv_lookup hx hb hd hok.1.1 rfl (by simp only [am_tg]; omega) (hm _ _ _ _ _ _ h ad H locs ls hrel hn0 hw hnd hL hcs)
  · exact h.elim

theorem am_i_getfield {idx : Nat} (hC : am_Ctx p R s m args meth c dC dI dA d M) {P0 : am_P} (hm : ∀ pc L st G nc ns, P0 pc L st G nc ns → am_W p l e R s m args below meth c dC dI dA M A H0 ad0 n0 QW pc L st G nc ns) {C : am_C} {Q : Option Value → am_G → Prop} {X : Nat → am_L → am_G → Nat → Nat → Prop} {pc npc a b t u pos : Nat} {cv : Int32} {cl : Int64} {L : am_L} {st : List Value} {G : am_G} {nc ns : Nat} (hd : decode (am_mb M) pc = .ok (.getfield idx, am_len (.getfield idx) (npc - pc))) (hn : npc = pc + am_len (.getfield idx) (npc - pc)) (hok : am_okX MT M pc (.getfield idx) a b t u pos cv cl = true) (h : am_ins C M scr Q X P0 pc (.getfield idx) npc a b t u cv cl L st G nc ns) : am_W p l e R s m args below meth c dC dI dA M A H0 ad0 n0 QW pc L st G nc ns := by
  obtain ⟨hx, hb, hml, hown, hts, hini, hK, hKX, hRc, hRs, hRf, hRl⟩ := hC
  have hn : npc = pc + 3 := hn
  subst hn
  obtain ⟨Cn, T, N, hc, hbN, hT, hlk⟩ := am_fld_ok hok
  simp only [am_ins] at h
  split at h
  · split at h
    · rename_i o _ _ ci fs hG
      obtain ⟨rfl, h⟩ := h
      split at h
      · rename_i v hv
        intro ad H locs ls hrel hn0 hw hnd hL hcs
        exact va_get hx hb hts (am_cls_ok hc).1 hown hK hw.1 o (am_cw_get hG) hc b hbN (hts _ hlk) (fun x hx => by rw [hT] at hx; exact hx) (v := am_cv ad v) (by rw [List.getElem?_map, hv]; rfl) hd (hm _ _ _ _ _ _ h ad H locs ls hrel hn0 hw hnd hL hcs)
      · exact h.elim
    · exact h.elim
  · exact h.elim

theorem am_putv (hC : am_Ctx p R s m args meth c dC dI dA d M) {P0 : am_P} (hm : ∀ pc L st G nc ns, P0 pc L st G nc ns → am_W p l e R s m args below meth c dC dI dA M A H0 ad0 n0 QW pc L st G nc ns) {pc b o ci idx : Nat} {L : am_L} {st : List Value} {G : am_G} {nc ns : Nat} {fs : List Value} {v : Value} {Cn : String} {T : u_T} {N : Nat} {ty : FieldType} (hd : decode (am_mb M) pc = .ok (.putfield idx, 3)) (hc : vwCl[ci]? = some (Cn, T, N)) (hbN : b < N) (hT : (T b).1 = Cn) (hlk : Jvm.Cond.fieldLink (am_my M).cls idx Cn (T b).2.1 (T b).2.2.1 ∈ am_U) (hfin : (T b).2.2.2 = false ∨ (am_my M).name = "<init>" ∧ (T b).1 = (am_my M).cls) (hpd : parseFieldDescriptor (T b).2.2.1 = some ty) (hG : G[o]? = some (.inr (.inr (.inr (ci, fs))))) (hlen : b < fs.length) (hnar : ∀ ad : Nat → Nat, narrow ty (am_cv ad v) = am_cv ad v) (hfit : ∀ ad : Nat → Nat, fits ty (am_cv ad v) = true) (h : P0 (pc + 3) L st (G.set o (.inr (.inr (.inr (ci, fs.set b v))))) nc ns) : am_W p l e R s m args below meth c dC dI dA M A H0 ad0 n0 QW pc L (v :: .ref o :: st) G nc ns := by
  obtain ⟨hx, hb, hml, hown, hts, hini, hK, hKX, hRc, hRs, hRf, hRl⟩ := hC
  obtain ⟨ty0, hty0, hnm, -⟩ := (am_cls_ok hc).2
  intro ad H locs ls hrel hn0 hw hnd hL hcs
  have hkk : ∀ (H1 : Heap) (locs1 : List Loc), va_P (dC, dI) vwCl ((am_cw dA ad G).set o (ad o, .inr (ci, (fs.map (am_cv ad)).set b (am_cv ad v)))) H1 → va_D A ((am_cw dA ad G).set o (ad o, .inr (ci, (fs.map (am_cv ad)).set b (am_cv ad v)))) → va_S A H0 H1 locs1 → W p l e R s m args below meth c H1 locs1 nc ns QW (F0 m (pc + 3) ls (st.map (am_cv ad))) := fun H1 locs1 h1 h2 h3 => hm _ _ _ _ _ _ h ad H1 locs1 ls hrel (by rw [List.length_set]; exact hn0) ⟨by rw [← am_set_O]; exact h1, by rw [← am_set_O]; exact h2, h3⟩ hnd hL hcs
  cases hff : (T b).2.2.2 with
  | false => exact va_put hx hb hts (am_cls_ok hc).1 ty0 hty0 hnm hown hK hw.1 hw.2.1 hw.2.2 o (am_cw_get hG) hc b hbN (hts _ hlk) (fun x hx => by rw [hT] at hx; exact hx) hff hpd (hnar ad) (hfit ad) (by rw [List.length_map]; exact hlen) hd hkk
  | true =>
    rcases hfin with hfin | ⟨hfin, hdc⟩
    · rw [hfin] at hff
      cases hff
    · exact va_putF hx hb hts (am_cls_ok hc).1 ty0 hty0 hnm hown hK hw.1 hw.2.1 hw.2.2 o (am_cw_get hG) hc b hbN (hts _ hlk) (fun x hx => by rw [hT] at hx; exact hx) hff (hini hfin) hdc hpd (hnar ad) (hfit ad) (by rw [List.length_map]; exact hlen) hd hkk
theorem am_nb {x : Int32} (h : x = 0 ∨ x = 1) : narrow .boolean (.int x) = .int x ∧ fits .boolean (.int x) = true ∧ vp_nar .boolean x = x := by
  rcases h with rfl | rfl <;> decide +kernel

theorem am_i_putfield {idx : Nat} (hC : am_Ctx p R s m args meth c dC dI dA d M) {P0 : am_P} (hm : ∀ pc L st G nc ns, P0 pc L st G nc ns → am_W p l e R s m args below meth c dC dI dA M A H0 ad0 n0 QW pc L st G nc ns) {C : am_C} {Q : Option Value → am_G → Prop} {X : Nat → am_L → am_G → Nat → Nat → Prop} {pc npc a b t u pos : Nat} {cv : Int32} {cl : Int64} {L : am_L} {st : List Value} {G : am_G} {nc ns : Nat} (hd : decode (am_mb M) pc = .ok (.putfield idx, am_len (.putfield idx) (npc - pc))) (hn : npc = pc + am_len (.putfield idx) (npc - pc)) (hok : am_okX MT M pc (.putfield idx) a b t u pos cv cl = true) (h : am_ins C M scr Q X P0 pc (.putfield idx) npc a b t u cv cl L st G nc ns) : am_W p l e R s m args below meth c dC dI dA M A H0 ad0 n0 QW pc L st G nc ns := by
  obtain ⟨hx, hb, hml, hown, hts, hini, hK, hKX, hRc, hRs, hRf, hRl⟩ := hC
  have hn : npc = pc + 3 := hn
  subst hn
  simp only [am_okX, Bool.and_eq_true] at hok
  obtain ⟨hok, hpf⟩ := hok
  obtain ⟨Cn, T, N, hc, hbN, hT, hlk⟩ := am_fld_ok hok
  unfold am_pfl at hpf
  rw [hc] at hpf
  simp only [Bool.and_eq_true, Bool.or_eq_true, beq_iff_eq, decide_eq_true_eq] at hpf
  obtain ⟨hfin, hpf⟩ := hpf
  have hCC : am_Ctx p R s m args meth c dC dI dA d M := ⟨hx, hb, hml, hown, hts, hini, hK, hKX, hRc, hRs, hRf, hRl⟩
  simp only [am_ins] at h
  split at h
  · split at h
    · rename_i ci fs hG
      obtain ⟨rfl, hlen, h⟩ := h
      cases hpd : parseFieldDescriptor (T b).2.2.1 with
      | none => rw [hpd] at hpf; simp at hpf
      | some ty =>
        rw [hpd] at hpf
        split at h
        · cases ty with
          | int => exact am_putv hCC hm hd hc hbN hT hlk hfin hpd hG hlen (fun _ => rfl) (fun _ => rfl) h
          | _ => simp at hpf
        · cases ty with
          | boolean => exact am_putv hCC hm hd hc hbN hT hlk hfin hpd hG hlen (fun _ => (am_nb h.1).1) (fun _ => (am_nb h.1).2.1) h.2
          | _ => simp at hpf
        · cases ty with
          | object _ => exact am_putv hCC hm hd hc hbN hT hlk hfin hpd hG hlen (fun _ => rfl) (fun _ => rfl) h
          | array _ => exact am_putv hCC hm hd hc hbN hT hlk hfin hpd hG hlen (fun _ => rfl) (fun _ => rfl) h
          | _ => simp at hpf
        · exact h.elim
    · exact h.elim
  · exact h.elim

end AMS
end
section
/-! ONE STEP IS SOUND, second half: rows of arrays, makers, calls, ends. -/
theorem am_good {w : Jvm.Cond} (h : w ∈ am_U) : w ∈ am_U ∧ ((w.onTables && w.keeps) = true ∨ ∃ ty, w = .arrayClass ty) := ⟨h, good_of_word (List.mem_filter.mp h).2⟩
theorem am_catsum (ad : Nat → Nat) (st : List Value) : ((st.map (am_cv ad)).map fun v => v.category).sum = (st.map fun v => v.category).sum := by
  rw [List.map_map]
  congr 1
  exact List.map_congr_left fun v _ => am_cat ad v
theorem am_dfl_cv (ad : Nat → Nat) (a : Nat) : (am_dfl a).map (am_cv ad) = am_dfl a := by
  have key : ∀ l : List Value, (l.all fun v => match v with
    | .ref _ => false
    | _ => true) = true → l.map (am_cv ad) = l := by
    intro l h
    conv => rhs; rw [← List.map_id l]
    refine List.map_congr_left fun v hv => ?_
    have h1 := List.all_eq_true.mp h v hv
    cases v with
    | ref k => cases h1
    | _ => rfl
  apply key
  unfold am_dfl
  split <;> decide +kernel
theorem am_KX_same {u U : State} (h : u.vm = U.vm) (hK : am_KX u) : am_KX U := by
  obtain ⟨h1, h2, h3, h4⟩ := hK
  have ha : u.vm.Alike U.vm := by rw [h]; exact Vm.Alike.refl _
  refine ⟨fun w hw => ?_, va_AO.moved ha h2, va_AO.moved ha h3, va_AO.moved ha h4⟩
  refine va_Nw.same ?_ h (h1 w hw)
  have := (List.mem_filter.mp hw).2
  split at this
  · rfl
  · cases this
theorem am_KX_warm {s U : State} (h : s.WarmedH U.vm) (hK : am_KX s) : am_KX U := by
  obtain ⟨h1, h2, h3, h4⟩ := hK
  refine ⟨fun w hw => ?_, va_AO.moved h.alike h2, va_AO.moved h.alike h3, va_AO.moved h.alike h4⟩
  have := (List.mem_filter.mp hw).2
  split at this
  · exact va_Nw.warmM h (h1 _ hw)
  · cases this
def am_SX (ad : Nat → Nat) (A : Nat → Prop) (U : State) (H : Heap) : Prop :=
  (∃ adV : Nat → Nat, vk_S 10 ((List.range 10).map (fun i => (am_str i).length)) ((List.range 10).map (fun i => (am_str i).map nI)) (fun i => ad (1000000 + i)) adV A U H) ∧ (∀ i, i < 2 → ad (1000010 + i) = ad (1000000 + i)) ∧ (∀ (i : Nat) (own : String) (k : Nat), am_sk i = some (own, k) → ∃ tx, vk_R own k tx (ad (1000000 + i)) U) ∧ va_Z "java/lang/String" "COMPACT_STRINGS" "Z" (.int 1) A U H ∧ va_Zq "jdk/internal/util/Preconditions" "SIOOBE_FORMATTER" "Ljava/util/function/BiFunction;" A U H
theorem am_SX_same {ad : Nat → Nat} {A : Nat → Prop} {u U : State} {H : Heap} (hv : U.vm = u.vm) (h : am_SX ad A u H) : am_SX ad A U H := by
  obtain ⟨⟨adV, h1⟩, h2, h3, h4, h5⟩ := h
  have ha : u.vm.Alike U.vm := by rw [hv]; exact Vm.Alike.refl _
  refine ⟨⟨adV, h1.moved ha⟩, h2, fun i own k hk => ?_, h4.moved ha, h5.moved ha⟩
  obtain ⟨tx, hx⟩ := h3 i own k hk
  exact ⟨tx, hx.same hv⟩
theorem am_SX_warm {ad : Nat → Nat} {A : Nat → Prop} {s U : State} {H : Heap} (hv : s.WarmedH U.vm) (h : am_SX ad A s H) : am_SX ad A U H := by
  obtain ⟨⟨adV, h1⟩, h2, h3, h4, h5⟩ := h
  refine ⟨⟨adV, h1.moved hv.alike⟩, h2, fun i own k hk => ?_, h4.moved hv.alike, h5.moved hv.alike⟩
  obtain ⟨tx, hx⟩ := h3 i own k hk
  exact ⟨tx, hx.warm hv⟩
theorem am_SX_kept {ad : Nat → Nat} {A : Nat → Prop} {U : State} {H H1 : Heap} (h : am_SX ad A U H) (hq : ∀ a : Nat, a < H.size → ¬ A a → H1[a]? = H[a]?) : am_SX ad A U H1 := by
  obtain ⟨⟨adV, h1⟩, h2, h3, h4, h5⟩ := h
  exact ⟨⟨adV, h1.kept hq⟩, h2, h3, h4.kept hq, h5.kept hq⟩
theorem am_SX_narrow {ad : Nat → Nat} {A B : Nat → Prop} {U : State} {H : Heap} (h : am_SX ad A U H) (hAB : ∀ q, B q → A q) : am_SX ad B U H := by
  obtain ⟨⟨adV, h1⟩, h2, h3, h4, h5⟩ := h
  exact ⟨⟨adV, h1.narrow hAB⟩, h2, h3, h4.narrow hAB, h5.narrow hAB⟩
theorem am_SX_ad {ad ad1 : Nat → Nat} {A : Nat → Prop} {U : State} {H : Heap} (h : am_SX ad A U H) (hx : ∀ k, 1000000 ≤ k → ad1 k = ad k) : am_SX ad1 A U H := by
  obtain ⟨⟨adV, h1⟩, h2, h3, h4, h5⟩ := h
  have e : (fun i => ad1 (1000000 + i)) = fun i => ad (1000000 + i) := funext fun i => hx _ (by omega)
  refine ⟨⟨adV, by rw [e]; exact h1⟩, fun i hi => by rw [hx _ (by omega), hx _ (by omega)]; exact h2 i hi, fun i own k hk => by rw [hx _ (by omega)]; exact h3 i own k hk, h4, h5⟩
def am_rm (d : Nat) (M : am_M) : Room := { frames := d + 40, cells := am_mc M, slots := am_ms M, locals := 80 * d + 2000 }
def am_ws (M : am_M) : List Jvm.Cond := Jvm.Cond.code (am_my M) (am_mb M) (am_mL M) (am_mr M) :: am_U
def am_Pc (dC : Nat → ClassId) (dI : Nat → Nat → Nat) (dA : Nat → ClassId) (As : List Value) (G : am_G) (ad : Nat → Nat) (sz : Nat) : Array Value → State → Prop := va_Pc (As.map (am_cv ad)) (fun U => U.heap.size = sz ∧ va_P (dC, dI) vwCl (am_cw dA ad G) U.heap ∧ va_K (dC, dI) vwCl (am_ty dA) U ∧ va_D (fun _ => True) (am_cw dA ad G) ∧ am_KX U ∧ am_SX ad (va_A (am_cw dA ad G) sz) U U.heap)
def am_B (dC : Nat → ClassId) (dI : Nat → Nat → Nat) (dA : Nat → ClassId) (mc : Nat) (G : am_G) (ad : Nat → Nat) (sz : Nat) (u : am_G × (Nat → Nat)) (t : State) : Prop := va_P (dC, dI) vwCl (am_cw dA u.2 u.1) t.heap ∧ va_D (va_A (am_cw dA ad G) sz) (am_cw dA u.2 u.1) ∧ G.length ≤ u.1.length ∧ am_Rel mc G.length ad u.2
def am_Qc (dC : Nat → ClassId) (dI : Nat → Nat → Nat) (dA : Nat → ClassId) (M : am_M) (post : Option Value → am_G → Prop) (G : am_G) (ad : Nat → Nat) (sz : Nat) : Array Value → State → Outcome → State → Prop := match am_mr M with
  | none => va_Qv (fun u : am_G × (Nat → Nat) => post none u.1) (am_B dC dI dA (am_mc M) G ad sz) (va_A (am_cw dA ad G) sz)
  | some .long => va_Ql (fun (r : Int64) (u : am_G × (Nat → Nat)) => post (some (.long r)) u.1) (am_B dC dI dA (am_mc M) G ad sz) (va_A (am_cw dA ad G) sz)
  | some _ => va_Qi (fun (r : Int32) (u : am_G × (Nat → Nat)) => post (some (.int r)) u.1) (am_B dC dI dA (am_mc M) G ad sz) (va_A (am_cw dA ad G) sz)
def am_Met (l : Launch) (dC : Nat → ClassId) (dI : Nat → Nat → Nat) (dA : Nat → ClassId) (d : Nat) (M : am_M) (As : List Value) (G : am_G) (post : Option Value → am_G → Prop) : Prop :=
  ∀ (ad : Nat → Nat) (sz : Nat), Met l (am_my M) (am_ws M) (am_rm d M) (am_Pc dC dI dA As G ad sz) (am_Qc dC dI dA M post G ad sz) (am_mc M) (am_ms M) (va_A (am_cw dA ad G) sz)
theorem am_blind {dC : Nat → ClassId} {dI : Nat → Nat → Nat} {dA : Nat → ClassId} {As : List Value} {G : am_G} {ad : Nat → Nat} {sz : Nat} : FrameBlind (am_Pc dC dI dA As G ad sz) := by
  intro a U g mk q
  obtain ⟨q0, q1, qP, qK, qD, qX, qS⟩ := q
  exact ⟨q0, q1, qP, va_K.moved (u := U) (U := U.calling g mk a) (Vm.Alike.refl U.vm) qK, qD, am_KX_same (u := U) (U := U.calling g mk a) rfl qX, am_SX_same (u := U) (U := U.calling g mk a) rfl qS⟩
section AMS
variable {p : Program} {l : Launch} {e : Env} {R : Room} {s : State} {m : MethodId} {args : Array Value} {below : List Frame} {meth : Method} {c : Code} {dC : Nat → ClassId} {dI : Nat → Nat → Nat} {dA : Nat → ClassId} {d : Nat} {M : am_M} {A : Nat → Prop} {H0 : Heap} {ad0 : Nat → Nat} {n0 : Nat} {QW : State → Prop} {MT : Nat → Option am_M} {scr : Option (Nat × (Nat → Int32))}

theorem am_i_iaload (hC : am_Ctx p R s m args meth c dC dI dA d M) {P0 : am_P} (hm : ∀ pc L st G nc ns, P0 pc L st G nc ns → am_W p l e R s m args below meth c dC dI dA M A H0 ad0 n0 QW pc L st G nc ns) {C : am_C} {Q : Option Value → am_G → Prop} {X : Nat → am_L → am_G → Nat → Nat → Prop} {pc npc a b t u pos : Nat} {cv : Int32} {cl : Int64} {L : am_L} {st : List Value} {G : am_G} {nc ns : Nat} (hd : decode (am_mb M) pc = .ok (.iaload, am_len (.iaload) (npc - pc))) (hn : npc = pc + am_len (.iaload) (npc - pc)) (hok : am_okX MT M pc (.iaload) a b t u pos cv cl = true) (h : am_ins C M none Q X P0 pc (.iaload) npc a b t u cv cl L st G nc ns) : am_W p l e R s m args below meth c dC dI dA M A H0 ad0 n0 QW pc L st G nc ns := by
  obtain ⟨hx, hb, hml, hown, hts, hini, hK, hKX, hRc, hRs, hRf, hRl⟩ := hC
  have hn : npc = pc + 1 := hn
  subst hn
  simp only [am_ins] at h
  split at h
  · split at h
    · rename_i hG
      obtain ⟨rfl, hin, h⟩ := h
      intro ad H locs ls hrel hn0 hw hnd hL hcs
      exact va_iald hx hb hK hw.1 _ 0 (am_cw_get hG) rfl hin hd (hm _ _ _ _ _ _ h ad H locs ls hrel hn0 hw hnd hL hcs)
    · exact h.elim
  · exact h.elim

theorem am_i_baload (hC : am_Ctx p R s m args meth c dC dI dA d M) {P0 : am_P} (hm : ∀ pc L st G nc ns, P0 pc L st G nc ns → am_W p l e R s m args below meth c dC dI dA M A H0 ad0 n0 QW pc L st G nc ns) {C : am_C} {Q : Option Value → am_G → Prop} {X : Nat → am_L → am_G → Nat → Nat → Prop} {pc npc a b t u pos : Nat} {cv : Int32} {cl : Int64} {L : am_L} {st : List Value} {G : am_G} {nc ns : Nat} (hd : decode (am_mb M) pc = .ok (.baload, am_len (.baload) (npc - pc))) (hn : npc = pc + am_len (.baload) (npc - pc)) (hok : am_okX MT M pc (.baload) a b t u pos cv cl = true) (h : am_ins C M scr Q X P0 pc (.baload) npc a b t u cv cl L st G nc ns) : am_W p l e R s m args below meth c dC dI dA M A H0 ad0 n0 QW pc L st G nc ns := by
  obtain ⟨hx, hb, hml, hown, hts, hini, hK, hKX, hRc, hRs, hRf, hRl⟩ := hC
  have hn : npc = pc + 1 := hn
  subst hn
  simp only [am_ins] at h
  split at h
  · split at h
    · rename_i hG
      obtain ⟨rfl, hin, h⟩ := h
      intro ad H locs ls hrel hn0 hw hnd hL hcs
      exact va_zald hx hb hK hw.1 _ 2 (am_cw_get hG) rfl hin hd (hm _ _ _ _ _ _ h ad H locs ls hrel hn0 hw hnd hL hcs)
    · exact h.elim
  · exact h.elim

theorem am_i_laload (hC : am_Ctx p R s m args meth c dC dI dA d M) {P0 : am_P} (hm : ∀ pc L st G nc ns, P0 pc L st G nc ns → am_W p l e R s m args below meth c dC dI dA M A H0 ad0 n0 QW pc L st G nc ns) {C : am_C} {Q : Option Value → am_G → Prop} {X : Nat → am_L → am_G → Nat → Nat → Prop} {pc npc a b t u pos : Nat} {cv : Int32} {cl : Int64} {L : am_L} {st : List Value} {G : am_G} {nc ns : Nat} (hd : decode (am_mb M) pc = .ok (.laload, am_len (.laload) (npc - pc))) (hn : npc = pc + am_len (.laload) (npc - pc)) (hok : am_okX MT M pc (.laload) a b t u pos cv cl = true) (h : am_ins C M scr Q X P0 pc (.laload) npc a b t u cv cl L st G nc ns) : am_W p l e R s m args below meth c dC dI dA M A H0 ad0 n0 QW pc L st G nc ns := by
  obtain ⟨hx, hb, hml, hown, hts, hini, hK, hKX, hRc, hRs, hRf, hRl⟩ := hC
  have hn : npc = pc + 1 := hn
  subst hn
  simp only [am_ins] at h
  split at h
  · split at h
    · rename_i hG
      obtain ⟨hin, h⟩ := h
      intro ad H locs ls hrel hn0 hw hnd hL hcs
      exact va_lald hx hb hK hw.1 _ 1 (am_cw_get hG) rfl hin hd (hm _ _ _ _ _ _ h ad H locs ls hrel hn0 hw hnd hL hcs)
    · exact h.elim
  · exact h.elim

theorem am_i_iastore (hC : am_Ctx p R s m args meth c dC dI dA d M) {P0 : am_P} (hm : ∀ pc L st G nc ns, P0 pc L st G nc ns → am_W p l e R s m args below meth c dC dI dA M A H0 ad0 n0 QW pc L st G nc ns) {C : am_C} {Q : Option Value → am_G → Prop} {X : Nat → am_L → am_G → Nat → Nat → Prop} {pc npc a b t u pos : Nat} {cv : Int32} {cl : Int64} {L : am_L} {st : List Value} {G : am_G} {nc ns : Nat} (hd : decode (am_mb M) pc = .ok (.iastore, am_len (.iastore) (npc - pc))) (hn : npc = pc + am_len (.iastore) (npc - pc)) (hok : am_okX MT M pc (.iastore) a b t u pos cv cl = true) (h : am_ins C M scr Q X P0 pc (.iastore) npc a b t u cv cl L st G nc ns) : am_W p l e R s m args below meth c dC dI dA M A H0 ad0 n0 QW pc L st G nc ns := by
  obtain ⟨hx, hb, hml, hown, hts, hini, hK, hKX, hRc, hRs, hRf, hRl⟩ := hC
  have hn : npc = pc + 1 := hn
  subst hn
  simp only [am_ins] at h
  split at h
  · split at h
    · rename_i hG
      obtain ⟨rfl, hin, h⟩ := h
      intro ad H locs ls hrel hn0 hw hnd hL hcs
      exact va_iast hx hb hK hw.1 hw.2.1 hw.2.2 _ 0 (am_cw_get hG) rfl hin hd (fun H1 locs1 h1 h2 h3 => hm _ _ _ _ _ _ h ad H1 locs1 ls hrel (by rw [List.length_set]; exact hn0) ⟨by rw [← am_cw_set]; exact h1, by rw [← am_cw_set]; exact h2, h3⟩ hnd hL hcs)
    · exact h.elim
  · exact h.elim

theorem am_i_bastore (hC : am_Ctx p R s m args meth c dC dI dA d M) {P0 : am_P} (hm : ∀ pc L st G nc ns, P0 pc L st G nc ns → am_W p l e R s m args below meth c dC dI dA M A H0 ad0 n0 QW pc L st G nc ns) {C : am_C} {Q : Option Value → am_G → Prop} {X : Nat → am_L → am_G → Nat → Nat → Prop} {pc npc a b t u pos : Nat} {cv : Int32} {cl : Int64} {L : am_L} {st : List Value} {G : am_G} {nc ns : Nat} (hd : decode (am_mb M) pc = .ok (.bastore, am_len (.bastore) (npc - pc))) (hn : npc = pc + am_len (.bastore) (npc - pc)) (hok : am_okX MT M pc (.bastore) a b t u pos cv cl = true) (h : am_ins C M scr Q X P0 pc (.bastore) npc a b t u cv cl L st G nc ns) : am_W p l e R s m args below meth c dC dI dA M A H0 ad0 n0 QW pc L st G nc ns := by
  obtain ⟨hx, hb, hml, hown, hts, hini, hK, hKX, hRc, hRs, hRf, hRl⟩ := hC
  have hn : npc = pc + 1 := hn
  subst hn
  simp only [am_ins] at h
  split at h
  · split at h
    · rename_i hG
      obtain ⟨rfl, hbx, hin, h⟩ := h
      intro ad H locs ls hrel hn0 hw hnd hL hcs
      exact va_zast hx hb hK hw.1 hw.2.1 hw.2.2 _ 2 (am_cw_get hG) rfl hin hd (fun H1 locs1 h1 h2 h3 => by
        rw [(am_nb hbx).2.2] at h1 h2
        exact hm _ _ _ _ _ _ h ad H1 locs1 ls hrel (by rw [List.length_set]; exact hn0) ⟨by rw [← am_cw_set]; exact h1, by rw [← am_cw_set]; exact h2, h3⟩ hnd hL hcs)
    · exact h.elim
  · exact h.elim

theorem am_i_lastore (hC : am_Ctx p R s m args meth c dC dI dA d M) {P0 : am_P} (hm : ∀ pc L st G nc ns, P0 pc L st G nc ns → am_W p l e R s m args below meth c dC dI dA M A H0 ad0 n0 QW pc L st G nc ns) {C : am_C} {Q : Option Value → am_G → Prop} {X : Nat → am_L → am_G → Nat → Nat → Prop} {pc npc a b t u pos : Nat} {cv : Int32} {cl : Int64} {L : am_L} {st : List Value} {G : am_G} {nc ns : Nat} (hd : decode (am_mb M) pc = .ok (.lastore, am_len (.lastore) (npc - pc))) (hn : npc = pc + am_len (.lastore) (npc - pc)) (hok : am_okX MT M pc (.lastore) a b t u pos cv cl = true) (h : am_ins C M scr Q X P0 pc (.lastore) npc a b t u cv cl L st G nc ns) : am_W p l e R s m args below meth c dC dI dA M A H0 ad0 n0 QW pc L st G nc ns := by
  obtain ⟨hx, hb, hml, hown, hts, hini, hK, hKX, hRc, hRs, hRf, hRl⟩ := hC
  have hn : npc = pc + 1 := hn
  subst hn
  simp only [am_ins] at h
  split at h
  · split at h
    · rename_i hG
      obtain ⟨hin, h⟩ := h
      intro ad H locs ls hrel hn0 hw hnd hL hcs
      exact va_last hx hb hK hw.1 hw.2.1 hw.2.2 _ 1 (am_cw_get hG) rfl hin hd (fun H1 locs1 h1 h2 h3 => hm _ _ _ _ _ _ h ad H1 locs1 ls hrel (by rw [List.length_set]; exact hn0) ⟨by rw [← am_cw_set]; exact h1, by rw [← am_cw_set]; exact h2, h3⟩ hnd hL hcs)
    · exact h.elim
  · exact h.elim

theorem am_i_aaload (hC : am_Ctx p R s m args meth c dC dI dA d M) {P0 : am_P} (hm : ∀ pc L st G nc ns, P0 pc L st G nc ns → am_W p l e R s m args below meth c dC dI dA M A H0 ad0 n0 QW pc L st G nc ns) {C : am_C} {Q : Option Value → am_G → Prop} {X : Nat → am_L → am_G → Nat → Nat → Prop} {pc npc a b t u pos : Nat} {cv : Int32} {cl : Int64} {L : am_L} {st : List Value} {G : am_G} {nc ns : Nat} (hd : decode (am_mb M) pc = .ok (.aaload, am_len (.aaload) (npc - pc))) (hn : npc = pc + am_len (.aaload) (npc - pc)) (hok : am_okX MT M pc (.aaload) a b t u pos cv cl = true) (h : am_ins C M scr Q X P0 pc (.aaload) npc a b t u cv cl L st G nc ns) : am_W p l e R s m args below meth c dC dI dA M A H0 ad0 n0 QW pc L st G nc ns := by
  obtain ⟨hx, hb, hml, hown, hts, hini, hK, hKX, hRc, hRs, hRf, hRl⟩ := hC
  have hn : npc = pc + 1 := hn
  subst hn
  simp only [am_ins] at h
  split at h
  · split at h
    · rename_i k lst hG
      obtain ⟨hk3, hk6, hin, h⟩ := h
      intro ad H locs ls hrel hn0 hw hnd hL hcs
      have hty : ∃ Cc, (am_ty dA)[k]? = some (dA k, .object Cc) := by
        match k, hk3, hk6 with
        | 3, _, _ => exact ⟨_, rfl⟩
        | 4, _, _ => exact ⟨_, rfl⟩
        | 5, _, _ => exact ⟨_, rfl⟩
      obtain ⟨Cc, hty⟩ := hty
      refine va_aldq hx hb hK hw.1 _ k (am_cw_get hG) hty hin hd ?_
      refine W.eq ?_ (hm _ _ _ _ _ _ h ad H locs ls hrel hn0 hw hnd hL hcs)
      simp only [List.map_cons]
      congr 2
      cases lst.getD _ none <;> rfl
    · exact h.elim
  · exact h.elim

theorem am_i_aastore (hC : am_Ctx p R s m args meth c dC dI dA d M) {P0 : am_P} (hm : ∀ pc L st G nc ns, P0 pc L st G nc ns → am_W p l e R s m args below meth c dC dI dA M A H0 ad0 n0 QW pc L st G nc ns) {C : am_C} {Q : Option Value → am_G → Prop} {X : Nat → am_L → am_G → Nat → Nat → Prop} {pc npc a b t u pos : Nat} {cv : Int32} {cl : Int64} {L : am_L} {st : List Value} {G : am_G} {nc ns : Nat} (hd : decode (am_mb M) pc = .ok (.aastore, am_len (.aastore) (npc - pc))) (hn : npc = pc + am_len (.aastore) (npc - pc)) (hok : am_okX MT M pc (.aastore) a b t u pos cv cl = true) (h : am_ins C M scr Q X P0 pc (.aastore) npc a b t u cv cl L st G nc ns) : am_W p l e R s m args below meth c dC dI dA M A H0 ad0 n0 QW pc L st G nc ns := by
  obtain ⟨hx, hb, hml, hown, hts, hini, hK, hKX, hRc, hRs, hRf, hRl⟩ := hC
  have hn : npc = pc + 1 := hn
  subst hn
  simp only [am_ins] at h
  split at h
  · split at h
    · rename_i k lst ci fs hG hV
      obtain ⟨hk3, hk6, hci, hin, h⟩ := h
      intro ad H locs ls hrel hn0 hw hnd hL hcs
      have hlt : (_ : Int32).toNatClampNeg < lst.length := Nat.lt_of_not_le fun z => hin (Or.inr z)
      have hty : ∃ r : vw_C, (am_ty dA)[k]? = some (dA k, .object r.1) ∧ vwCl[ci]? = some r := by
        subst hci
        match k, hk3, hk6 with
        | 3, _, _ => exact ⟨_, rfl, rfl⟩
        | 4, _, _ => exact ⟨_, rfl, rfl⟩
        | 5, _, _ => exact ⟨_, rfl, rfl⟩
      obtain ⟨r, hty, hr⟩ := hty
      exact va_astq hx hb hK hw.1 hw.2.1 hw.2.2 _ k _ ci (am_cw_get hG) hty (am_cw_get hV) hr hin hd (fun H1 locs1 h1 h2 h3 => hm _ _ _ _ _ _ h ad H1 locs1 ls hrel (by rw [List.length_set]; exact hn0) ⟨by rw [← am_set_R hlt]; exact h1, by rw [← am_set_R hlt]; exact h2, h3⟩ hnd hL hcs)
    · exact h.elim
  · exact h.elim

theorem am_i_arraylength (hC : am_Ctx p R s m args meth c dC dI dA d M) {P0 : am_P} (hm : ∀ pc L st G nc ns, P0 pc L st G nc ns → am_W p l e R s m args below meth c dC dI dA M A H0 ad0 n0 QW pc L st G nc ns) {C : am_C} {Q : Option Value → am_G → Prop} {X : Nat → am_L → am_G → Nat → Nat → Prop} {pc npc a b t u pos : Nat} {cv : Int32} {cl : Int64} {L : am_L} {st : List Value} {G : am_G} {nc ns : Nat} (hd : decode (am_mb M) pc = .ok (.arraylength, am_len (.arraylength) (npc - pc))) (hn : npc = pc + am_len (.arraylength) (npc - pc)) (hok : am_okX MT M pc (.arraylength) a b t u pos cv cl = true) (h : am_ins C M none Q X P0 pc (.arraylength) npc a b t u cv cl L st G nc ns) : am_W p l e R s m args below meth c dC dI dA M A H0 ad0 n0 QW pc L st G nc ns := by
  obtain ⟨hx, hb, hml, hown, hts, hini, hK, hKX, hRc, hRs, hRf, hRl⟩ := hC
  have hn : npc = pc + 1 := hn
  subst hn
  simp only [am_ins] at h
  split at h
  · split at h
    · rename_i k n f hG
      obtain ⟨hk, h⟩ := h
      intro ad H locs ls hrel hn0 hw hnd hL hcs
      have hty : ∃ ty, (am_ty dA)[k]? = some (dA k, ty) := by
        match k, hk with
        | 0, _ => exact ⟨_, rfl⟩
        | 1, _ => exact ⟨_, rfl⟩
        | 2, _ => exact ⟨_, rfl⟩
      obtain ⟨ty, hty⟩ := hty
      exact va_alen hx hb hK hw.1 _ k (am_cw_get hG) hty rfl hd (hm _ _ _ _ _ _ h ad H locs ls hrel hn0 hw hnd hL hcs)
    · rename_i hG
      intro ad H locs ls hrel hn0 hw hnd hL hcs
      exact va_alen hx hb hK hw.1 _ 1 (am_cw_get hG) rfl rfl hd (hm _ _ _ _ _ _ h ad H locs ls hrel hn0 hw hnd hL hcs)
    · rename_i k lst hG
      obtain ⟨hk3, hk6, h⟩ := h
      intro ad H locs ls hrel hn0 hw hnd hL hcs
      have hty : ∃ ty, (am_ty dA)[k]? = some (dA k, ty) := by
        match k, hk3, hk6 with
        | 3, _, _ => exact ⟨_, rfl⟩
        | 4, _, _ => exact ⟨_, rfl⟩
        | 5, _, _ => exact ⟨_, rfl⟩
      obtain ⟨ty, hty⟩ := hty
      exact va_alen hx hb hK hw.1 _ k (am_cw_get hG) hty rfl hd (hm _ _ _ _ _ _ h ad H locs ls hrel hn0 hw hnd hL hcs)
    · exact h.elim
  · exact h.elim

theorem am_i_new {idx : Nat} (hC : am_Ctx p R s m args meth c dC dI dA d M) {P0 : am_P} (hm : ∀ pc L st G nc ns, P0 pc L st G nc ns → am_W p l e R s m args below meth c dC dI dA M A H0 ad0 n0 QW pc L st G nc ns) {C : am_C} {Q : Option Value → am_G → Prop} {X : Nat → am_L → am_G → Nat → Nat → Prop} {pc npc a b t u pos : Nat} {cv : Int32} {cl : Int64} {L : am_L} {st : List Value} {G : am_G} {nc ns : Nat} (hd : decode (am_mb M) pc = .ok (.new idx, am_len (.new idx) (npc - pc))) (hn : npc = pc + am_len (.new idx) (npc - pc)) (hok : am_okX MT M pc (.new idx) a b t u pos cv cl = true) (h : am_ins C M scr Q X P0 pc (.new idx) npc a b t u cv cl L st G nc ns) (hA : ∀ q, H0.size ≤ q → A q) (ht : t = 0) : am_W p l e R s m args below meth c dC dI dA M A H0 ad0 n0 QW pc L st G nc ns := by
  obtain ⟨hx, hb, hml, hown, hts, hini, hK, hKX, hRc, hRs, hRf, hRl⟩ := hC
  have hn : npc = pc + 3 := hn
  subst hn
  match t, ht with
  | 0, _ =>
    simp only [am_okX] at hok
    split at hok
    · rename_i Cn T N hcl
      simp only [Bool.and_eq_true, decide_eq_true_eq] at hok
      obtain ⟨⟨rfl, hcw⟩, hiw⟩ := hok
      simp only [am_ins] at h
      obtain ⟨hc1, hc2, hwf, h⟩ := h
      have hwf2 := hwf
      simp only [am_wf, am_wfc, Bool.and_eq_true, decide_eq_true_eq] at hwf2
      obtain ⟨⟨⟨hwL, hwS⟩, hwG⟩, hbig⟩ := hwf2
      obtain ⟨hin, ty, hty, hnm, hdf⟩ := am_cls_ok hcl
      intro ad H locs ls hrel hn0 hw hnd hL hcs
      refine va_new hx hb hts hin ty hty hown (hts _ (am_at_U hcw rfl)) (hts _ (am_at_U hiw rfl)) (hts _ (am_cls_ini hcl)) hK hw.1 hw.2.1 hw.2.2 hA hcl (fs := am_dfl a) hdf (by rw [hRc]; exact hc1) (by rw [hRs]; exact hc2) hd (fun q H1 h1 h2 h3 => ?_)
      have hxx : ∀ k : Nat, k < G.length ∨ 1000000 ≤ k → va_up ad G.length q k = ad k := fun k hk => by
        simp only [va_up]
        rw [if_neg (by omega)]
      have hk := hm _ _ _ _ _ _ h (va_up ad G.length q) H1 locs ls ⟨fun z => by omega, fun k hk => (hxx k (by omega)).trans (hrel.2 k hk)⟩ (by rw [List.length_append]; omega) (am_Wd_new hwG (by simp only [am_ce, am_dfl_cv]) h1 h2 h3 hbig) hnd (am_LH_ad hxx hwL hL) ⟨hc1, hc2⟩
      refine W.eq ?_ hk
      simp only [List.map_cons, am_cv, am_st_ad hxx hwS, va_up, if_true]
    · cases hok

theorem am_i_newarray {aty : ArrayType} (hC : am_Ctx p R s m args meth c dC dI dA d M) {P0 : am_P} (hm : ∀ pc L st G nc ns, P0 pc L st G nc ns → am_W p l e R s m args below meth c dC dI dA M A H0 ad0 n0 QW pc L st G nc ns) {C : am_C} {Q : Option Value → am_G → Prop} {X : Nat → am_L → am_G → Nat → Nat → Prop} {pc npc a b t u pos : Nat} {cv : Int32} {cl : Int64} {L : am_L} {st : List Value} {G : am_G} {nc ns : Nat} (hd : decode (am_mb M) pc = .ok (.newarray aty, am_len (.newarray aty) (npc - pc))) (hn : npc = pc + am_len (.newarray aty) (npc - pc)) (hok : am_okX MT M pc (.newarray aty) a b t u pos cv cl = true) (h : am_ins C M scr Q X P0 pc (.newarray aty) npc a b t u cv cl L st G nc ns) (hA : ∀ q, H0.size ≤ q → A q) : am_W p l e R s m args below meth c dC dI dA M A H0 ad0 n0 QW pc L st G nc ns := by
  obtain ⟨hx, hb, hml, hown, hts, hini, hK, hKX, hRc, hRs, hRf, hRl⟩ := hC
  have hn : npc = pc + 2 := hn
  subst hn
  simp only [am_okX, Bool.and_eq_true, decide_eq_true_eq] at hok
  obtain ⟨⟨ha, rfl⟩, hwd⟩ := hok
  simp only [am_ins] at h
  split at h
  · rename_i n st1
    obtain ⟨hneg, hsz, hc1, hc2, hwf, h⟩ := h
    have hwf2 := hwf
    simp only [am_wf, am_wfc, Bool.and_eq_true, decide_eq_true_eq] at hwf2
    obtain ⟨⟨⟨hwL, hwS⟩, hwG⟩, hbig⟩ := hwf2
    intro ad H locs ls hrel hn0 hw hnd hL hcs
    have key : ∀ (a0 : vp_A) (ty : FieldType), newarray.typeOf (am_aty a) = ty → (∀ cA : ClassId, vp_cell cA a0 = arrV cA n.toNatClampNeg (fun _ => defaultValue ty)) → n.toNatClampNeg * componentBytes ty ≤ 536870912 → (∀ ad1 : Nat → Nat, am_ce dA ad1 (am_newa a n.toNatClampNeg) = .inl (dA a, a0)) → W p l e R s m args below meth c H locs nc ns QW (F0 m pc ls ((Value.int n :: st1).map (am_cv ad))) := by
      intro a0 ty hty ha0 hbytes hce
      refine va_newa hx hb (hts _ (am_at_U hwd rfl)) hty hK hw.1 hw.2.1 hw.2.2 hA ha0 hneg rfl hbytes (by rw [hRc]; exact hc1) (by rw [hRs]; exact hc2) hd (fun q cA H1 hK1 h1 h2 h3 => ?_)
      have hcA := am_prim ha hty hK hK1
      subst hcA
      have hxx : ∀ k : Nat, k < G.length ∨ 1000000 ≤ k → va_up ad G.length q k = ad k := fun k hk => by
        simp only [va_up]
        rw [if_neg (by omega)]
      have hk := hm _ _ _ _ _ _ h (va_up ad G.length q) H1 locs ls ⟨fun z => by omega, fun k hk => (hxx k (by omega)).trans (hrel.2 k hk)⟩ (by rw [List.length_append]; omega) (am_Wd_new hwG (hce _) h1 h2 h3 hbig) hnd (am_LH_ad hxx hwL hL) ⟨hc1, hc2⟩
      refine W.eq ?_ hk
      simp only [List.map_cons, am_cv, am_st_ad hxx hwS, va_up, if_true]
    match a, ha with
    | 0, _ => exact key (n.toNatClampNeg, .inl (fun _ => 0)) .int rfl (fun _ => rfl) (by show n.toNatClampNeg * 4 ≤ _; omega) (fun _ => rfl)
    | 1, _ => exact key (n.toNatClampNeg, .inr (.inl (fun _ => 0))) .long rfl (fun _ => rfl) (by show n.toNatClampNeg * 8 ≤ _; omega) (fun _ => rfl)
    | 2, _ => exact key (n.toNatClampNeg, .inl (fun _ => 0)) .boolean rfl (fun _ => rfl) (by show n.toNatClampNeg * 1 ≤ _; omega) (fun _ => rfl)
  · exact h.elim

theorem am_i_anewarray {idx : Nat} (hC : am_Ctx p R s m args meth c dC dI dA d M) {P0 : am_P} (hm : ∀ pc L st G nc ns, P0 pc L st G nc ns → am_W p l e R s m args below meth c dC dI dA M A H0 ad0 n0 QW pc L st G nc ns) {C : am_C} {Q : Option Value → am_G → Prop} {X : Nat → am_L → am_G → Nat → Nat → Prop} {pc npc a b t u pos : Nat} {cv : Int32} {cl : Int64} {L : am_L} {st : List Value} {G : am_G} {nc ns : Nat} (hd : decode (am_mb M) pc = .ok (.anewarray idx, am_len (.anewarray idx) (npc - pc))) (hn : npc = pc + am_len (.anewarray idx) (npc - pc)) (hok : am_okX MT M pc (.anewarray idx) a b t u pos cv cl = true) (h : am_ins C M scr Q X P0 pc (.anewarray idx) npc a b t u cv cl L st G nc ns) (hA : ∀ q, H0.size ≤ q → A q) : am_W p l e R s m args below meth c dC dI dA M A H0 ad0 n0 QW pc L st G nc ns := by
  obtain ⟨hx, hb, hml, hown, hts, hini, hK, hKX, hRc, hRs, hRf, hRl⟩ := hC
  have hn : npc = pc + 3 := hn
  subst hn
  simp only [am_okX, Bool.and_eq_true, decide_eq_true_eq] at hok
  obtain ⟨⟨ha3, ha6⟩, hok⟩ := hok
  split at hok
  · rename_i Cn T N hcl
    simp only [am_ins] at h
    split at h
    · rename_i n st1
      obtain ⟨hneg, hsz, hc1, hc2, hwf, h⟩ := h
      have hwf2 := hwf
      simp only [am_wf, am_wfc, Bool.and_eq_true, decide_eq_true_eq] at hwf2
      obtain ⟨⟨⟨hwL, hwS⟩, hwG⟩, hbig⟩ := hwf2
      have hty : (am_ty dA)[a]? = some (dA a, .object Cn) ∧ va_AO Cn s := by
        match a, ha3, ha6 with
        | 3, _, _ => cases hcl; exact ⟨rfl, hKX.2.1⟩
        | 4, _, _ => cases hcl; exact ⟨rfl, hKX.2.2.1⟩
        | 5, _, _ => cases hcl; exact ⟨rfl, hKX.2.2.2⟩
      intro ad H locs ls hrel hn0 hw hnd hL hcs
      refine va_newq hx hb hown (hts _ (am_at_U hok rfl)) hty.2 hK hw.1 hw.2.1 hw.2.2 hA hneg rfl (by omega) (by rw [hRc]; exact hc1) (by rw [hRs]; exact hc2) hd (fun q cA H1 hK1 h1 h2 h3 => ?_)
      have hcA := am_obj hty.1 hK hK1
      subst hcA
      have hce : am_ce dA (va_up ad G.length q) (.inr (.inr (.inl (a, List.replicate n.toNatClampNeg none)))) = .inl (dA a, n.toNatClampNeg, .inr (.inr (.inr (.inr (fun _ => none))))) := by
        simp only [am_ce, List.length_replicate]
        congr 7
        funext j
        rw [List.getD_eq_getElem?_getD, List.getElem?_replicate]
        split <;> rfl
      have hxx : ∀ k : Nat, k < G.length ∨ 1000000 ≤ k → va_up ad G.length q k = ad k := fun k hk => by
        simp only [va_up]
        rw [if_neg (by omega)]
      have hk := hm _ _ _ _ _ _ h (va_up ad G.length q) H1 locs ls ⟨fun z => by omega, fun k hk => (hxx k (by omega)).trans (hrel.2 k hk)⟩ (by rw [List.length_append]; omega) (am_Wd_new hwG hce h1 h2 h3 hbig) hnd (am_LH_ad hxx hwL hL) ⟨hc1, hc2⟩
      refine W.eq ?_ hk
      simp only [List.map_cons, am_cv, am_st_ad hxx hwS, va_up, if_true]
    · exact h.elim
  · cases hok

theorem am_i_mmax {idx : Nat} (hC : am_Ctx p R s m args meth c dC dI dA d M) {P0 : am_P} (hm : ∀ pc L st G nc ns, P0 pc L st G nc ns → am_W p l e R s m args below meth c dC dI dA M A H0 ad0 n0 QW pc L st G nc ns) {C : am_C} {Q : Option Value → am_G → Prop} {X : Nat → am_L → am_G → Nat → Nat → Prop} {pc npc a b t u pos : Nat} {cv : Int32} {cl : Int64} {L : am_L} {st : List Value} {G : am_G} {nc ns : Nat} (hd : decode (am_mb M) pc = .ok (.invokestatic idx, am_len (.invokestatic idx) (npc - pc))) (hn : npc = pc + am_len (.invokestatic idx) (npc - pc)) (hok : am_okX MT M pc (.invokestatic idx) a b t u pos cv cl = true) (h : am_ins C M scr Q X P0 pc (.invokestatic idx) npc a b t u cv cl L st G nc ns) (ht : t = 6) : am_W p l e R s m args below meth c dC dI dA M A H0 ad0 n0 QW pc L st G nc ns := by
  obtain ⟨hx, hb, hml, hown, hts, hini, hK, hKX, hRc, hRs, hRf, hRl⟩ := hC
  have hn : npc = pc + 3 := hn
  subst hn
  subst ht
  simp only [am_okX] at hok
  simp only [am_ins] at h
  split at h
  · obtain ⟨hcat, h⟩ := h
    intro ad H locs ls hrel hn0 hw hnd hL hcs
    exact va_mmax hx hb (hml.trans hL.2.1.symm) hown (hts _ (am_at_U hok rfl)) (hts _ am_w_maxs) (hts _ am_w_mi) (hts _ am_w_maxc) (by omega) (by rw [am_catsum]; omega) (by rw [hRc]; exact hcs.1) (by rw [hRs]; exact hcs.2) hd (hm _ _ _ _ _ _ h ad H locs ls hrel hn0 hw hnd hL hcs)
  · exact h.elim

theorem am_i_mmin {idx : Nat} (hC : am_Ctx p R s m args meth c dC dI dA d M) {P0 : am_P} (hm : ∀ pc L st G nc ns, P0 pc L st G nc ns → am_W p l e R s m args below meth c dC dI dA M A H0 ad0 n0 QW pc L st G nc ns) {C : am_C} {Q : Option Value → am_G → Prop} {X : Nat → am_L → am_G → Nat → Nat → Prop} {pc npc a b t u pos : Nat} {cv : Int32} {cl : Int64} {L : am_L} {st : List Value} {G : am_G} {nc ns : Nat} (hd : decode (am_mb M) pc = .ok (.invokestatic idx, am_len (.invokestatic idx) (npc - pc))) (hn : npc = pc + am_len (.invokestatic idx) (npc - pc)) (hok : am_okX MT M pc (.invokestatic idx) a b t u pos cv cl = true) (h : am_ins C M scr Q X P0 pc (.invokestatic idx) npc a b t u cv cl L st G nc ns) (ht : t = 7) : am_W p l e R s m args below meth c dC dI dA M A H0 ad0 n0 QW pc L st G nc ns := by
  obtain ⟨hx, hb, hml, hown, hts, hini, hK, hKX, hRc, hRs, hRf, hRl⟩ := hC
  have hn : npc = pc + 3 := hn
  subst hn
  subst ht
  simp only [am_okX] at hok
  simp only [am_ins] at h
  split at h
  · obtain ⟨hcat, h⟩ := h
    intro ad H locs ls hrel hn0 hw hnd hL hcs
    exact va_mmin hx hb (hml.trans hL.2.1.symm) hown (hts _ (am_at_U hok rfl)) (hts _ am_w_mins) (hts _ am_w_mi) (hts _ am_w_minc) (by omega) (by rw [am_catsum]; omega) (by rw [hRc]; exact hcs.1) (by rw [hRs]; exact hcs.2) hd (hm _ _ _ _ _ _ h ad H locs ls hrel hn0 hw hnd hL hcs)
  · exact h.elim

theorem am_i_mabs {idx : Nat} (hC : am_Ctx p R s m args meth c dC dI dA d M) {P0 : am_P} (hm : ∀ pc L st G nc ns, P0 pc L st G nc ns → am_W p l e R s m args below meth c dC dI dA M A H0 ad0 n0 QW pc L st G nc ns) {C : am_C} {Q : Option Value → am_G → Prop} {X : Nat → am_L → am_G → Nat → Nat → Prop} {pc npc a b t u pos : Nat} {cv : Int32} {cl : Int64} {L : am_L} {st : List Value} {G : am_G} {nc ns : Nat} (hd : decode (am_mb M) pc = .ok (.invokestatic idx, am_len (.invokestatic idx) (npc - pc))) (hn : npc = pc + am_len (.invokestatic idx) (npc - pc)) (hok : am_okX MT M pc (.invokestatic idx) a b t u pos cv cl = true) (h : am_ins C M scr Q X P0 pc (.invokestatic idx) npc a b t u cv cl L st G nc ns) (ht : t = 8) : am_W p l e R s m args below meth c dC dI dA M A H0 ad0 n0 QW pc L st G nc ns := by
  obtain ⟨hx, hb, hml, hown, hts, hini, hK, hKX, hRc, hRs, hRf, hRl⟩ := hC
  have hn : npc = pc + 3 := hn
  subst hn
  subst ht
  simp only [am_okX] at hok
  simp only [am_ins] at h
  split at h
  · obtain ⟨hcat, h⟩ := h
    intro ad H locs ls hrel hn0 hw hnd hL hcs
    exact va_mabs hx hb (hml.trans hL.2.1.symm) hown (hts _ (am_at_U hok rfl)) (hts _ am_w_abss) (hts _ am_w_mi) (hts _ am_w_absc) (by omega) (by rw [am_catsum]; omega) (by rw [hRc]; exact hcs.1) (by rw [hRs]; exact hcs.2) hd (hm _ _ _ _ _ _ h ad H locs ls hrel hn0 hw hnd hL hcs)
  · exact h.elim

theorem am_i_mmaxl {idx : Nat} (hC : am_Ctx p R s m args meth c dC dI dA d M) {P0 : am_P} (hm : ∀ pc L st G nc ns, P0 pc L st G nc ns → am_W p l e R s m args below meth c dC dI dA M A H0 ad0 n0 QW pc L st G nc ns) {C : am_C} {Q : Option Value → am_G → Prop} {X : Nat → am_L → am_G → Nat → Nat → Prop} {pc npc a b t u pos : Nat} {cv : Int32} {cl : Int64} {L : am_L} {st : List Value} {G : am_G} {nc ns : Nat} (hd : decode (am_mb M) pc = .ok (.invokestatic idx, am_len (.invokestatic idx) (npc - pc))) (hn : npc = pc + am_len (.invokestatic idx) (npc - pc)) (hok : am_okX MT M pc (.invokestatic idx) a b t u pos cv cl = true) (h : am_ins C M scr Q X P0 pc (.invokestatic idx) npc a b t u cv cl L st G nc ns) (ht : t = 9) : am_W p l e R s m args below meth c dC dI dA M A H0 ad0 n0 QW pc L st G nc ns := by
  obtain ⟨hx, hb, hml, hown, hts, hini, hK, hKX, hRc, hRs, hRf, hRl⟩ := hC
  have hn : npc = pc + 3 := hn
  subst hn
  subst ht
  simp only [am_okX] at hok
  simp only [am_ins] at h
  split at h
  · obtain ⟨hcat, h⟩ := h
    intro ad H locs ls hrel hn0 hw hnd hL hcs
    exact va_mmax_long hx hb (hml.trans hL.2.1.symm) hown (hts _ (am_at_U hok rfl)) (hts _ am_w_maxls) (hts _ am_w_mi) (hts _ am_w_maxlc) (by omega) (by rw [am_catsum]; omega) (by rw [hRc]; exact hcs.1) (by rw [hRs]; exact hcs.2) hd (hm _ _ _ _ _ _ h ad H locs ls hrel hn0 hw hnd hL hcs)
  · exact h.elim

theorem am_i_mabsl {idx : Nat} (hC : am_Ctx p R s m args meth c dC dI dA d M) {P0 : am_P} (hm : ∀ pc L st G nc ns, P0 pc L st G nc ns → am_W p l e R s m args below meth c dC dI dA M A H0 ad0 n0 QW pc L st G nc ns) {C : am_C} {Q : Option Value → am_G → Prop} {X : Nat → am_L → am_G → Nat → Nat → Prop} {pc npc a b t u pos : Nat} {cv : Int32} {cl : Int64} {L : am_L} {st : List Value} {G : am_G} {nc ns : Nat} (hd : decode (am_mb M) pc = .ok (.invokestatic idx, am_len (.invokestatic idx) (npc - pc))) (hn : npc = pc + am_len (.invokestatic idx) (npc - pc)) (hok : am_okX MT M pc (.invokestatic idx) a b t u pos cv cl = true) (h : am_ins C M scr Q X P0 pc (.invokestatic idx) npc a b t u cv cl L st G nc ns) (ht : t = 10) : am_W p l e R s m args below meth c dC dI dA M A H0 ad0 n0 QW pc L st G nc ns := by
  obtain ⟨hx, hb, hml, hown, hts, hini, hK, hKX, hRc, hRs, hRf, hRl⟩ := hC
  have hn : npc = pc + 3 := hn
  subst hn
  subst ht
  simp only [am_okX] at hok
  simp only [am_ins] at h
  split at h
  · obtain ⟨hcat, h⟩ := h
    intro ad H locs ls hrel hn0 hw hnd hL hcs
    exact va_mabs_long hx hb (hml.trans hL.2.1.symm) hown (hts _ (am_at_U hok rfl)) (hts _ am_w_absls) (hts _ am_w_mi) (hts _ am_w_abslc) (by omega) (by rw [am_catsum]; omega) (by rw [hRc]; exact hcs.1) (by rw [hRs]; exact hcs.2) hd (hm _ _ _ _ _ _ h ad H locs ls hrel hn0 hw hnd hL hcs)
  · exact h.elim

theorem am_i_acopy {idx : Nat} (hC : am_Ctx p R s m args meth c dC dI dA d M) {P0 : am_P} (hm : ∀ pc L st G nc ns, P0 pc L st G nc ns → am_W p l e R s m args below meth c dC dI dA M A H0 ad0 n0 QW pc L st G nc ns) {C : am_C} {Q : Option Value → am_G → Prop} {X : Nat → am_L → am_G → Nat → Nat → Prop} {pc npc a b t u pos : Nat} {cv : Int32} {cl : Int64} {L : am_L} {st : List Value} {G : am_G} {nc ns : Nat} (hd : decode (am_mb M) pc = .ok (.invokestatic idx, am_len (.invokestatic idx) (npc - pc))) (hn : npc = pc + am_len (.invokestatic idx) (npc - pc)) (hok : am_okX MT M pc (.invokestatic idx) a b t u pos cv cl = true) (h : am_ins C M scr Q X P0 pc (.invokestatic idx) npc a b t u cv cl L st G nc ns) (ht : t = 11) : am_W p l e R s m args below meth c dC dI dA M A H0 ad0 n0 QW pc L st G nc ns := by
  obtain ⟨hx, hb, hml, hown, hts, hini, hK, hKX, hRc, hRs, hRf, hRl⟩ := hC
  have hn : npc = pc + 3 := hn
  subst hn
  subst ht
  simp only [am_okX] at hok
  simp only [am_ins] at h
  split at h
  · unfold am_cpy at h
    obtain ⟨hp1, hp2, hp3, hcat, h⟩ := h
    split at h
    · rename_i t0 n0' f t1 n1 g hG0 hG1
      obtain ⟨rfl, rfl, hb0, hb1, h⟩ := h
      intro ad H locs ls hrel hn0 hw hnd hL hcs
      exact va_copyi hx hb (hml.trans hL.2.1.symm) hown (hts _ (am_at_U hok rfl)) (hts _ am_w_an) (hts _ am_w_as) (hts _ am_w_ai) hK hw.1 hw.2.1 hw.2.2 _ _ 0 0 (am_cw_get hG0) (am_cw_get hG1) rfl rfl rfl hp1 hp2 hp3 hb0 hb1 (fun _ _ => rfl) (by omega) (by rw [am_catsum]; simp only [nativeFrameWords]; split <;> omega) hd (fun H1 locs1 h1 h2 h3 => hm _ _ _ _ _ _ h ad H1 locs1 ls hrel (by rw [List.length_set]; exact hn0) ⟨by rw [← am_cw_set]; exact h1, by rw [← am_cw_set]; exact h2, h3⟩ hnd hL hcs)
    · rename_i n0' f n1 g hG0 hG1
      obtain ⟨hb0, hb1, h⟩ := h
      intro ad H locs ls hrel hn0 hw hnd hL hcs
      exact va_copyl hx hb (hml.trans hL.2.1.symm) hown (hts _ (am_at_U hok rfl)) (hts _ am_w_an) (hts _ am_w_as) (hts _ am_w_ai) hK hw.1 hw.2.1 hw.2.2 _ _ 1 1 (am_cw_get hG0) (am_cw_get hG1) rfl rfl rfl hp1 hp2 hp3 hb0 hb1 (fun _ _ => rfl) (by omega) (by rw [am_catsum]; simp only [nativeFrameWords]; split <;> omega) hd (fun H1 locs1 h1 h2 h3 => hm _ _ _ _ _ _ h ad H1 locs1 ls hrel (by rw [List.length_set]; exact hn0) ⟨by rw [← am_cw_set]; exact h1, by rw [← am_cw_set]; exact h2, h3⟩ hnd hL hcs)
    · exact h.elim
  · exact h.elim

theorem am_i_oinit {idx : Nat} (hC : am_Ctx p R s m args meth c dC dI dA d M) {P0 : am_P} (hm : ∀ pc L st G nc ns, P0 pc L st G nc ns → am_W p l e R s m args below meth c dC dI dA M A H0 ad0 n0 QW pc L st G nc ns) {C : am_C} {Q : Option Value → am_G → Prop} {X : Nat → am_L → am_G → Nat → Nat → Prop} {pc npc a b t u pos : Nat} {cv : Int32} {cl : Int64} {L : am_L} {st : List Value} {G : am_G} {nc ns : Nat} (hd : decode (am_mb M) pc = .ok (.invokespecial idx, am_len (.invokespecial idx) (npc - pc))) (hn : npc = pc + am_len (.invokespecial idx) (npc - pc)) (hok : am_okX MT M pc (.invokespecial idx) a b t u pos cv cl = true) (h : am_ins C M scr Q X P0 pc (.invokespecial idx) npc a b t u cv cl L st G nc ns) (ht : t = 5) : am_W p l e R s m args below meth c dC dI dA M A H0 ad0 n0 QW pc L st G nc ns := by
  obtain ⟨hx, hb, hml, hown, hts, hini, hK, hKX, hRc, hRs, hRf, hRl⟩ := hC
  have hn : npc = pc + 3 := hn
  subst hn
  subst ht
  simp only [am_okX] at hok
  simp only [am_ins] at h
  split at h
  · obtain ⟨hcat, h⟩ := h
    intro ad H locs ls hrel hn0 hw hnd hL hcs
    refine W.objInit hx hb hown (hts _ (am_at_U hok rfl)) (hts _ am_w_oi) (hts _ am_w_oc) rfl (hL.2.1.trans hml.symm) rfl hd (by omega) ?_ ?_
    · rw [am_catsum]
      show 2 * 0 + _ + 12 ≤ _
      omega
    · exact hm _ _ _ _ _ _ h ad H locs ls hrel hn0 hw hnd hL hcs
  · exact h.elim

end AMS
end
section
/-! CALLS, and the whole: what comes to its end in the abstract machine does so in the machine. -/
theorem am_lnk_ok {MT : Nat → Option am_M} {own : String} {idx a b t u pos : Nat} (h : am_lnk MT own idx a b t u pos = true) : ∃ M2, MT a = some M2 ∧ b = am_mp M2 ∧ ((t = 0 ∧ am_kd M2 = 1 ∧ u = am_mk M2 ∧ Jvm.Cond.methodLink own idx (am_my M2) ∈ am_U ∧ am_mc M2 = 0 ∧ am_ms M2 = 0) ∨ (t = 1 ∧ am_kd M2 = 0 ∧ Jvm.Cond.methodLink own idx (am_my M2) ∈ am_U ∧ am_mc M2 = 0 ∧ am_ms M2 = 0) ∨ (t = 2 ∧ am_kd M2 = 0 ∧ Jvm.Cond.methodLinkNest own idx (am_my M2) RX10 ∈ am_nest ∧ am_mc M2 = 0 ∧ am_ms M2 = 0) ∨ (t = 3 ∧ am_kd M2 = 2 ∧ Jvm.Cond.methodLink own idx (am_my M2) ∈ am_U ∧ am_mc M2 = u / 1000000 ∧ am_ms M2 = u % 1000000) ∨ (t = 4 ∧ am_kd M2 = 2 ∧ Jvm.Cond.methodLinkNest own idx (am_my M2) RX10 ∈ am_nest ∧ am_mc M2 = u / 1000000 ∧ am_ms M2 = u % 1000000)) := by
  unfold am_lnk at h
  split at h
  · rename_i M2 hM
    rw [Bool.and_eq_true, decide_eq_true_eq] at h
    obtain ⟨hb, h⟩ := h
    refine ⟨M2, hM, hb, ?_⟩
    have hn : ∀ {w : Jvm.Cond}, am_at pos w = true → (match w with
      | .methodLinkNest _ _ _ _ => true
      | _ => false) = true → w ∈ am_nest := fun hw hg => List.mem_filter.mpr ⟨List.mem_of_getElem? (of_decide_eq_true hw), hg⟩
    split at h
    · simp only [Bool.and_eq_true, decide_eq_true_eq] at h
      exact Or.inl ⟨rfl, h.1.1.1.1, h.1.1.1.2, am_at_U h.1.1.2 rfl, h.1.2, h.2⟩
    · simp only [Bool.and_eq_true, decide_eq_true_eq] at h
      exact Or.inr (Or.inl ⟨rfl, h.1.1.1, am_at_U h.1.1.2 rfl, h.1.2, h.2⟩)
    · simp only [Bool.and_eq_true, decide_eq_true_eq] at h
      exact Or.inr (Or.inr (Or.inl ⟨rfl, h.1.1.1, hn h.1.1.2 rfl, h.1.2, h.2⟩))
    · simp only [Bool.and_eq_true, decide_eq_true_eq] at h
      exact Or.inr (Or.inr (Or.inr (Or.inl ⟨rfl, h.1.1.1, am_at_U h.1.1.2 rfl, h.1.2, h.2⟩)))
    · simp only [Bool.and_eq_true, decide_eq_true_eq] at h
      exact Or.inr (Or.inr (Or.inr (Or.inr ⟨rfl, h.1.1.1, hn h.1.1.2 rfl, h.1.2, h.2⟩)))
    · cases h
  · cases h
/-- what a callee's words are -/
theorem am_okM_ok {M : am_M} (h : am_okM M = true) : Jvm.Cond.code (am_my M) (am_mb M) (am_mL M) (am_mr M) ∈ am_U ∧ Jvm.Cond.initialized (am_my M).cls ∈ am_U ∧ plainName (am_my M).cls = true ∧ (am_my M).cls ≠ "java/lang/invoke/MethodHandle" ∧ (am_my M).cls ≠ "java/lang/invoke/VarHandle" ∧ am_mL M ≤ 40 ∧
    ((am_kd M = 0 ∧ Jvm.Cond.static (am_my M) ∈ am_U ∧ (parseMethodDescriptor (am_my M).desc).map (fun d => d.parameters.length) = some (am_mp M)) ∨
     (am_kd M = 1 ∧ Jvm.Cond.instanceMethod (am_my M) ∈ am_U ∧ Jvm.Cond.selects (am_my M).cls (am_my M) (am_my M) ∈ am_U ∧ (parseMethodDescriptor (am_my M).desc).map (fun d => d.parameters.length) = some (am_mp M - 1) ∧ 1 ≤ am_mp M ∧ (vwCl[am_mk M]?).map (fun q => q.1) = some (am_my M).cls) ∨
     (am_kd M = 2 ∧ Jvm.Cond.instanceMethod (am_my M) ∈ am_U ∧ (parseMethodDescriptor (am_my M).desc).map (fun d => d.parameters.length) = some (am_mp M - 1) ∧ 1 ≤ am_mp M ∧ (am_my M).name = "<init>" ∧ am_mr M = none)) := by
  unfold am_okM at h
  unfold am_kd
  split at h
  · rename_i p0 p1 p2 p3 k hw
    simp only [Bool.and_eq_true, decide_eq_true_eq] at h
    obtain ⟨⟨⟨⟨⟨⟨h1, h2⟩, h3⟩, h4⟩, h5⟩, h6⟩, h7⟩ := h
    refine ⟨am_at_U h1 rfl, am_at_U h2 rfl, h3, h4, h5, h6, ?_⟩
    split at h7
    · simp only [Bool.and_eq_true, decide_eq_true_eq] at h7
      exact Or.inl ⟨rfl, am_at_U h7.1.1 rfl, h7.1.2⟩
    · simp only [Bool.and_eq_true, decide_eq_true_eq] at h7
      exact Or.inr (Or.inl ⟨rfl, am_at_U h7.1.1.1.1 rfl, am_at_U h7.1.1.1.2 rfl, h7.1.1.2, h7.1.2, h7.2⟩)
    · simp only [Bool.and_eq_true, decide_eq_true_eq] at h7
      exact Or.inr (Or.inr ⟨rfl, am_at_U h7.1.1.1.1 rfl, h7.1.1.1.2, h7.1.1.2, h7.1.2, h7.2⟩)
    · cases h7
  · cases h
theorem am_take {st : List Value} {b : Nat} {v : Value} (hb : 1 ≤ b) (h : st[b - 1]? = some v) : (st.take b).reverse = v :: (st.take (b - 1)).reverse ∧ st = st.take (b - 1) ++ v :: st.drop b := by
  obtain ⟨k, rfl⟩ : ∃ k, b = k + 1 := ⟨b - 1, by omega⟩
  simp only [Nat.add_sub_cancel] at h ⊢
  have hk : k < st.length := (List.getElem?_eq_some_iff.mp h).1
  have hv : st[k] = v := (List.getElem?_eq_some_iff.mp h).2
  constructor
  · rw [List.take_succ_eq_append_getElem hk, List.reverse_append, hv]
    rfl
  · conv => lhs; rw [← List.take_append_drop k st]
    rw [List.drop_eq_getElem_cons hk, hv]
section AMS
variable {p : Program} {l : Launch} {e : Env} {R : Room} {s : State} {m : MethodId} {args : Array Value} {below : List Frame} {meth : Method} {c : Code} {dC : Nat → ClassId} {dI : Nat → Nat → Nat} {dA : Nat → ClassId} {d : Nat} {M : am_M} {A : Nat → Prop} {H0 : Heap} {ad0 : Nat → Nat} {n0 : Nat} {QW : State → Prop} {MT : Nat → Option am_M} {scr : Option (Nat × (Nat → Int32))}
theorem am_hR {d2 : Nat} {M2 : am_M} (hC : am_Ctx p R s m args meth c dC dI dA d M) (hd2 : d2 + 1 ≤ d) (hL : am_mL M2 ≤ 40) : (am_rm d2 M2).frames + 1 ≤ R.frames ∧ 8 + (am_mL M2 + 11) + (am_rm d2 M2).locals ≤ R.locals := by
  obtain ⟨-, -, -, -, -, -, -, -, -, -, h1, h2⟩ := hC
  simp only [am_rm]
  omega
theorem am_goodws (M2 : am_M) (h : am_okM M2 = true) : GoodIn am_U (am_ws M2) := by
  intro w hw
  rcases List.mem_cons.mp hw with rfl | hw
  · exact am_good (am_okM_ok h).1
  · exact am_good hw
/-- behind a call -/
theorem am_done {M2 : am_M} {post : Option Value → am_G → Prop} {ad : Nat → Nat} {G : am_G} {H : Heap} {locs : List Loc} {ls : Array Slot} {pc nc ns : Nat} {st0 rest : List Value} {a' : Array Value} (hA : ∀ q, H0.size ≤ q → A q)
    (hr : va_Run p l e R s m args below meth c H locs nc ns (am_mc M2) (am_ms M2) (F0 m pc ls st0) rest (am_Qc dC dI dA M2 post G ad H.size a') (va_A (am_cw dA ad G) H.size)) (hw : am_Wd dC dI dA A H0 ad G H locs)
    (kk : ∀ (r : Option Value) (G1 : am_G) (ad1 : Nat → Nat) (H1 : Heap) (locs1 : List Loc), post r G1 → (∀ f : Nat → Nat, r.map (am_cv f) = r) → am_Rel (am_mc M2) G.length ad ad1 → G.length ≤ G1.length → am_Wd dC dI dA A H0 ad1 G1 H1 locs1 → W p l e R s m args below meth c H1 locs1 (nc + am_mc M2) (ns + am_ms M2) QW (F0 m (pc + 3) ls (am_psh r rest))) :
    W p l e R s m args below meth c H locs nc ns QW (F0 m pc ls st0) := by
  have hF : ∀ q, va_A (am_cw dA ad G) H.size q → A q := fun q h => by
    rcases h with ⟨k, e2, h⟩ | h
    · exact hw.2.1.2 k (q, e2) h
    · exact hA q (Nat.le_trans hw.2.2.1 h)
  unfold am_Qc at hr
  cases hmr : am_mr M2 with
  | none =>
    rw [hmr] at hr
    exact va_callv hr hw.2.2 (fun q _ h => hF q h) hF (fun u t H1 locs1 ht _ hp hB _ _ hS1 => by
      obtain ⟨b1, b2, b3, b4⟩ := hB
      rw [ht] at b1
      exact kk none u.1 u.2 H1 locs1 hp (fun _ => rfl) b4 b3 ⟨b1, b2.weaken (fun k q _ h => hF q.1 h), hS1⟩)
  | some ty =>
   rw [hmr] at hr
   cases ty with
   | long =>
    exact va_calll hr hw.2.2 (fun q _ h => hF q h) hF (fun r u t H1 locs1 ht _ hp hB _ _ hS1 => by
      obtain ⟨b1, b2, b3, b4⟩ := hB
      rw [ht] at b1
      exact kk (some (.long r)) u.1 u.2 H1 locs1 hp (fun _ => rfl) b4 b3 ⟨b1, b2.weaken (fun k q _ h => hF q.1 h), hS1⟩)
   | _ =>
    exact va_calli hr hw.2.2 (fun q _ h => hF q h) hF (fun r u t H1 locs1 ht _ hp hB _ _ hS1 => by
      obtain ⟨b1, b2, b3, b4⟩ := hB
      rw [ht] at b1
      exact kk (some (.int r)) u.1 u.2 H1 locs1 hp (fun _ => rfl) b4 b3 ⟨b1, b2.weaken (fun k q _ h => hF q.1 h), hS1⟩)
theorem am_psh_cv {r : Option Value} {st : List Value} {ad : Nat → Nat} (h : ∀ f : Nat → Nat, r.map (am_cv f) = r) : (am_psh r st).map (am_cv ad) = am_psh r (st.map (am_cv ad)) := by
  cases r with
  | none => rfl
  | some v =>
    have := Option.some.inj (h ad)
    simp only [am_psh, List.map_cons, this]
/-- the calls' predicate is sound at launch l -/
def am_sC (l : Launch) (dC : Nat → ClassId) (dI : Nat → Nat → Nat) (dA : Nat → ClassId) (MT : Nat → Option am_M) (d : Nat) (C : am_C) : Prop := ∀ (mi : Nat) (As : List Value) (G : am_G) (post : Option Value → am_G → Prop), C mi As G post → ∃ (M2 : am_M) (d2 : Nat), MT mi = some M2 ∧ d2 + 1 ≤ d ∧ am_okM M2 = true ∧ am_Met l dC dI dA d2 M2 As G post
theorem am_preS {H : Heap} {ad : Nat → Nat} {G : am_G} {locs : List Loc} {As : List Value} (hC : am_Ctx p R s m args meth c dC dI dA d M) (hA : ∀ q, H0.size ≤ q → A q) (hSX : am_SX ad0 A s H0) (hrel : am_Rel (am_mc M) n0 ad0 ad) (hw : am_Wd dC dI dA A H0 ad G H locs) : ∀ U : State, U.heap = H → s.WarmedH U.vm → am_Pc dC dI dA As G ad H.size (As.map (am_cv ad)).toArray U := by
  obtain ⟨-, -, -, -, -, -, hK, hKX, -⟩ := hC
  intro U hU hW
  have hF : ∀ q, va_A (am_cw dA ad G) H.size q → A q := fun q h => by
    rcases h with ⟨k, e2, h⟩ | h
    · exact hw.2.1.2 k (q, e2) h
    · exact hA q (Nat.le_trans hw.2.2.1 h)
  have hs := am_SX_warm hW (am_SX_narrow (am_SX_kept (am_SX_ad hSX (fun k hk => hrel.2 k (Or.inr hk))) hw.2.2.2.1) hF)
  exact ⟨rfl, by rw [hU], by rw [hU]; exact hw.1, va_K.moved hW.alike hK, hw.2.1.weaken (fun _ _ _ _ => trivial), am_KX_warm hW hKX, by rw [hU]; exact hs⟩

theorem am_i_invV {idx : Nat} (hC : am_Ctx p R s m args meth c dC dI dA d M) {P0 : am_P} (hm : ∀ pc L st G nc ns, P0 pc L st G nc ns → am_W p l e R s m args below meth c dC dI dA M A H0 ad0 n0 QW pc L st G nc ns) {C : am_C} {Q : Option Value → am_G → Prop} {X : Nat → am_L → am_G → Nat → Nat → Prop} {pc npc a b t u pos : Nat} {cv : Int32} {cl : Int64} {L : am_L} {st : List Value} {G : am_G} {nc ns : Nat} (hd : decode (am_mb M) pc = .ok (.invokevirtual idx, am_len (.invokevirtual idx) (npc - pc))) (hn : npc = pc + am_len (.invokevirtual idx) (npc - pc)) (hok : am_okX MT M pc (.invokevirtual idx) a b t u pos cv cl = true) (h : am_ins C M scr Q X P0 pc (.invokevirtual idx) npc a b t u cv cl L st G nc ns) (hsC : am_sC l dC dI dA MT d C) (hA : ∀ q, H0.size ≤ q → A q) (hSX : am_SX ad0 A s H0) (ht : t = 0) : am_W p l e R s m args below meth c dC dI dA M A H0 ad0 n0 QW pc L st G nc ns := by
  obtain ⟨hx, hb, hml, hown, hts, hini, hK, hKX, hRc, hRs, hRf, hRl⟩ := hC
  have hn : npc = pc + 3 := hn
  subst hn
  have hCC : am_Ctx p R s m args meth c dC dI dA d M := ⟨hx, hb, hml, hown, hts, hini, hK, hKX, hRc, hRs, hRf, hRl⟩
  subst ht
  simp only [am_okX] at hok
  obtain ⟨M2, hMT, rfl, hor⟩ := am_lnk_ok hok
  replace hor := (hor.resolve_right (by rintro (x | x | x | x) <;> exact absurd x.1 (by decide))).2
  simp only [am_ins] at h
  obtain ⟨hkd, rfl, hlk, hmc, hms⟩ := hor
  obtain ⟨hrv, hlen0, hcat, post, hc, hk⟩ := h
  obtain ⟨M2', d2, hMT', hd2, hokM, hMet⟩ := hsC _ _ _ _ hc
  cases hMT.symm.trans hMT'
  obtain ⟨hcode, hinit, hpl, hmh, hvh, hmL, hks⟩ := am_okM_ok hokM
  rw [hkd] at hks
  replace hks := ((hks.resolve_left (fun x => absurd x.1 (by decide))).resolve_right (fun x => absurd x.1 (by decide))).2
  obtain ⟨hinst, hsel, hpar, hnp, hcl⟩ := hks
  unfold am_rcv at hrv
  split at hrv
  · rename_i o hst
    split at hrv
    · rename_i ci fs hG
      subst hrv
      obtain ⟨e1, e2⟩ := am_take hnp hst
      rw [e1] at hMet
      have hMT := hMet
      intro ad H locs ls hrel hn0 hw hnd hL hcs
      have hvc : ∃ q, vwCl[am_mk M2]? = some q ∧ q.1 = (am_my M2).cls := by
        cases hq : vwCl[am_mk M2]? with
        | none => rw [hq] at hcl; cases hcl
        | some q => rw [hq] at hcl; exact ⟨q, rfl, Option.some.inj hcl⟩
      obtain ⟨q, hq1, hq2⟩ := hvc
      have hrecv := va_recv hK hw.1 hq1 (am_cw_get (ad := ad) (dA := dA) hG)
      rw [hq2] at hrecv
      have hpre := am_preS (As := .ref o :: (st.take (am_mp M2 - 1)).reverse) hCC hA hSX hrel hw
      exact am_done hA (va_runV (As := ((st.take (am_mp M2 - 1)).reverse).map (am_cv ad)) (rest := (st.drop (am_mp M2)).map (am_cv ad)) (b := ad o) ⟨hx, hb, hml, hown, hts⟩ (hMet ad H.size) (cwV (am_mp M2 - 1) hts (fun w h3 => by
          rcases List.mem_append.mp h3 with h3 | h3
          · simp only [List.mem_cons, List.not_mem_nil, or_false] at h3
            rcases h3 with rfl | rfl | rfl | rfl
            · exact am_good hlk
            · exact am_good hinst
            · exact am_good hsel
            · exact am_good hinit
          · exact am_goodws M2 hokM w h3) rfl rfl rfl ⟨rfl, hmh, hvh, hpar⟩ (am_hR hCC hd2 hmL)) ⟨am_blind, hrecv, hpre⟩ rfl (by rw [List.length_map, List.length_reverse, List.length_take]; omega) hL.2.1 (by
            show st.map (am_cv ad) = _
            conv => lhs; rw [e2]
            simp [am_cv]) (lv_room (by rw [am_catsum]; exact hcat)) hd (by rw [hmc, hms, hRc, hRs]; exact hcs)) hw (fun r G1 ad1 H1 locs1 hp hr1 hrel1 hlen hw1 => by
        rw [hmc, hms]
        have had : ad1 = ad := hrel1.1 hmc
        subst had
        refine W.eq ?_ (hm _ _ _ _ _ _ (hk r G1 hp) ad1 H1 locs1 ls hrel (Nat.le_trans hn0 hlen) hw1 hnd hL hcs)
        rw [am_psh_cv hr1])
    · exact hrv.elim
  · exact hrv.elim

theorem am_i_invS {idx : Nat} (hC : am_Ctx p R s m args meth c dC dI dA d M) {P0 : am_P} (hm : ∀ pc L st G nc ns, P0 pc L st G nc ns → am_W p l e R s m args below meth c dC dI dA M A H0 ad0 n0 QW pc L st G nc ns) {C : am_C} {Q : Option Value → am_G → Prop} {X : Nat → am_L → am_G → Nat → Nat → Prop} {pc npc a b t u pos : Nat} {cv : Int32} {cl : Int64} {L : am_L} {st : List Value} {G : am_G} {nc ns : Nat} (hd : decode (am_mb M) pc = .ok (.invokestatic idx, am_len (.invokestatic idx) (npc - pc))) (hn : npc = pc + am_len (.invokestatic idx) (npc - pc)) (hok : am_okX MT M pc (.invokestatic idx) a b t u pos cv cl = true) (h : am_ins C M scr Q X P0 pc (.invokestatic idx) npc a b t u cv cl L st G nc ns) (hsC : am_sC l dC dI dA MT d C) (hA : ∀ q, H0.size ≤ q → A q) (hSX : am_SX ad0 A s H0) (ht : t = 1) : am_W p l e R s m args below meth c dC dI dA M A H0 ad0 n0 QW pc L st G nc ns := by
  obtain ⟨hx, hb, hml, hown, hts, hini, hK, hKX, hRc, hRs, hRf, hRl⟩ := hC
  have hn : npc = pc + 3 := hn
  subst hn
  have hCC : am_Ctx p R s m args meth c dC dI dA d M := ⟨hx, hb, hml, hown, hts, hini, hK, hKX, hRc, hRs, hRf, hRl⟩
  subst ht
  simp only [am_okX] at hok
  obtain ⟨M2, hMT, rfl, hor⟩ := am_lnk_ok hok
  replace hor := ((hor.resolve_left (fun x => absurd x.1 (by decide))).resolve_right (by rintro (x | x | x) <;> exact absurd x.1 (by decide))).2
  simp only [am_ins] at h
  obtain ⟨hkd, hlk, hmc, hms⟩ := hor
  obtain ⟨hlen0, hcat, post, hc, hk⟩ := h
  obtain ⟨M2', d2, hMT', hd2, hokM, hMet⟩ := hsC _ _ _ _ hc
  cases hMT.symm.trans hMT'
  obtain ⟨hcode, hinit, hpl, hmh, hvh, hmL, hks⟩ := am_okM_ok hokM
  rw [hkd] at hks
  replace hks := (hks.resolve_right (by rintro (x | x) <;> exact absurd x.1 (by decide))).2
  obtain ⟨hstat, hpar⟩ := hks
  intro ad H locs ls hrel hn0 hw hnd hL hcs
  have hpre := am_preS (As := (st.take (am_mp M2)).reverse) hCC hA hSX hrel hw
  have hstk : st.map (am_cv ad) = (((st.take (am_mp M2)).reverse).map (am_cv ad)).reverse ++ (st.drop (am_mp M2)).map (am_cv ad) := by
    rw [← List.map_reverse, List.reverse_reverse, ← List.map_append, List.take_append_drop]
  exact am_done hA (va_runS (As := ((st.take (am_mp M2)).reverse).map (am_cv ad)) (rest := (st.drop (am_mp M2)).map (am_cv ad)) ⟨hx, hb, hml, hown, hts⟩ (hMet ad H.size) (va_cwS (am_mp M2) hts (fun w h3 => by
      rcases List.mem_append.mp h3 with h3 | h3
      · simp only [List.mem_cons, List.not_mem_nil, or_false] at h3
        rcases h3 with rfl | rfl | rfl
        · exact am_good hlk
        · exact am_good hstat
        · exact am_good hinit
      · exact am_goodws M2 hokM w h3) rfl rfl rfl ⟨hmh, hvh, hpar⟩ (am_hR hCC hd2 hmL)) ⟨am_blind, hpre⟩ rfl (by rw [List.length_map, List.length_reverse, List.length_take]; omega) hL.2.1 hstk (lv_room (by rw [am_catsum]; exact hcat)) hd (by rw [hmc, hms, hRc, hRs]; exact hcs)) hw (fun r G1 ad1 H1 locs1 hp hr1 hrel1 hlen hw1 => by
    rw [hmc, hms]
    have had : ad1 = ad := hrel1.1 hmc
    subst had
    refine W.eq ?_ (hm _ _ _ _ _ _ (hk r G1 hp) ad1 H1 locs1 ls hrel (Nat.le_trans hn0 hlen) hw1 hnd hL hcs)
    rw [am_psh_cv hr1])

theorem am_i_invSN {idx : Nat} (hC : am_Ctx p R s m args meth c dC dI dA d M) {P0 : am_P} (hm : ∀ pc L st G nc ns, P0 pc L st G nc ns → am_W p l e R s m args below meth c dC dI dA M A H0 ad0 n0 QW pc L st G nc ns) {C : am_C} {Q : Option Value → am_G → Prop} {X : Nat → am_L → am_G → Nat → Nat → Prop} {pc npc a b t u pos : Nat} {cv : Int32} {cl : Int64} {L : am_L} {st : List Value} {G : am_G} {nc ns : Nat} (hd : decode (am_mb M) pc = .ok (.invokestatic idx, am_len (.invokestatic idx) (npc - pc))) (hn : npc = pc + am_len (.invokestatic idx) (npc - pc)) (hok : am_okX MT M pc (.invokestatic idx) a b t u pos cv cl = true) (h : am_ins C M scr Q X P0 pc (.invokestatic idx) npc a b t u cv cl L st G nc ns) (hsC : am_sC l dC dI dA MT d C) (hA : ∀ q, H0.size ≤ q → A q) (hSX : am_SX ad0 A s H0) (ht : t = 2) : am_W p l e R s m args below meth c dC dI dA M A H0 ad0 n0 QW pc L st G nc ns := by
  obtain ⟨hx, hb, hml, hown, hts, hini, hK, hKX, hRc, hRs, hRf, hRl⟩ := hC
  have hn : npc = pc + 3 := hn
  subst hn
  have hCC : am_Ctx p R s m args meth c dC dI dA d M := ⟨hx, hb, hml, hown, hts, hini, hK, hKX, hRc, hRs, hRf, hRl⟩
  subst ht
  simp only [am_okX] at hok
  obtain ⟨M2, hMT, rfl, hor⟩ := am_lnk_ok hok
  replace hor := (((hor.resolve_left (fun x => absurd x.1 (by decide))).resolve_left (fun x => absurd x.1 (by decide))).resolve_right (by rintro (x | x) <;> exact absurd x.1 (by decide))).2
  simp only [am_ins] at h
  obtain ⟨hkd, hlk, hmc, hms⟩ := hor
  obtain ⟨hlen0, hcat, post, hc, hk⟩ := h
  obtain ⟨M2', d2, hMT', hd2, hokM, hMet⟩ := hsC _ _ _ _ hc
  cases hMT.symm.trans hMT'
  obtain ⟨hcode, hinit, hpl, hmh, hvh, hmL, hks⟩ := am_okM_ok hokM
  rw [hkd] at hks
  replace hks := (hks.resolve_right (by rintro (x | x) <;> exact absurd x.1 (by decide))).2
  obtain ⟨hstat, hpar⟩ := hks
  intro ad H locs ls hrel hn0 hw hnd hL hcs
  have hpre := am_preS (As := (st.take (am_mp M2)).reverse) hCC hA hSX hrel hw
  have hstk : st.map (am_cv ad) = (((st.take (am_mp M2)).reverse).map (am_cv ad)).reverse ++ (st.drop (am_mp M2)).map (am_cv ad) := by
    rw [← List.map_reverse, List.reverse_reverse, ← List.map_append, List.take_append_drop]
  exact am_done hA (va_runSN (As := ((st.take (am_mp M2)).reverse).map (am_cv ad)) (rest := (st.drop (am_mp M2)).map (am_cv ad)) ⟨hx, hb, hml, hown, hts⟩ (hMet ad H.size) ⟨va_cnB (am_mp M2) hts (am_goodws M2 hokM) rfl rfl rfl (hKX.1 _ hlk) (hts _ hinit) ⟨hmh, hvh, hpar⟩ (am_hR hCC hd2 hmL), hts _ hstat, trivial⟩ ⟨am_blind, hpre⟩ rfl (by rw [List.length_map, List.length_reverse, List.length_take]; omega) hL.2.1 hstk (lv_room (by rw [am_catsum]; exact hcat)) hd (by rw [hmc, hms, hRc, hRs]; exact hcs)) hw (fun r G1 ad1 H1 locs1 hp hr1 hrel1 hlen hw1 => by
    rw [hmc, hms]
    have had : ad1 = ad := hrel1.1 hmc
    subst had
    refine W.eq ?_ (hm _ _ _ _ _ _ (hk r G1 hp) ad1 H1 locs1 ls hrel (Nat.le_trans hn0 hlen) hw1 hnd hL hcs)
    rw [am_psh_cv hr1])

theorem am_i_invI {idx : Nat} (hC : am_Ctx p R s m args meth c dC dI dA d M) {P0 : am_P} (hm : ∀ pc L st G nc ns, P0 pc L st G nc ns → am_W p l e R s m args below meth c dC dI dA M A H0 ad0 n0 QW pc L st G nc ns) {C : am_C} {Q : Option Value → am_G → Prop} {X : Nat → am_L → am_G → Nat → Nat → Prop} {pc npc a b t u pos : Nat} {cv : Int32} {cl : Int64} {L : am_L} {st : List Value} {G : am_G} {nc ns : Nat} (hd : decode (am_mb M) pc = .ok (.invokespecial idx, am_len (.invokespecial idx) (npc - pc))) (hn : npc = pc + am_len (.invokespecial idx) (npc - pc)) (hok : am_okX MT M pc (.invokespecial idx) a b t u pos cv cl = true) (h : am_ins C M scr Q X P0 pc (.invokespecial idx) npc a b t u cv cl L st G nc ns) (hsC : am_sC l dC dI dA MT d C) (hA : ∀ q, H0.size ≤ q → A q) (hSX : am_SX ad0 A s H0) (ht : t = 3) : am_W p l e R s m args below meth c dC dI dA M A H0 ad0 n0 QW pc L st G nc ns := by
  obtain ⟨hx, hb, hml, hown, hts, hini, hK, hKX, hRc, hRs, hRf, hRl⟩ := hC
  have hn : npc = pc + 3 := hn
  subst hn
  have hCC : am_Ctx p R s m args meth c dC dI dA d M := ⟨hx, hb, hml, hown, hts, hini, hK, hKX, hRc, hRs, hRf, hRl⟩
  subst ht
  simp only [am_okX] at hok
  obtain ⟨M2, hMT, rfl, hor⟩ := am_lnk_ok hok
  replace hor := ((((hor.resolve_left (fun x => absurd x.1 (by decide))).resolve_left (fun x => absurd x.1 (by decide))).resolve_left (fun x => absurd x.1 (by decide))).resolve_right (fun x => absurd x.1 (by decide))).2
  simp only [am_ins] at h
  obtain ⟨hkd, hlk, hmc, hms⟩ := hor
  obtain ⟨hrcv, hlen0, hcat, hwf, hc1, hc2, post, hc, hk⟩ := h
  simp only [am_wfc, Bool.and_eq_true] at hwf
  obtain ⟨hwL, hwS⟩ := hwf
  obtain ⟨M2', d2, hMT', hd2, hokM, hMet⟩ := hsC _ _ _ _ hc
  cases hMT.symm.trans hMT'
  obtain ⟨hcode, hinit, hpl, hmh, hvh, hmL, hks⟩ := am_okM_ok hokM
  rw [hkd] at hks
  replace hks := ((hks.resolve_left (fun x => absurd x.1 (by decide))).resolve_left (fun x => absurd x.1 (by decide))).2
  obtain ⟨hinst, hpar, hnp, hnm, hret⟩ := hks
  have hst : ∃ o, st[am_mp M2 - 1]? = some (.ref o) := by
    unfold am_rcR at hrcv
    split at hrcv
    · rename_i o ho
      exact ⟨o, ho⟩
    · exact hrcv.elim
  obtain ⟨o, hst⟩ := hst
  obtain ⟨e1, e2⟩ := am_take hnp hst
  rw [e1] at hMet
  intro ad H locs ls hrel hn0 hw hnd hL hcs
  have hpre := am_preS (As := .ref o :: (st.take (am_mp M2 - 1)).reverse) hCC hA hSX hrel hw
  have hstk : st.map (am_cv ad) = (((st.take (am_mp M2 - 1)).reverse).map (am_cv ad)).reverse ++ .ref (ad o) :: (st.drop (am_mp M2)).map (am_cv ad) := by
    conv => lhs; rw [e2]
    simp [am_cv]
  exact am_done hA (va_runI (As := ((st.take (am_mp M2 - 1)).reverse).map (am_cv ad)) (rest := (st.drop (am_mp M2)).map (am_cv ad)) (b := ad o) ⟨hx, hb, hml, hown, hts⟩ (hMet ad H.size) (cwI (am_mp M2 - 1) hts (am_goodws M2 hokM) (by rw [am_ws, hret]) rfl rfl (hts _ hinit) (hts _ hlk) (hts _ hinst) hnm ⟨hmh, hvh, hpar⟩ (am_hR hCC hd2 hmL)) ⟨am_blind, hpre⟩ rfl (by rw [List.length_map, List.length_reverse, List.length_take]; omega) hL.2.1 hstk (lv_room (by rw [am_catsum]; exact hcat)) hd (by rw [hmc, hms, hRc, hRs]; exact ⟨hc1, hc2⟩)) hw (fun r G1 ad1 H1 locs1 hp hr1 hrel1 hlen hw1 => by
      have hxx := hrel1.2
      have h6 := hk r G1 hp
      rw [hmc, hms]
      have hk2 := hm _ _ _ _ _ _ h6 ad1 H1 locs1 ls ⟨fun z => by
        have z1 := hrel.1 z
        have z2 := hrel1.1 (by omega)
        rw [z2, z1], fun k hk => (hxx k (by omega)).trans (hrel.2 k hk)⟩ (Nat.le_trans hn0 hlen) hw1 hnd (am_LH_ad hxx hwL hL) ⟨hc1, hc2⟩
      refine W.eq ?_ hk2
      rw [am_psh_cv hr1, am_st_ad hxx hwS])

theorem am_i_invIN {idx : Nat} (hC : am_Ctx p R s m args meth c dC dI dA d M) {P0 : am_P} (hm : ∀ pc L st G nc ns, P0 pc L st G nc ns → am_W p l e R s m args below meth c dC dI dA M A H0 ad0 n0 QW pc L st G nc ns) {C : am_C} {Q : Option Value → am_G → Prop} {X : Nat → am_L → am_G → Nat → Nat → Prop} {pc npc a b t u pos : Nat} {cv : Int32} {cl : Int64} {L : am_L} {st : List Value} {G : am_G} {nc ns : Nat} (hd : decode (am_mb M) pc = .ok (.invokespecial idx, am_len (.invokespecial idx) (npc - pc))) (hn : npc = pc + am_len (.invokespecial idx) (npc - pc)) (hok : am_okX MT M pc (.invokespecial idx) a b t u pos cv cl = true) (h : am_ins C M scr Q X P0 pc (.invokespecial idx) npc a b t u cv cl L st G nc ns) (hsC : am_sC l dC dI dA MT d C) (hA : ∀ q, H0.size ≤ q → A q) (hSX : am_SX ad0 A s H0) (ht : t = 4) : am_W p l e R s m args below meth c dC dI dA M A H0 ad0 n0 QW pc L st G nc ns := by
  obtain ⟨hx, hb, hml, hown, hts, hini, hK, hKX, hRc, hRs, hRf, hRl⟩ := hC
  have hn : npc = pc + 3 := hn
  subst hn
  have hCC : am_Ctx p R s m args meth c dC dI dA d M := ⟨hx, hb, hml, hown, hts, hini, hK, hKX, hRc, hRs, hRf, hRl⟩
  subst ht
  simp only [am_okX] at hok
  obtain ⟨M2, hMT, rfl, hor⟩ := am_lnk_ok hok
  replace hor := ((((hor.resolve_left (fun x => absurd x.1 (by decide))).resolve_left (fun x => absurd x.1 (by decide))).resolve_left (fun x => absurd x.1 (by decide))).resolve_left (fun x => absurd x.1 (by decide))).2
  simp only [am_ins] at h
  obtain ⟨hkd, hlk, hmc, hms⟩ := hor
  obtain ⟨hrcv, hlen0, hcat, hwf, hc1, hc2, post, hc, hk⟩ := h
  simp only [am_wfc, Bool.and_eq_true] at hwf
  obtain ⟨hwL, hwS⟩ := hwf
  obtain ⟨M2', d2, hMT', hd2, hokM, hMet⟩ := hsC _ _ _ _ hc
  cases hMT.symm.trans hMT'
  obtain ⟨hcode, hinit, hpl, hmh, hvh, hmL, hks⟩ := am_okM_ok hokM
  rw [hkd] at hks
  replace hks := ((hks.resolve_left (fun x => absurd x.1 (by decide))).resolve_left (fun x => absurd x.1 (by decide))).2
  obtain ⟨hinst, hpar, hnp, hnm, hret⟩ := hks
  have hst : ∃ o, st[am_mp M2 - 1]? = some (.ref o) := by
    unfold am_rcR at hrcv
    split at hrcv
    · rename_i o ho
      exact ⟨o, ho⟩
    · exact hrcv.elim
  obtain ⟨o, hst⟩ := hst
  obtain ⟨e1, e2⟩ := am_take hnp hst
  rw [e1] at hMet
  intro ad H locs ls hrel hn0 hw hnd hL hcs
  have hpre := am_preS (As := .ref o :: (st.take (am_mp M2 - 1)).reverse) hCC hA hSX hrel hw
  have hstk : st.map (am_cv ad) = (((st.take (am_mp M2 - 1)).reverse).map (am_cv ad)).reverse ++ .ref (ad o) :: (st.drop (am_mp M2)).map (am_cv ad) := by
    conv => lhs; rw [e2]
    simp [am_cv]
  exact am_done hA (va_runIN (As := ((st.take (am_mp M2 - 1)).reverse).map (am_cv ad)) (rest := (st.drop (am_mp M2)).map (am_cv ad)) (b := ad o) ⟨hx, hb, hml, hown, hts⟩ (hMet ad H.size) ⟨va_cnB (am_mp M2 - 1) hts (am_goodws M2 hokM) (by rw [am_ws, hret]) rfl rfl (hKX.1 _ hlk) (hts _ hinit) ⟨hmh, hvh, hpar⟩ (am_hR hCC hd2 hmL), hnm, hts _ hinst⟩ ⟨am_blind, hpre⟩ rfl (by rw [List.length_map, List.length_reverse, List.length_take]; omega) hL.2.1 hstk (lv_room (by rw [am_catsum]; exact hcat)) hd (by rw [hmc, hms, hRc, hRs]; exact ⟨hc1, hc2⟩)) hw (fun r G1 ad1 H1 locs1 hp hr1 hrel1 hlen hw1 => by
      have hxx := hrel1.2
      have h6 := hk r G1 hp
      rw [hmc, hms]
      have hk2 := hm _ _ _ _ _ _ h6 ad1 H1 locs1 ls ⟨fun z => by
        have z1 := hrel.1 z
        have z2 := hrel1.1 (by omega)
        rw [z2, z1], fun k hk => (hxx k (by omega)).trans (hrel.2 k hk)⟩ (Nat.le_trans hn0 hlen) hw1 hnd (am_LH_ad hxx hwL hL) ⟨hc1, hc2⟩
      refine W.eq ?_ hk2
      rw [am_psh_cv hr1, am_st_ad hxx hwS])

end AMS
end
section
/-! THE WHOLE: a method that comes to its end in the abstract machine meets its contract. -/
section AMS
variable {p : Program} {l : Launch} {e : Env} {R : Room} {s : State} {m : MethodId} {args : Array Value} {below : List Frame} {meth : Method} {c : Code} {dC : Nat → ClassId} {dI : Nat → Nat → Nat} {dA : Nat → ClassId} {d : Nat} {M : am_M} {A : Nat → Prop} {H0 : Heap} {ad0 : Nat → Nat} {n0 : Nat} {QW : State → Prop} {MT : Nat → Option am_M} {scr : Option (Nat × (Nat → Int32))}
theorem am_ldcS (hC : am_Ctx p R s m args meth c dC dI dA d M) (hSX : am_SX ad0 A s H0) {pc : Nat} {L : am_L} {st : List Value} {G : am_G} {nc ns : Nat} (n b : Nat) (hb1 : 1000000 ≤ b) (hk : am_sk (b - 1000000) = some ((am_my M).cls, n)) (hd : decode (am_mb M) pc = .ok (.ldc n, 2)) (ad : Nat → Nat) (H : Heap) (locs : List Loc) (ls : Array Slot) (hrel : am_Rel (am_mc M) n0 ad0 ad) (k : W p l e R s m args below meth c H locs nc ns QW (F0 m (pc + 2) ls ((.ref b :: st).map (am_cv ad)))) : W p l e R s m args below meth c H locs nc ns QW (F0 m pc ls (st.map (am_cv ad))) := by
  obtain ⟨hx, hb, hml, hown, hts, hini, hK, hKX, hRc, hRs, hRf, hRl⟩ := hC
  obtain ⟨tx, hz⟩ := hSX.2.2.1 _ _ _ hk
  have e1 : 1000000 + (b - 1000000) = b := by omega
  rw [e1, ← hrel.2 b (Or.inr hb1)] at hz
  exact va_ldcS hx hb hown hz hd k
theorem am_ldcWx {T : State} {locs : List Loc} {cells slots : Nat} (X : Stand p l e R s m args below meth c T locs cells slots) (hexec : p.tables.exec = Jvm.exec) {own text : String} {index : Nat} {a : Addr} (hown : s.vm.findClass own = some m.cls)
    (hconst : (Jvm.Cond.stringRef own index text).before #[] s = true) (hev : (Term.string own index).eval #[] s none [] s = some (.ref a)) {g : JFrame} (hg : g.method = m) (hdg : decode c.code g.pc = .ok (.ldc_w index, 3)) :
    ∀ target, Steps p.tables e below (T.setTop { g with pc := g.pc + 3, stack := .ref a :: g.stack }) target → Steps p.tables e below (T.setTop g) target := by
  obtain ⟨k, cf, i, a', hk, hcf, hcp, -, hr, hev'⟩ := Cond.stringRef_spec hown hconst
  cases hev.symm.trans hev'
  obtain ⟨k', hk', he⟩ := X.warmed.alike.2.2 _ _ hk
  have hr' : k'.resolved[index]? = some (some (.string a)) := by
    rcases X.warmed.entry hk hk' index with h | ⟨h, -⟩
    · rw [h]; exact hr
    · rw [hr] at h; cases h
  intro target hrest
  subst hg
  jvm_step X.here [hexec, hdg, ldc_w.wp_string (e := e) (s := T) (f := g) X.here.top hk' (by rw [he]; exact hcf) hcp hr']
  exact hrest
theorem va_ldcSw {H : Heap} {locs : List Loc} {cells slots : Nat} {Q : State → Prop} {cc : ByteArray} {pc : Nat} {ls : Array Slot} {rest : List Value} (hexec : p.tables.exec = Jvm.exec) (hb : c.code = cc) {own tx : String} {index q : Nat} (hown : s.vm.findClass own = some m.cls) (hZ : vk_R own index tx q s) (hdg : decode cc pc = .ok (.ldc_w index, 3))
    (k : W p l e R s m args below meth c H locs cells slots Q (F0 m (pc + 3) ls (.ref q :: rest))) : W p l e R s m args below meth c H locs cells slots Q (F0 m pc ls rest) := by
  intro T hT X
  obtain ⟨t, a1, b1⟩ := k T hT X
  exact ⟨t, am_ldcWx X hexec hown (text := tx) (a := q) hZ.1 hZ.2 (g := F0 m pc ls rest) rfl (by rw [hb]; exact hdg) t a1, b1⟩
theorem am_ldcSW (hC : am_Ctx p R s m args meth c dC dI dA d M) (hSX : am_SX ad0 A s H0) {pc : Nat} {L : am_L} {st : List Value} {G : am_G} {nc ns : Nat} (n b : Nat) (hb1 : 1000000 ≤ b) (hk : am_sk (b - 1000000) = some ((am_my M).cls, n)) (hd : decode (am_mb M) pc = .ok (.ldc_w n, 3)) (ad : Nat → Nat) (H : Heap) (locs : List Loc) (ls : Array Slot) (hrel : am_Rel (am_mc M) n0 ad0 ad) (k : W p l e R s m args below meth c H locs nc ns QW (F0 m (pc + 3) ls ((.ref b :: st).map (am_cv ad)))) : W p l e R s m args below meth c H locs nc ns QW (F0 m pc ls (st.map (am_cv ad))) := by
  obtain ⟨hx, hb, hml, hown, hts, hini, hK, hKX, hRc, hRs, hRf, hRl⟩ := hC
  obtain ⟨tx, hz⟩ := hSX.2.2.1 _ _ _ hk
  have e1 : 1000000 + (b - 1000000) = b := by omega
  rw [e1, ← hrel.2 b (Or.inr hb1)] at hz
  exact va_ldcSw hx hb hown hz hd k
/-- texts: to be proved -/
def am_TX (l : Launch) (dC : Nat → ClassId) (dI : Nat → Nat → Nat) (dA : Nat → ClassId) (MT : Nat → Option am_M) : Prop := ∀ {p : Program} {e : Env} {R : Room} {s : State} {m : MethodId} {args : Array Value} {below : List Frame} {meth : Method} {c : Code} {d : Nat} {M : am_M} {A : Nat → Prop} {ad0 : Nat → Nat} {n0 : Nat} {QW : State → Prop} {C : am_C} {Q : Option Value → am_G → Prop} {X : Nat → am_L → am_G → Nat → Nat → Prop} {P0 : am_P} {pc npc a b t u pos : Nat} {cv : Int32} {cl : Int64} {L : am_L} {st : List Value} {G : am_G} {nc ns idx : Nat}, am_Ctx p R s m args meth c dC dI dA d M → (∀ pc L st G nc ns, P0 pc L st G nc ns → am_W p l e R s m args below meth c dC dI dA M A s.heap ad0 n0 QW pc L st G nc ns) → (∀ q, s.heap.size ≤ q → A q) → am_SX ad0 A s s.heap → decode (am_mb M) pc = .ok (.invokevirtual idx, 3) → npc = pc + 3 → am_okX MT M pc (.invokevirtual idx) a b t u pos cv cl = true → (t = 13 ∨ t = 14 ∨ t = 16) → am_ins C M none Q X P0 pc (.invokevirtual idx) npc a b t u cv cl L st G nc ns → am_W p l e R s m args below meth c dC dI dA M A s.heap ad0 n0 QW pc L st G nc ns
theorem am_stepS (hC : am_Ctx p R s m args meth c dC dI dA d M) {P0 : am_P} (hm : ∀ pc L st G nc ns, P0 pc L st G nc ns → am_W p l e R s m args below meth c dC dI dA M A s.heap ad0 n0 QW pc L st G nc ns) {C : am_C} {Q : Option Value → am_G → Prop} {X : Nat → am_L → am_G → Nat → Nat → Prop} (hT : am_okT MT M = true) (hTX : am_TX l dC dI dA MT) (hsC : am_sC l dC dI dA MT d C) (hA : ∀ q, s.heap.size ≤ q → A q) (hSX : am_SX ad0 A s s.heap)
    (hX : ∀ pc L st G nc ns idx, X pc L G nc ns → decode (am_mb M) pc = .ok (.new idx, 3) → am_W p l e R s m args below meth c dC dI dA M A s.heap ad0 n0 QW pc L st G nc ns)
    (hri : ∀ pc L x G nc ns, Q (some (.int x)) G → (am_mr M = some .int ∨ (am_mr M = some .boolean ∧ (x = 0 ∨ x = 1))) → decode (am_mb M) pc = .ok (.ireturn, 1) → am_W p l e R s m args below meth c dC dI dA M A s.heap ad0 n0 QW pc L [.int x] G nc ns)
    (hrl : ∀ pc L x G nc ns, Q (some (.long x)) G → am_mr M = some .long → decode (am_mb M) pc = .ok (.lreturn, 1) → am_W p l e R s m args below meth c dC dI dA M A s.heap ad0 n0 QW pc L [.long x] G nc ns)
    (hrv : ∀ pc L G nc ns, Q none G → am_mr M = none → decode (am_mb M) pc = .ok (.return_, 1) → am_W p l e R s m args below meth c dC dI dA M A s.heap ad0 n0 QW pc L [] G nc ns)
    {pc : Nat} {L : am_L} {st : List Value} {G : am_G} {nc ns : Nat} (h : am_step C M none Q X P0 pc L st G nc ns) : am_W p l e R s m args below meth c dC dI dA M A s.heap ad0 n0 QW pc L st G nc ns := by
  unfold am_step at h
  split at h
  · exact h.elim
  · rename_i pc' i npc a b t u pos cv cl he
    obtain ⟨hok, hpc⟩ := am_lk_ok hT he
    simp only [am_okI, Bool.and_eq_true, decide_eq_true_eq] at hok
    obtain ⟨⟨hd, hn⟩, hok⟩ := hok
    have hpc : pc' = pc := hpc
    subst hpc
    cases i with
    | iconst n => exact am_i_iconst hC hm hd hn hok h
    | bipush n => exact am_i_bipush hC hm hd hn hok h
    | sipush n => exact am_i_sipush hC hm hd hn hok h
    | ldc2_w n => exact am_i_ldc2 hC hm hd hn hok h
    | lconst n => exact am_i_lconst hC hm hd hn hok h
    | iload_n k => exact am_i_iload_n hC hm hd hn hok h
    | iload k => exact am_i_iload hC hm hd hn hok h
    | lload_n k => exact am_i_lload_n hC hm hd hn hok h
    | lload k => exact am_i_lload hC hm hd hn hok h
    | aload_n k => exact am_i_aload_n hC hm hd hn hok h
    | aload k => exact am_i_aload hC hm hd hn hok h
    | istore_n k => exact am_i_istore_n hC hm hd hn hok h
    | istore k => exact am_i_istore hC hm hd hn hok h
    | astore_n k => exact am_i_astore_n hC hm hd hn hok h
    | astore k => exact am_i_astore hC hm hd hn hok h
    | lstore_n k => exact am_i_lstore_n hC hm hd hn hok h
    | lstore k => exact am_i_lstore hC hm hd hn hok h
    | iinc k n => exact am_i_iinc hC hm hd hn hok h
    | iadd => exact am_i_iadd hC hm hd hn hok h
    | isub => exact am_i_isub hC hm hd hn hok h
    | imul => exact am_i_imul hC hm hd hn hok h
    | iand => exact am_i_iand hC hm hd hn hok h
    | ior => exact am_i_ior hC hm hd hn hok h
    | ixor => exact am_i_ixor hC hm hd hn hok h
    | ishl => exact am_i_ishl hC hm hd hn hok h
    | ishr => exact am_i_ishr hC hm hd hn hok h
    | iushr => exact am_i_iushr hC hm hd hn hok h
    | idiv => exact am_i_idiv hC hm hd hn hok h
    | irem => exact am_i_irem hC hm hd hn hok h
    | ladd => exact am_i_ladd hC hm hd hn hok h
    | lsub => exact am_i_lsub hC hm hd hn hok h
    | lmul => exact am_i_lmul hC hm hd hn hok h
    | lcmp => exact am_i_lcmp hC hm hd hn hok h
    | ldiv => exact am_i_ldiv hC hm hd hn hok h
    | lrem => exact am_i_lrem hC hm hd hn hok h
    | ineg => exact am_i_ineg hC hm hd hn hok h
    | i2l => exact am_i_i2l hC hm hd hn hok h
    | i2b => exact am_i_i2b hC hm hd hn hok h
    | i2s => exact am_i_i2s hC hm hd hn hok h
    | i2c => exact am_i_i2c hC hm hd hn hok h
    | lneg => exact am_i_lneg hC hm hd hn hok h
    | dup => exact am_i_dup hC hm hd hn hok h
    | dup2 => exact am_i_dup2 hC hm hd hn hok h
    | pop => exact am_i_pop hC hm hd hn hok h
    | ifCond o off => exact am_i_ifCond hC hm hd hn hok h
    | if_icmp o off => exact am_i_if_icmp hC hm hd hn hok h
    | ifnull off => exact am_i_ifnull hC hm hd hn hok h
    | ifnonnull off => exact am_i_ifnonnull hC hm hd hn hok h
    | goto off => exact am_i_goto hC hm hd hn hok h
    | tableswitch a b2 c2 d2 => exact am_i_tableswitch hC hm hd hn hok h
    | lookupswitch a2 b2 => exact am_i_lookupswitch hC hm hd hn hok h
    | getfield n => exact am_i_getfield hC hm hd hn hok h
    | putfield n => exact am_i_putfield hC hm hd hn hok h
    | iaload => exact am_i_iaload hC hm hd hn hok h
    | iastore => exact am_i_iastore hC hm hd hn hok h
    | baload => exact am_i_baload hC hm hd hn hok h
    | bastore => exact am_i_bastore hC hm hd hn hok h
    | laload => exact am_i_laload hC hm hd hn hok h
    | lastore => exact am_i_lastore hC hm hd hn hok h
    | aaload => exact am_i_aaload hC hm hd hn hok h
    | aastore => exact am_i_aastore hC hm hd hn hok h
    | arraylength => exact am_i_arraylength hC hm hd hn hok h
    | ldc n => exact am_i_ldc hC hm hd hn hok h (fun n b h1 h2 h3 ad H locs ls hrel _ _ _ _ _ k => am_ldcS (L := L) (G := G) hC hSX n b h1 h2 h3 ad H locs ls hrel k)
    | ldc_w n => exact am_i_ldc_w hC hm hd hn hok h (fun n b h1 h2 h3 ad H locs ls hrel _ _ _ _ _ k => am_ldcSW (L := L) (G := G) hC hSX n b h1 h2 h3 ad H locs ls hrel k)
    | newarray ty => exact am_i_newarray hC hm hd hn hok h hA
    | anewarray n => exact am_i_anewarray hC hm hd hn hok h hA
    | new n =>
      cases t with
      | zero => exact am_i_new hC hm hd hn hok h hA rfl
      | succ t => exact hX _ _ _ _ _ _ n h hd
    | ireturn =>
      simp only [am_ins] at h
      split at h
      · split at h
        · rename_i hmr
          exact hri _ _ _ _ _ _ h (Or.inl hmr) hd
        · rename_i hmr
          exact hri _ _ _ _ _ _ h.2 (Or.inr ⟨hmr, h.1⟩) hd
        · exact h.elim
      · exact h.elim
    | lreturn =>
      simp only [am_okX, decide_eq_true_eq] at hok
      simp only [am_ins] at h
      split at h
      · exact hrl _ _ _ _ _ _ h hok hd
      · exact h.elim
    | return_ =>
      simp only [am_okX, decide_eq_true_eq] at hok
      simp only [am_ins] at h
      split at h
      · exact hrv _ _ _ _ _ h hok hd
      · exact h.elim
    | invokestatic n =>
      match t, hok, h with
      | 1, hok, h => exact am_i_invS hC hm hd hn hok h hsC hA hSX rfl
      | 2, hok, h => exact am_i_invSN hC hm hd hn hok h hsC hA hSX rfl
      | 6, hok, h => exact am_i_mmax hC hm hd hn hok h rfl
      | 7, hok, h => exact am_i_mmin hC hm hd hn hok h rfl
      | 8, hok, h => exact am_i_mabs hC hm hd hn hok h rfl
      | 9, hok, h => exact am_i_mmaxl hC hm hd hn hok h rfl
      | 10, hok, h => exact am_i_mabsl hC hm hd hn hok h rfl
      | 11, hok, h => exact am_i_acopy hC hm hd hn hok h rfl
      | 0, hok, h => exact False.elim h
      | 3, hok, h => exact False.elim h
      | 4, hok, h => exact False.elim h
      | 5, hok, h => exact False.elim h
      | t + 12, hok, h => exact False.elim h
    | invokespecial n =>
      match t, hok, h with
      | 3, hok, h => exact am_i_invI hC hm hd hn hok h hsC hA hSX rfl
      | 4, hok, h => exact am_i_invIN hC hm hd hn hok h hsC hA hSX rfl
      | 5, hok, h => exact am_i_oinit hC hm hd hn hok h rfl
      | 0, hok, h => exact False.elim h
      | 1, hok, h => exact False.elim h
      | 2, hok, h => exact False.elim h
      | t + 6, hok, h => exact False.elim h
    | invokevirtual n =>
      match t, hok, h with
      | 0, hok, h => exact am_i_invV hC hm hd hn hok h hsC hA hSX rfl
      | 13, hok, h => exact hTX hC hm hA hSX hd hn hok (Or.inl rfl) h
      | 14, hok, h => exact hTX hC hm hA hSX hd hn hok (Or.inr (Or.inl rfl)) h
      | 16, hok, h => exact hTX hC hm hA hSX hd hn hok (Or.inr (Or.inr rfl)) h
      | 1, hok, h => exact False.elim h
      | 2, hok, h => exact False.elim h
      | 3, hok, h => exact False.elim h
      | 4, hok, h => exact False.elim h
      | 5, hok, h => exact False.elim h
      | 6, hok, h => exact False.elim h
      | 7, hok, h => exact False.elim h
      | 8, hok, h => exact False.elim h
      | 9, hok, h => exact False.elim h
      | 10, hok, h => exact False.elim h
      | 11, hok, h => exact False.elim h
      | 12, hok, h => exact False.elim h
      | 15, hok, h => exact False.elim h
      | t + 17, hok, h => exact False.elim h
    | _ => exact False.elim h
end AMS
/-- the locals at a method's entry -/
def am_ent : List Value → am_L
  | [] => []
  | v :: t => if v.category = 2 then some v :: none :: am_ent t else some v :: am_ent t
def am_entL (nL : Nat) (vs : List Value) : am_L := am_ent vs ++ List.replicate (nL - (am_ent vs).length) none
/-- calls to a depth d: the callee comes to its end -/
def am_Call (MT : Nat → Option am_M) : Nat → am_C
  | 0 => fun _ _ _ _ => False
  | d + 1 => fun mi As G post => ∃ M, MT mi = some M ∧ (am_ent As).length ≤ am_mL M ∧ (∀ v ∈ As, v.category = 2 → ∃ x, v = .long x) ∧ am_Ex (am_Call MT d) M none post (fun _ _ _ _ _ => False) 0 (am_entL (am_mL M) As) [] G 0 0
theorem am_ent_len (ad : Nat → Nat) : ∀ As : List Value, (am_ent As).length = (lg_sl (As.map (am_cv ad))).length
  | [] => rfl
  | v :: t => by
    have ih := am_ent_len ad t
    simp only [lg_sl, List.map_cons, List.flatMap_cons, List.length_append, am_ent, am_cat] at ih ⊢
    by_cases h : v.category = 2
    · simp only [h, if_true, List.length_cons, List.length_nil]
      omega
    · simp only [h, if_false, List.length_cons, List.length_nil]
      omega
theorem am_ent_args (ad : Nat → Nat) : ∀ (As : List Value) (i k : Nat) (v : Value), (am_ent As)[k]? = some (some v) → (i + k, am_cv ad v) ∈ lv_args i (As.map (am_cv ad))
  | [], _, _, _, h => by simp [am_ent] at h
  | w :: t, i, k, v, h => by
    simp only [List.map_cons, lv_args, am_cat]
    by_cases hc : w.category = 2
    · simp only [am_ent, hc, if_true] at h ⊢
      match k, h with
      | 0, h =>
        simp at h
        subst h
        exact List.mem_cons.mpr (Or.inl rfl)
      | 1, h => simp at h
      | k + 2, h =>
        have h2 : (am_ent t)[k]? = some (some v) := by simpa using h
        have ih := am_ent_args ad t (i + 2) k v h2
        rw [show i + (k + 2) = i + 2 + k by omega]
        exact List.mem_cons_of_mem _ ih
    · simp only [am_ent, hc, if_false] at h ⊢
      match k, h with
      | 0, h =>
        simp at h
        subst h
        exact List.mem_cons.mpr (Or.inl rfl)
      | k + 1, h =>
        have h2 : (am_ent t)[k]? = some (some v) := by simpa using h
        have ih := am_ent_args ad t (i + 1) k v h2
        rw [show i + (k + 1) = i + 1 + k by omega]
        exact List.mem_cons_of_mem _ ih
theorem am_entL_get {nL : Nat} {As : List Value} {k : Nat} {v : Value} (h : (am_entL nL As)[k]? = some (some v)) : (am_ent As)[k]? = some (some v) := by
  unfold am_entL at h
  by_cases hk : k < (am_ent As).length
  · rwa [List.getElem?_append_left hk] at h
  · rw [List.getElem?_append_right (by omega), List.getElem?_replicate] at h
    split at h <;> cases h
theorem am_ent_mem : ∀ (As : List Value) (k : Nat) (v : Value), (am_ent As)[k]? = some (some v) → v ∈ As
  | [], _, _, h => by simp [am_ent] at h
  | w :: t, k, v, h => by
    by_cases hc : w.category = 2
    · simp only [am_ent, hc, if_true] at h
      match k, h with
      | 0, h => simp at h; subst h; exact List.mem_cons_self
      | 1, h => simp at h
      | k + 2, h => exact List.mem_cons_of_mem _ (am_ent_mem t k v (by simpa using h))
    · simp only [am_ent, hc, if_false] at h
      match k, h with
      | 0, h => simp at h; subst h; exact List.mem_cons_self
      | k + 1, h => exact List.mem_cons_of_mem _ (am_ent_mem t k v (by simpa using h))
theorem am_entry {As : List Value} {nL : Nat} (ad : Nat → Nat) (h : (am_ent As).length ≤ nL) : am_LH ((lg_sl (As.map (am_cv ad)) ++ List.replicate (nL - (lg_sl (As.map (am_cv ad))).length) Slot.unset).toArray) nL (am_entL nL As) ad := by
  refine ⟨by simp only [am_entL, List.length_append, List.length_replicate]; omega, am_LH_sub (lv_entry (As.map (am_cv ad)) (by rw [← am_ent_len]; exact h)) fun q hq => ?_⟩
  obtain ⟨v, h1, h2⟩ := am_lv_mem.mp hq
  have h3 := am_ent_args ad As 0 q.1 v (am_entL_get h1)
  rw [Nat.zero_add, ← h2] at h3
  exact h3
theorem am_soundS {l : Launch} {dC : Nat → ClassId} {dI : Nat → Nat → Nat} {dA : Nat → ClassId} {MT : Nat → Option am_M} (hMT : ∀ mi M, MT mi = some M → am_okM M = true ∧ am_okT MT M = true) (hTX : am_TX l dC dI dA MT) (d : Nat) (hsC : am_sC l dC dI dA MT d (am_Call MT d)) (mi : Nat) (As : List Value) (G : am_G) (post : Option Value → am_G → Prop) (h : am_Call MT (d + 1) mi As G post) : ∃ M, MT mi = some M ∧ am_okM M = true ∧ am_Met l dC dI dA d M As G post := by
  obtain ⟨M, hM, hlen, hlong, hE⟩ := h
  obtain ⟨hok, hT⟩ := hMT mi M hM
  refine ⟨M, hM, hok, fun ad sz => ?_⟩
  obtain ⟨hcode, hinit, hpl, hmh, hvh, hmL, hks⟩ := am_okM_ok hok
  refine Met.ofW (cc := am_mb M) (maxL := am_mL M) (ret := am_mr M) hpl rfl ?_
  intro p e s m args below meth c s₁ B hml hv
  obtain ⟨rfl, hsz, hP, hK, hD0, hKX, hSX⟩ := hv
  have hx := B.exec
  have hb := B.bytes
  have hr := B.returns
  have hts0 := atoms_spec (ws := am_ws M) B.pre
  have hts : ∀ w ∈ am_U, w.before ((As.map (am_cv ad)).toArray) s = true := fun w hw => hts0 w (List.mem_cons_of_mem _ hw)
  have hown : s.vm.findClass (am_my M).cls = some m.cls := findClass_of_methodNamed B.named
  have hlocks := B.notSynchronized
  have hin : (am_my M).name = "<init>" → meth.name = "<init>" := fun z => (name_of_methodNamed B.named B.method).1.trans z
  subst hsz
  have hD := hD0.self (sz := s.heap.size)
  have hA : ∀ q : Nat, s.heap.size ≤ q → va_A (am_cw dA ad G) s.heap.size q := fun q h => Or.inr h
  have hC : am_Ctx p (am_rm d M) s m ((As.map (am_cv ad)).toArray) meth c dC dI dA d M := ⟨hx, hb, hml, hown, hts, hin, hK, hKX, rfl, rfl, Nat.le_refl _, Nat.le_refl _⟩
  have key := hE (am_W p l e (am_rm d M) s m ((As.map (am_cv ad)).toArray) below meth c dC dI dA M (va_A (am_cw dA ad G) s.heap.size) s.heap ad G.length (MQ below (am_Qc dC dI dA M post G ad s.heap.size) ((As.map (am_cv ad)).toArray) s (am_mc M) (am_ms M) (va_A (am_cw dA ad G) s.heap.size)))
    (fun P0 hle pc L st G1 nc ns hstep => am_stepS hC hle hT hTX hsC hA hSX (fun _ _ _ _ _ _ _ z => z.elim)
      (fun pc L x G2 nc ns hq hmr hd => by
        intro ad1 H locs ls hrel hn0 hw hnd hL hcs
        refine W.widen hcs.1 hcs.2 ?_
        rcases hmr with hmr | ⟨hmr, hx01⟩
        · refine W.iret hx hb (hr.trans hmr) (fun t ht _ => ?_) (fun q hq => hw.2.2.2.2 q hq) hd hlocks
          unfold am_Qc
          rw [hmr]
          exact ⟨⟨x, (G2, ad1), rfl, hq, by rw [ht]; exact hw.1, hw.2.1, hn0, hrel⟩, hw.2.2.F ht⟩
        · refine W.zret hx hb (hr.trans hmr) (am_nb hx01).1 (fun t ht _ => ?_) (fun q hq => hw.2.2.2.2 q hq) hd hlocks
          unfold am_Qc
          rw [hmr]
          exact ⟨⟨x, (G2, ad1), rfl, hq, by rw [ht]; exact hw.1, hw.2.1, hn0, hrel⟩, hw.2.2.F ht⟩)
      (fun pc L x G2 nc ns hq hmr hd => by
        intro ad1 H locs ls hrel hn0 hw hnd hL hcs
        refine W.widen hcs.1 hcs.2 ?_
        refine W.lret hx hb (hr.trans hmr) (fun t ht _ => ?_) (fun q hq => hw.2.2.2.2 q hq) hd hlocks
        unfold am_Qc
        rw [hmr]
        exact ⟨⟨x, (G2, ad1), rfl, hq, by rw [ht]; exact hw.1, hw.2.1, hn0, hrel⟩, hw.2.2.F ht⟩)
      (fun pc L G2 nc ns hq hmr hd => by
        intro ad1 H locs ls hrel hn0 hw hnd hL hcs
        refine W.widen hcs.1 hcs.2 ?_
        refine W.vret hx hb (hr.trans hmr) (fun t ht _ => ?_) (fun q hq => hw.2.2.2.2 q hq) hd hlocks
        unfold am_Qc
        rw [hmr]
        exact ⟨⟨(G2, ad1), rfl, hq, by rw [ht]; exact hw.1, hw.2.1, hn0, hrel⟩, hw.2.2.F ht⟩)
      hstep)
  rw [lg_entry_eq]
  refine key ad s.heap [] _ ⟨fun _ => rfl, fun _ _ => rfl⟩ (Nat.le_refl _) ⟨hP, hD, va_S.rf⟩ ?_ (am_entry ad hlen) ⟨Nat.zero_le _, Nat.zero_le _⟩
  intro i v hi hc
  exact hlong v (am_ent_mem As i v (am_entL_get hi)) hc
theorem am_sound {l : Launch} {dC : Nat → ClassId} {dI : Nat → Nat → Nat} {dA : Nat → ClassId} {MT : Nat → Option am_M} (hMT : ∀ mi M, MT mi = some M → am_okM M = true ∧ am_okT MT M = true) (hTX : am_TX l dC dI dA MT) : ∀ (d mi : Nat) (As : List Value) (G : am_G) (post : Option Value → am_G → Prop), am_Call MT (d + 1) mi As G post → ∃ M, MT mi = some M ∧ am_okM M = true ∧ am_Met l dC dI dA d M As G post := by
  intro d
  induction d with
  | zero =>
    intro mi As G post h
    exact am_soundS hMT hTX 0 (fun mi As G post h => h.elim) mi As G post h
  | succ d ih =>
    intro mi As G post h
    refine am_soundS hMT hTX (d + 1) (fun mi As G post h => ?_) mi As G post h
    obtain ⟨M, h1, h2, h3⟩ := ih mi As G post h
    exact ⟨M, d, h1, Nat.le_refl _, h2, h3⟩
end
