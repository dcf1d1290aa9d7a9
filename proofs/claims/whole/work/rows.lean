section
-- ===== PART A: goes FIRST, ahead of the names: the tables' words, and 'selects' of the private methods out of them =====
/-- a private method of a class that the tables say can be made, by its rows of tables_1 -/
def lw_okq (q : MethodName × Nat) : Prop := (q.1.cls ≠ "java/lang/invoke/MethodHandle" ∧ q.1.cls ≠ "java/lang/invoke/VarHandle") ∧ Cond.instantiable q.1.cls q.2 ∈ tables_1 ∧ Cond.privateMethod q.1 ∈ tables_1 ∧ Cond.instanceMethod q.1 ∈ tables_1
theorem lw_p0 : lw_okq (⟨"WhoSaysOne", "begin", "([LWhoSaysOne$Row;III)I"⟩, 16) := ⟨⟨by decide +kernel, by decide +kernel⟩, List.mem_of_getElem? (i := 20) (by decide +kernel), List.mem_of_getElem? (i := 243) (by decide +kernel), List.mem_of_getElem? (i := 244) (by decide +kernel)⟩
theorem lw_p1 : lw_okq (⟨"WhoSaysOne", "found", "(I)I"⟩, 16) := ⟨⟨by decide +kernel, by decide +kernel⟩, List.mem_of_getElem? (i := 20) (by decide +kernel), List.mem_of_getElem? (i := 250) (by decide +kernel), List.mem_of_getElem? (i := 251) (by decide +kernel)⟩
theorem lw_p2 : lw_okq (⟨"WhoSaysOne", "refusedPlace", "([LWhoSaysOne$Row;II)I"⟩, 16) := ⟨⟨by decide +kernel, by decide +kernel⟩, List.mem_of_getElem? (i := 20) (by decide +kernel), List.mem_of_getElem? (i := 265) (by decide +kernel), List.mem_of_getElem? (i := 266) (by decide +kernel)⟩
theorem lw_p3 : lw_okq (⟨"WhoSaysOne", "refusedRow", "([LWhoSaysOne$Row;I)I"⟩, 16) := ⟨⟨by decide +kernel, by decide +kernel⟩, List.mem_of_getElem? (i := 20) (by decide +kernel), List.mem_of_getElem? (i := 269) (by decide +kernel), List.mem_of_getElem? (i := 270) (by decide +kernel)⟩
theorem lw_p4 : lw_okq (⟨"WhoSaysOne$Reader", "takesItem", "(LWhoSaysOne$Row;Z)Z"⟩, 4) := ⟨⟨by decide +kernel, by decide +kernel⟩, List.mem_of_getElem? (i := 103) (by decide +kernel), List.mem_of_getElem? (i := 320) (by decide +kernel), List.mem_of_getElem? (i := 321) (by decide +kernel)⟩
theorem lw_p5 : lw_okq (⟨"WhoSaysOne$Reader", "takesLaw", "(LWhoSaysOne$Row;)Z"⟩, 4) := ⟨⟨by decide +kernel, by decide +kernel⟩, List.mem_of_getElem? (i := 103) (by decide +kernel), List.mem_of_getElem? (i := 324) (by decide +kernel), List.mem_of_getElem? (i := 325) (by decide +kernel)⟩
theorem lw_p6 : lw_okq (⟨"WhoSaysOne$Reader", "figureHere", "(LWhoSaysOne$Row;)I"⟩, 4) := ⟨⟨by decide +kernel, by decide +kernel⟩, List.mem_of_getElem? (i := 103) (by decide +kernel), List.mem_of_getElem? (i := 328) (by decide +kernel), List.mem_of_getElem? (i := 329) (by decide +kernel)⟩
theorem lw_p7 : lw_okq (⟨"WhoSaysOne$Reader", "takesNumber", "(LWhoSaysOne$Row;)Z"⟩, 4) := ⟨⟨by decide +kernel, by decide +kernel⟩, List.mem_of_getElem? (i := 103) (by decide +kernel), List.mem_of_getElem? (i := 333) (by decide +kernel), List.mem_of_getElem? (i := 334) (by decide +kernel)⟩
theorem lw_p8 : lw_okq (⟨"WhoSaysOne$Game", "reachedWith", "(I)J"⟩, 4) := ⟨⟨by decide +kernel, by decide +kernel⟩, List.mem_of_getElem? (i := 30) (by decide +kernel), List.mem_of_getElem? (i := 352) (by decide +kernel), List.mem_of_getElem? (i := 353) (by decide +kernel)⟩
theorem lw_p9 : lw_okq (⟨"WhoSaysOne$Reader", "takesPlayer", "(I)Z"⟩, 4) := ⟨⟨by decide +kernel, by decide +kernel⟩, List.mem_of_getElem? (i := 103) (by decide +kernel), List.mem_of_getElem? (i := 366) (by decide +kernel), List.mem_of_getElem? (i := 367) (by decide +kernel)⟩
theorem lw_p10 : lw_okq (⟨"WhoSaysOne", "playerAt", "(I)LWhoSaysOne$Player;"⟩, 16) := ⟨⟨by decide +kernel, by decide +kernel⟩, List.mem_of_getElem? (i := 20) (by decide +kernel), List.mem_of_getElem? (i := 391) (by decide +kernel), List.mem_of_getElem? (i := 392) (by decide +kernel)⟩
theorem lw_p11 : lw_okq (⟨"WhoSaysOne$Solver", "slotOf", "(I)I"⟩, 4) := ⟨⟨by decide +kernel, by decide +kernel⟩, List.mem_of_getElem? (i := 155) (by decide +kernel), List.mem_of_getElem? (i := 440) (by decide +kernel), List.mem_of_getElem? (i := 441) (by decide +kernel)⟩
theorem lw_p12 : lw_okq (⟨"WhoSaysOne$Solver", "remember", "(II)V"⟩, 4) := ⟨⟨by decide +kernel, by decide +kernel⟩, List.mem_of_getElem? (i := 155) (by decide +kernel), List.mem_of_getElem? (i := 451) (by decide +kernel), List.mem_of_getElem? (i := 452) (by decide +kernel)⟩
theorem lw_p13 : lw_okq (⟨"WhoSaysOne$Game", "reachedWithout", "(I)J"⟩, 4) := ⟨⟨by decide +kernel, by decide +kernel⟩, List.mem_of_getElem? (i := 30) (by decide +kernel), List.mem_of_getElem? (i := 539) (by decide +kernel), List.mem_of_getElem? (i := 540) (by decide +kernel)⟩
theorem lw_p14 : lw_okq (⟨"WhoSaysOne$Sums", "takeThrice", "(II)V"⟩, 6) := ⟨⟨by decide +kernel, by decide +kernel⟩, List.mem_of_getElem? (i := 127) (by decide +kernel), List.mem_of_getElem? (i := 574) (by decide +kernel), List.mem_of_getElem? (i := 575) (by decide +kernel)⟩
theorem lw_p15 : lw_okq (⟨"WhoSaysOne$Sums", "takeOften", "(II)V"⟩, 6) := ⟨⟨by decide +kernel, by decide +kernel⟩, List.mem_of_getElem? (i := 127) (by decide +kernel), List.mem_of_getElem? (i := 579) (by decide +kernel), List.mem_of_getElem? (i := 580) (by decide +kernel)⟩
def lw_privs_1 : List (MethodName × Nat) := [(⟨"WhoSaysOne", "begin", "([LWhoSaysOne$Row;III)I"⟩, 16), (⟨"WhoSaysOne", "found", "(I)I"⟩, 16), (⟨"WhoSaysOne", "refusedPlace", "([LWhoSaysOne$Row;II)I"⟩, 16), (⟨"WhoSaysOne", "refusedRow", "([LWhoSaysOne$Row;I)I"⟩, 16), (⟨"WhoSaysOne$Reader", "takesItem", "(LWhoSaysOne$Row;Z)Z"⟩, 4), (⟨"WhoSaysOne$Reader", "takesLaw", "(LWhoSaysOne$Row;)Z"⟩, 4), (⟨"WhoSaysOne$Reader", "figureHere", "(LWhoSaysOne$Row;)I"⟩, 4), (⟨"WhoSaysOne$Reader", "takesNumber", "(LWhoSaysOne$Row;)Z"⟩, 4), (⟨"WhoSaysOne$Game", "reachedWith", "(I)J"⟩, 4), (⟨"WhoSaysOne$Reader", "takesPlayer", "(I)Z"⟩, 4), (⟨"WhoSaysOne", "playerAt", "(I)LWhoSaysOne$Player;"⟩, 16), (⟨"WhoSaysOne$Solver", "slotOf", "(I)I"⟩, 4), (⟨"WhoSaysOne$Solver", "remember", "(II)V"⟩, 4), (⟨"WhoSaysOne$Game", "reachedWithout", "(I)J"⟩, 4), (⟨"WhoSaysOne$Sums", "takeThrice", "(II)V"⟩, 6), (⟨"WhoSaysOne$Sums", "takeOften", "(II)V"⟩, 6)]
theorem lw_r1 : ∀ q ∈ lw_privs_1, lw_okq q := List.forall_mem_cons.mpr ⟨lw_p0, List.forall_mem_cons.mpr ⟨lw_p1, List.forall_mem_cons.mpr ⟨lw_p2, List.forall_mem_cons.mpr ⟨lw_p3, List.forall_mem_cons.mpr ⟨lw_p4, List.forall_mem_cons.mpr ⟨lw_p5, List.forall_mem_cons.mpr ⟨lw_p6, List.forall_mem_cons.mpr ⟨lw_p7, List.forall_mem_cons.mpr ⟨lw_p8, List.forall_mem_cons.mpr ⟨lw_p9, List.forall_mem_cons.mpr ⟨lw_p10, List.forall_mem_cons.mpr ⟨lw_p11, List.forall_mem_cons.mpr ⟨lw_p12, List.forall_mem_cons.mpr ⟨lw_p13, List.forall_mem_cons.mpr ⟨lw_p14, List.forall_mem_cons.mpr ⟨lw_p15, fun _ h => absurd h List.not_mem_nil⟩⟩⟩⟩⟩⟩⟩⟩⟩⟩⟩⟩⟩⟩⟩⟩
theorem lw_p16 : lw_okq (⟨"WhoSaysOne", "tellFraction", "(JJ)V"⟩, 16) := ⟨⟨by decide +kernel, by decide +kernel⟩, List.mem_of_getElem? (i := 20) (by decide +kernel), List.mem_of_getElem? (i := 595) (by decide +kernel), List.mem_of_getElem? (i := 596) (by decide +kernel)⟩
theorem lw_p17 : lw_okq (⟨"WhoSaysOne", "refusedSolving", "()I"⟩, 16) := ⟨⟨by decide +kernel, by decide +kernel⟩, List.mem_of_getElem? (i := 20) (by decide +kernel), List.mem_of_getElem? (i := 691) (by decide +kernel), List.mem_of_getElem? (i := 692) (by decide +kernel)⟩
theorem lw_p18 : lw_okq (⟨"WhoSaysOne", "playersOf", "(I)I"⟩, 16) := ⟨⟨by decide +kernel, by decide +kernel⟩, List.mem_of_getElem? (i := 20) (by decide +kernel), List.mem_of_getElem? (i := 778) (by decide +kernel), List.mem_of_getElem? (i := 779) (by decide +kernel)⟩
theorem lw_p19 : lw_okq (⟨"WhoSaysOne", "keptCount", "()I"⟩, 16) := ⟨⟨by decide +kernel, by decide +kernel⟩, List.mem_of_getElem? (i := 20) (by decide +kernel), List.mem_of_getElem? (i := 782) (by decide +kernel), List.mem_of_getElem? (i := 783) (by decide +kernel)⟩
theorem lw_p20 : lw_okq (⟨"WhoSaysOneModel", "meets", "(I)I"⟩, 40) := ⟨⟨by decide +kernel, by decide +kernel⟩, List.mem_of_getElem? (i := 814) (by decide +kernel), List.mem_of_getElem? (i := 972) (by decide +kernel), List.mem_of_getElem? (i := 973) (by decide +kernel)⟩
theorem lw_p21 : lw_okq (⟨"WhoSaysOneModel", "rowAt", "(II)I"⟩, 40) := ⟨⟨by decide +kernel, by decide +kernel⟩, List.mem_of_getElem? (i := 814) (by decide +kernel), List.mem_of_getElem? (i := 980) (by decide +kernel), List.mem_of_getElem? (i := 981) (by decide +kernel)⟩
theorem lw_p22 : lw_okq (⟨"WhoSaysOneModel", "tells", "(II)I"⟩, 40) := ⟨⟨by decide +kernel, by decide +kernel⟩, List.mem_of_getElem? (i := 814) (by decide +kernel), List.mem_of_getElem? (i := 984) (by decide +kernel), List.mem_of_getElem? (i := 985) (by decide +kernel)⟩
theorem lw_p23 : lw_okq (⟨"WhoSaysOneModel", "faultOf", "(I)I"⟩, 40) := ⟨⟨by decide +kernel, by decide +kernel⟩, List.mem_of_getElem? (i := 814) (by decide +kernel), List.mem_of_getElem? (i := 1019) (by decide +kernel), List.mem_of_getElem? (i := 1020) (by decide +kernel)⟩
theorem lw_p24 : lw_okq (⟨"WhoSaysOneModel", "byteAt", "(II)I"⟩, 40) := ⟨⟨by decide +kernel, by decide +kernel⟩, List.mem_of_getElem? (i := 814) (by decide +kernel), List.mem_of_getElem? (i := 1023) (by decide +kernel), List.mem_of_getElem? (i := 1024) (by decide +kernel)⟩
theorem lw_p25 : lw_okq (⟨"WhoSaysOneModel", "readsItem", "(I)Z"⟩, 40) := ⟨⟨by decide +kernel, by decide +kernel⟩, List.mem_of_getElem? (i := 814) (by decide +kernel), List.mem_of_getElem? (i := 1027) (by decide +kernel), List.mem_of_getElem? (i := 1028) (by decide +kernel)⟩
theorem lw_p26 : lw_okq (⟨"WhoSaysOneModel", "readsLaw", "(I)Z"⟩, 40) := ⟨⟨by decide +kernel, by decide +kernel⟩, List.mem_of_getElem? (i := 814) (by decide +kernel), List.mem_of_getElem? (i := 1031) (by decide +kernel), List.mem_of_getElem? (i := 1032) (by decide +kernel)⟩
theorem lw_p27 : lw_okq (⟨"WhoSaysOneModel", "readsNumber", "(I)Z"⟩, 40) := ⟨⟨by decide +kernel, by decide +kernel⟩, List.mem_of_getElem? (i := 814) (by decide +kernel), List.mem_of_getElem? (i := 1035) (by decide +kernel), List.mem_of_getElem? (i := 1036) (by decide +kernel)⟩
theorem lw_p28 : lw_okq (⟨"WhoSaysOneModel", "layFew", "([IIII)V"⟩, 40) := ⟨⟨by decide +kernel, by decide +kernel⟩, List.mem_of_getElem? (i := 814) (by decide +kernel), List.mem_of_getElem? (i := 1039) (by decide +kernel), List.mem_of_getElem? (i := 1040) (by decide +kernel)⟩
theorem lw_p29 : lw_okq (⟨"WhoSaysOneModel", "isHad", "(I)Z"⟩, 40) := ⟨⟨by decide +kernel, by decide +kernel⟩, List.mem_of_getElem? (i := 814) (by decide +kernel), List.mem_of_getElem? (i := 1050) (by decide +kernel), List.mem_of_getElem? (i := 1051) (by decide +kernel)⟩
theorem lw_p30 : lw_okq (⟨"WhoSaysOneModel", "isPlayer", "(I)Z"⟩, 40) := ⟨⟨by decide +kernel, by decide +kernel⟩, List.mem_of_getElem? (i := 814) (by decide +kernel), List.mem_of_getElem? (i := 1069) (by decide +kernel), List.mem_of_getElem? (i := 1070) (by decide +kernel)⟩
theorem lw_p31 : lw_okq (⟨"WhoSaysOneModel", "isOver", "()Z"⟩, 40) := ⟨⟨by decide +kernel, by decide +kernel⟩, List.mem_of_getElem? (i := 814) (by decide +kernel), List.mem_of_getElem? (i := 1077) (by decide +kernel), List.mem_of_getElem? (i := 1078) (by decide +kernel)⟩
def lw_privs_2 : List (MethodName × Nat) := [(⟨"WhoSaysOne", "tellFraction", "(JJ)V"⟩, 16), (⟨"WhoSaysOne", "refusedSolving", "()I"⟩, 16), (⟨"WhoSaysOne", "playersOf", "(I)I"⟩, 16), (⟨"WhoSaysOne", "keptCount", "()I"⟩, 16), (⟨"WhoSaysOneModel", "meets", "(I)I"⟩, 40), (⟨"WhoSaysOneModel", "rowAt", "(II)I"⟩, 40), (⟨"WhoSaysOneModel", "tells", "(II)I"⟩, 40), (⟨"WhoSaysOneModel", "faultOf", "(I)I"⟩, 40), (⟨"WhoSaysOneModel", "byteAt", "(II)I"⟩, 40), (⟨"WhoSaysOneModel", "readsItem", "(I)Z"⟩, 40), (⟨"WhoSaysOneModel", "readsLaw", "(I)Z"⟩, 40), (⟨"WhoSaysOneModel", "readsNumber", "(I)Z"⟩, 40), (⟨"WhoSaysOneModel", "layFew", "([IIII)V"⟩, 40), (⟨"WhoSaysOneModel", "isHad", "(I)Z"⟩, 40), (⟨"WhoSaysOneModel", "isPlayer", "(I)Z"⟩, 40), (⟨"WhoSaysOneModel", "isOver", "()Z"⟩, 40)]
theorem lw_r2 : ∀ q ∈ lw_privs_2, lw_okq q := List.forall_mem_cons.mpr ⟨lw_p16, List.forall_mem_cons.mpr ⟨lw_p17, List.forall_mem_cons.mpr ⟨lw_p18, List.forall_mem_cons.mpr ⟨lw_p19, List.forall_mem_cons.mpr ⟨lw_p20, List.forall_mem_cons.mpr ⟨lw_p21, List.forall_mem_cons.mpr ⟨lw_p22, List.forall_mem_cons.mpr ⟨lw_p23, List.forall_mem_cons.mpr ⟨lw_p24, List.forall_mem_cons.mpr ⟨lw_p25, List.forall_mem_cons.mpr ⟨lw_p26, List.forall_mem_cons.mpr ⟨lw_p27, List.forall_mem_cons.mpr ⟨lw_p28, List.forall_mem_cons.mpr ⟨lw_p29, List.forall_mem_cons.mpr ⟨lw_p30, List.forall_mem_cons.mpr ⟨lw_p31, fun _ h => absurd h List.not_mem_nil⟩⟩⟩⟩⟩⟩⟩⟩⟩⟩⟩⟩⟩⟩⟩⟩
theorem lw_p32 : lw_okq (⟨"WhoSaysOneModel", "saidOne", "()Z"⟩, 40) := ⟨⟨by decide +kernel, by decide +kernel⟩, List.mem_of_getElem? (i := 814) (by decide +kernel), List.mem_of_getElem? (i := 1081) (by decide +kernel), List.mem_of_getElem? (i := 1082) (by decide +kernel)⟩
theorem lw_p33 : lw_okq (⟨"WhoSaysOneModel", "leftNow", "()I"⟩, 40) := ⟨⟨by decide +kernel, by decide +kernel⟩, List.mem_of_getElem? (i := 814) (by decide +kernel), List.mem_of_getElem? (i := 1085) (by decide +kernel), List.mem_of_getElem? (i := 1086) (by decide +kernel)⟩
theorem lw_p34 : lw_okq (⟨"WhoSaysOneModel", "leftOf", "([III)I"⟩, 40) := ⟨⟨by decide +kernel, by decide +kernel⟩, List.mem_of_getElem? (i := 814) (by decide +kernel), List.mem_of_getElem? (i := 1089) (by decide +kernel), List.mem_of_getElem? (i := 1090) (by decide +kernel)⟩
theorem lw_p35 : lw_okq (⟨"WhoSaysOneModel", "maySay", "(I)Z"⟩, 40) := ⟨⟨by decide +kernel, by decide +kernel⟩, List.mem_of_getElem? (i := 814) (by decide +kernel), List.mem_of_getElem? (i := 1093) (by decide +kernel), List.mem_of_getElem? (i := 1094) (by decide +kernel)⟩
theorem lw_p36 : lw_okq (⟨"WhoSaysOneModel", "whole", "(JI)I"⟩, 40) := ⟨⟨by decide +kernel, by decide +kernel⟩, List.mem_of_getElem? (i := 814) (by decide +kernel), List.mem_of_getElem? (i := 1129) (by decide +kernel), List.mem_of_getElem? (i := 1130) (by decide +kernel)⟩
theorem lw_p37 : lw_okq (⟨"WhoSaysOneModel", "isEndless", "()Z"⟩, 40) := ⟨⟨by decide +kernel, by decide +kernel⟩, List.mem_of_getElem? (i := 814) (by decide +kernel), List.mem_of_getElem? (i := 1141) (by decide +kernel), List.mem_of_getElem? (i := 1142) (by decide +kernel)⟩
theorem lw_p38 : lw_okq (⟨"WhoSaysOneModel", "commonOf", "([II)I"⟩, 40) := ⟨⟨by decide +kernel, by decide +kernel⟩, List.mem_of_getElem? (i := 814) (by decide +kernel), List.mem_of_getElem? (i := 1145) (by decide +kernel), List.mem_of_getElem? (i := 1146) (by decide +kernel)⟩
theorem lw_p39 : lw_okq (⟨"WhoSaysOneModel", "layGaps", "()I"⟩, 40) := ⟨⟨by decide +kernel, by decide +kernel⟩, List.mem_of_getElem? (i := 814) (by decide +kernel), List.mem_of_getElem? (i := 1149) (by decide +kernel), List.mem_of_getElem? (i := 1150) (by decide +kernel)⟩
theorem lw_p40 : lw_okq (⟨"WhoSaysOneModel", "areAll", "([III)Z"⟩, 40) := ⟨⟨by decide +kernel, by decide +kernel⟩, List.mem_of_getElem? (i := 814) (by decide +kernel), List.mem_of_getElem? (i := 1180) (by decide +kernel), List.mem_of_getElem? (i := 1181) (by decide +kernel)⟩
theorem lw_p41 : lw_okq (⟨"WhoSaysOneModel", "layOthers", "()V"⟩, 40) := ⟨⟨by decide +kernel, by decide +kernel⟩, List.mem_of_getElem? (i := 814) (by decide +kernel), List.mem_of_getElem? (i := 1184) (by decide +kernel), List.mem_of_getElem? (i := 1185) (by decide +kernel)⟩
theorem lw_p42 : lw_okq (⟨"WhoSaysOneModel", "needSolved", "()I"⟩, 40) := ⟨⟨by decide +kernel, by decide +kernel⟩, List.mem_of_getElem? (i := 814) (by decide +kernel), List.mem_of_getElem? (i := 1192) (by decide +kernel), List.mem_of_getElem? (i := 1193) (by decide +kernel)⟩
theorem lw_p43 : lw_okq (⟨"WhoSaysOneModel", "isSolved", "()Z"⟩, 40) := ⟨⟨by decide +kernel, by decide +kernel⟩, List.mem_of_getElem? (i := 814) (by decide +kernel), List.mem_of_getElem? (i := 1196) (by decide +kernel), List.mem_of_getElem? (i := 1197) (by decide +kernel)⟩
theorem lw_p44 : lw_okq (⟨"WhoSaysOneModel", "layWins", "()V"⟩, 40) := ⟨⟨by decide +kernel, by decide +kernel⟩, List.mem_of_getElem? (i := 814) (by decide +kernel), List.mem_of_getElem? (i := 1200) (by decide +kernel), List.mem_of_getElem? (i := 1201) (by decide +kernel)⟩
theorem lw_p45 : lw_okq (⟨"WhoSaysOneModel", "behind", "(II)I"⟩, 40) := ⟨⟨by decide +kernel, by decide +kernel⟩, List.mem_of_getElem? (i := 814) (by decide +kernel), List.mem_of_getElem? (i := 1207) (by decide +kernel), List.mem_of_getElem? (i := 1208) (by decide +kernel)⟩
theorem lw_p46 : lw_okq (⟨"WhoSaysOneModel", "winMany", "()I"⟩, 40) := ⟨⟨by decide +kernel, by decide +kernel⟩, List.mem_of_getElem? (i := 814) (by decide +kernel), List.mem_of_getElem? (i := 1214) (by decide +kernel), List.mem_of_getElem? (i := 1215) (by decide +kernel)⟩
theorem lw_p47 : lw_okq (⟨"WhoSaysOneModel", "isWinning", "(I)Z"⟩, 40) := ⟨⟨by decide +kernel, by decide +kernel⟩, List.mem_of_getElem? (i := 814) (by decide +kernel), List.mem_of_getElem? (i := 1218) (by decide +kernel), List.mem_of_getElem? (i := 1219) (by decide +kernel)⟩
def lw_privs_3 : List (MethodName × Nat) := [(⟨"WhoSaysOneModel", "saidOne", "()Z"⟩, 40), (⟨"WhoSaysOneModel", "leftNow", "()I"⟩, 40), (⟨"WhoSaysOneModel", "leftOf", "([III)I"⟩, 40), (⟨"WhoSaysOneModel", "maySay", "(I)Z"⟩, 40), (⟨"WhoSaysOneModel", "whole", "(JI)I"⟩, 40), (⟨"WhoSaysOneModel", "isEndless", "()Z"⟩, 40), (⟨"WhoSaysOneModel", "commonOf", "([II)I"⟩, 40), (⟨"WhoSaysOneModel", "layGaps", "()I"⟩, 40), (⟨"WhoSaysOneModel", "areAll", "([III)Z"⟩, 40), (⟨"WhoSaysOneModel", "layOthers", "()V"⟩, 40), (⟨"WhoSaysOneModel", "needSolved", "()I"⟩, 40), (⟨"WhoSaysOneModel", "isSolved", "()Z"⟩, 40), (⟨"WhoSaysOneModel", "layWins", "()V"⟩, 40), (⟨"WhoSaysOneModel", "behind", "(II)I"⟩, 40), (⟨"WhoSaysOneModel", "winMany", "()I"⟩, 40), (⟨"WhoSaysOneModel", "isWinning", "(I)Z"⟩, 40)]
theorem lw_r3 : ∀ q ∈ lw_privs_3, lw_okq q := List.forall_mem_cons.mpr ⟨lw_p32, List.forall_mem_cons.mpr ⟨lw_p33, List.forall_mem_cons.mpr ⟨lw_p34, List.forall_mem_cons.mpr ⟨lw_p35, List.forall_mem_cons.mpr ⟨lw_p36, List.forall_mem_cons.mpr ⟨lw_p37, List.forall_mem_cons.mpr ⟨lw_p38, List.forall_mem_cons.mpr ⟨lw_p39, List.forall_mem_cons.mpr ⟨lw_p40, List.forall_mem_cons.mpr ⟨lw_p41, List.forall_mem_cons.mpr ⟨lw_p42, List.forall_mem_cons.mpr ⟨lw_p43, List.forall_mem_cons.mpr ⟨lw_p44, List.forall_mem_cons.mpr ⟨lw_p45, List.forall_mem_cons.mpr ⟨lw_p46, List.forall_mem_cons.mpr ⟨lw_p47, fun _ h => absurd h List.not_mem_nil⟩⟩⟩⟩⟩⟩⟩⟩⟩⟩⟩⟩⟩⟩⟩⟩
theorem lw_p48 : lw_okq (⟨"WhoSaysOneModel", "allGaps", "()I"⟩, 40) := ⟨⟨by decide +kernel, by decide +kernel⟩, List.mem_of_getElem? (i := 814) (by decide +kernel), List.mem_of_getElem? (i := 1222) (by decide +kernel), List.mem_of_getElem? (i := 1223) (by decide +kernel)⟩
theorem lw_p49 : lw_okq (⟨"WhoSaysOneModel", "fraction", "(III)I"⟩, 40) := ⟨⟨by decide +kernel, by decide +kernel⟩, List.mem_of_getElem? (i := 814) (by decide +kernel), List.mem_of_getElem? (i := 1238) (by decide +kernel), List.mem_of_getElem? (i := 1239) (by decide +kernel)⟩
theorem lw_p50 : lw_okq (⟨"WhoSaysOneModel", "saysOf", "(IZ)I"⟩, 40) := ⟨⟨by decide +kernel, by decide +kernel⟩, List.mem_of_getElem? (i := 814) (by decide +kernel), List.mem_of_getElem? (i := 1246) (by decide +kernel), List.mem_of_getElem? (i := 1247) (by decide +kernel)⟩
theorem lw_p51 : lw_okq (⟨"WhoSaysOneModel", "byLeft", "(Z)I"⟩, 40) := ⟨⟨by decide +kernel, by decide +kernel⟩, List.mem_of_getElem? (i := 814) (by decide +kernel), List.mem_of_getElem? (i := 1250) (by decide +kernel), List.mem_of_getElem? (i := 1251) (by decide +kernel)⟩
theorem lw_p52 : lw_okq (⟨"WhoSaysOneModel", "pairOf", "()I"⟩, 40) := ⟨⟨by decide +kernel, by decide +kernel⟩, List.mem_of_getElem? (i := 814) (by decide +kernel), List.mem_of_getElem? (i := 1254) (by decide +kernel), List.mem_of_getElem? (i := 1255) (by decide +kernel)⟩
theorem lw_p53 : lw_okq (⟨"WhoSaysOneModel", "greatestLeft", "()I"⟩, 40) := ⟨⟨by decide +kernel, by decide +kernel⟩, List.mem_of_getElem? (i := 814) (by decide +kernel), List.mem_of_getElem? (i := 1258) (by decide +kernel), List.mem_of_getElem? (i := 1259) (by decide +kernel)⟩
theorem lw_p54 : lw_okq (⟨"WhoSaysOneModel", "leastAbove", "()I"⟩, 40) := ⟨⟨by decide +kernel, by decide +kernel⟩, List.mem_of_getElem? (i := 814) (by decide +kernel), List.mem_of_getElem? (i := 1262) (by decide +kernel), List.mem_of_getElem? (i := 1263) (by decide +kernel)⟩
theorem lw_p55 : lw_okq (⟨"WhoSaysOneModel", "bestOf", "()I"⟩, 40) := ⟨⟨by decide +kernel, by decide +kernel⟩, List.mem_of_getElem? (i := 814) (by decide +kernel), List.mem_of_getElem? (i := 1266) (by decide +kernel), List.mem_of_getElem? (i := 1267) (by decide +kernel)⟩
theorem lw_p56 : lw_okq (⟨"WhoSaysOneModel", "chanceOf", "()I"⟩, 40) := ⟨⟨by decide +kernel, by decide +kernel⟩, List.mem_of_getElem? (i := 814) (by decide +kernel), List.mem_of_getElem? (i := 1270) (by decide +kernel), List.mem_of_getElem? (i := 1271) (by decide +kernel)⟩
theorem lw_p57 : lw_okq (⟨"WhoSaysOneModel", "aboveMany", "()I"⟩, 40) := ⟨⟨by decide +kernel, by decide +kernel⟩, List.mem_of_getElem? (i := 814) (by decide +kernel), List.mem_of_getElem? (i := 1276) (by decide +kernel), List.mem_of_getElem? (i := 1277) (by decide +kernel)⟩
theorem lw_p58 : lw_okq (⟨"WhoSaysOneModel", "leftBehind", "(I)I"⟩, 40) := ⟨⟨by decide +kernel, by decide +kernel⟩, List.mem_of_getElem? (i := 814) (by decide +kernel), List.mem_of_getElem? (i := 1284) (by decide +kernel), List.mem_of_getElem? (i := 1285) (by decide +kernel)⟩
theorem lw_p59 : lw_okq (⟨"WhoSaysOneModel", "needList", "(I)I"⟩, 40) := ⟨⟨by decide +kernel, by decide +kernel⟩, List.mem_of_getElem? (i := 814) (by decide +kernel), List.mem_of_getElem? (i := 1297) (by decide +kernel), List.mem_of_getElem? (i := 1298) (by decide +kernel)⟩
theorem lw_p60 : lw_okq (⟨"WhoSaysOneModel", "wrongSum", "()I"⟩, 40) := ⟨⟨by decide +kernel, by decide +kernel⟩, List.mem_of_getElem? (i := 814) (by decide +kernel), List.mem_of_getElem? (i := 1301) (by decide +kernel), List.mem_of_getElem? (i := 1302) (by decide +kernel)⟩
theorem lw_p61 : lw_okq (⟨"WhoSaysOneModel", "isMaker", "(I)Z"⟩, 40) := ⟨⟨by decide +kernel, by decide +kernel⟩, List.mem_of_getElem? (i := 814) (by decide +kernel), List.mem_of_getElem? (i := 1309) (by decide +kernel), List.mem_of_getElem? (i := 1310) (by decide +kernel)⟩
theorem lw_p62 : lw_okq (⟨"WhoSaysOneModel", "counted", "(I)I"⟩, 40) := ⟨⟨by decide +kernel, by decide +kernel⟩, List.mem_of_getElem? (i := 814) (by decide +kernel), List.mem_of_getElem? (i := 1327) (by decide +kernel), List.mem_of_getElem? (i := 1328) (by decide +kernel)⟩
theorem lw_p63 : lw_okq (⟨"WhoSaysOneModel", "mix", "(J)V"⟩, 40) := ⟨⟨by decide +kernel, by decide +kernel⟩, List.mem_of_getElem? (i := 814) (by decide +kernel), List.mem_of_getElem? (i := 1336) (by decide +kernel), List.mem_of_getElem? (i := 1337) (by decide +kernel)⟩
def lw_privs_4 : List (MethodName × Nat) := [(⟨"WhoSaysOneModel", "allGaps", "()I"⟩, 40), (⟨"WhoSaysOneModel", "fraction", "(III)I"⟩, 40), (⟨"WhoSaysOneModel", "saysOf", "(IZ)I"⟩, 40), (⟨"WhoSaysOneModel", "byLeft", "(Z)I"⟩, 40), (⟨"WhoSaysOneModel", "pairOf", "()I"⟩, 40), (⟨"WhoSaysOneModel", "greatestLeft", "()I"⟩, 40), (⟨"WhoSaysOneModel", "leastAbove", "()I"⟩, 40), (⟨"WhoSaysOneModel", "bestOf", "()I"⟩, 40), (⟨"WhoSaysOneModel", "chanceOf", "()I"⟩, 40), (⟨"WhoSaysOneModel", "aboveMany", "()I"⟩, 40), (⟨"WhoSaysOneModel", "leftBehind", "(I)I"⟩, 40), (⟨"WhoSaysOneModel", "needList", "(I)I"⟩, 40), (⟨"WhoSaysOneModel", "wrongSum", "()I"⟩, 40), (⟨"WhoSaysOneModel", "isMaker", "(I)Z"⟩, 40), (⟨"WhoSaysOneModel", "counted", "(I)I"⟩, 40), (⟨"WhoSaysOneModel", "mix", "(J)V"⟩, 40)]
theorem lw_r4 : ∀ q ∈ lw_privs_4, lw_okq q := List.forall_mem_cons.mpr ⟨lw_p48, List.forall_mem_cons.mpr ⟨lw_p49, List.forall_mem_cons.mpr ⟨lw_p50, List.forall_mem_cons.mpr ⟨lw_p51, List.forall_mem_cons.mpr ⟨lw_p52, List.forall_mem_cons.mpr ⟨lw_p53, List.forall_mem_cons.mpr ⟨lw_p54, List.forall_mem_cons.mpr ⟨lw_p55, List.forall_mem_cons.mpr ⟨lw_p56, List.forall_mem_cons.mpr ⟨lw_p57, List.forall_mem_cons.mpr ⟨lw_p58, List.forall_mem_cons.mpr ⟨lw_p59, List.forall_mem_cons.mpr ⟨lw_p60, List.forall_mem_cons.mpr ⟨lw_p61, List.forall_mem_cons.mpr ⟨lw_p62, List.forall_mem_cons.mpr ⟨lw_p63, fun _ h => absurd h List.not_mem_nil⟩⟩⟩⟩⟩⟩⟩⟩⟩⟩⟩⟩⟩⟩⟩⟩
theorem lw_p64 : lw_okq (⟨"WhoSaysOneModel", "mixGame", "()V"⟩, 40) := ⟨⟨by decide +kernel, by decide +kernel⟩, List.mem_of_getElem? (i := 814) (by decide +kernel), List.mem_of_getElem? (i := 1341) (by decide +kernel), List.mem_of_getElem? (i := 1342) (by decide +kernel)⟩
def lw_privs_5 : List (MethodName × Nat) := [(⟨"WhoSaysOneModel", "mixGame", "()V"⟩, 40)]
theorem lw_r5 : ∀ q ∈ lw_privs_5, lw_okq q := List.forall_mem_cons.mpr ⟨lw_p64, fun _ h => absurd h List.not_mem_nil⟩
def lw_privs : List (MethodName × Nat) := lw_privs_1 ++ (lw_privs_2 ++ (lw_privs_3 ++ (lw_privs_4 ++ (lw_privs_5))))
def lw_tbl : List Cond := k2_sels lw_privs ++ tables_1
theorem lw_privs_ok : ∀ q ∈ lw_privs, lw_okq q := by
  show ∀ q ∈ lw_privs_1 ++ (lw_privs_2 ++ (lw_privs_3 ++ (lw_privs_4 ++ (lw_privs_5)))), lw_okq q
  exact List.forall_mem_append.mpr ⟨lw_r1, List.forall_mem_append.mpr ⟨lw_r2, List.forall_mem_append.mpr ⟨lw_r3, List.forall_mem_append.mpr ⟨lw_r4, lw_r5⟩⟩⟩⟩
-- ===== end of PART A; then your names; then what follows =====
end
section
def ft_X : u_T := fun k => match k with
  | 0 => ("WhoSaysOne", "rows", "[LWhoSaysOne$Row;", true)
  | 1 => ("WhoSaysOne", "texts", "[LWhoSaysOne$Row;", true)
  | 2 => ("WhoSaysOne", "current", "LWhoSaysOne$Game;", true)
  | 3 => ("WhoSaysOne", "kept", "[LWhoSaysOne$Game;", true)
  | 4 => ("WhoSaysOne", "isKept", "[Z", true)
  | 5 => ("WhoSaysOne", "family", "[LWhoSaysOne$Player;", true)
  | 6 => ("WhoSaysOne", "kinds", "[I", true)
  | 7 => ("WhoSaysOne", "playerCount", "I", false)
  | 8 => ("WhoSaysOne", "reader", "LWhoSaysOne$Reader;", true)
  | 9 => ("WhoSaysOne", "sums", "LWhoSaysOne$Sums;", true)
  | 10 => ("WhoSaysOne", "solver", "LWhoSaysOne$Solver;", true)
  | 11 => ("WhoSaysOne", "toldAside", "I", false)
  | 12 => ("WhoSaysOne", "toldUpper", "J", false)
  | 13 => ("WhoSaysOne", "toldLower", "J", false)
  | 14 => ("WhoSaysOne", "latestFinding", "I", false)
  | _ => ("WhoSaysOne", "findingCounts", "[I", true)
def fy_X : Nat → FieldType := fun k => match k with
  | 0 => .array (.object "WhoSaysOne$Row")
  | 1 => .array (.object "WhoSaysOne$Row")
  | 2 => .object "WhoSaysOne$Game"
  | 3 => .array (.object "WhoSaysOne$Game")
  | 4 => .array .boolean
  | 5 => .array (.object "WhoSaysOne$Player")
  | 6 => .array .int
  | 7 => .int
  | 8 => .object "WhoSaysOne$Reader"
  | 9 => .object "WhoSaysOne$Sums"
  | 10 => .object "WhoSaysOne$Solver"
  | 11 => .int
  | 12 => .long
  | 13 => .long
  | 14 => .int
  | _ => .array .int
def ft_Rw : u_T := fun k => match k with
  | 0 => ("WhoSaysOne$Row", "places", "[I", true)
  | _ => ("WhoSaysOne$Row", "size", "I", false)
def fy_Rw : Nat → FieldType := fun k => match k with
  | 0 => .array .int
  | _ => .int
def ft_Gm : u_T := fun k => match k with
  | 0 => ("WhoSaysOne$Game", "numbers", "[I", true)
  | 1 => ("WhoSaysOne$Game", "size", "I", false)
  | 2 => ("WhoSaysOne$Game", "rule", "I", false)
  | _ => ("WhoSaysOne$Game", "reached", "J", false)
def fy_Gm : Nat → FieldType := fun k => match k with
  | 0 => .array .int
  | 1 => .int
  | 2 => .int
  | _ => .long
def ft_Pl : u_T := fun k => match k with
  | _ => ("", "", "", false)
def fy_Pl : Nat → FieldType := fun k => match k with
  | _ => .int
def ft_Sm : u_T := fun k => match k with
  | _ => ("", "", "", false)
def fy_Sm : Nat → FieldType := fun k => match k with
  | _ => .int
def ft_Pr : u_T := fun k => match k with
  | _ => ("", "", "", false)
def fy_Pr : Nat → FieldType := fun k => match k with
  | _ => .int
def ft_Bs : u_T := fun k => match k with
  | _ => ("", "", "", false)
def fy_Bs : Nat → FieldType := fun k => match k with
  | _ => .int
def ft_Lo : u_T := fun k => match k with
  | _ => ("", "", "", false)
def fy_Lo : Nat → FieldType := fun k => match k with
  | _ => .int
def ft_Ch : u_T := fun k => match k with
  | _ => ("", "", "", false)
def fy_Ch : Nat → FieldType := fun k => match k with
  | _ => .int
def ft_Rd : u_T := fun k => match k with
  | 0 => ("WhoSaysOne$Reader", "read", "LWhoSaysOne$Game;", true)
  | 1 => ("WhoSaysOne$Reader", "kinds", "[I", true)
  | 2 => ("WhoSaysOne$Reader", "playerCount", "I", false)
  | _ => ("WhoSaysOne$Reader", "place", "I", false)
def fy_Rd : Nat → FieldType := fun k => match k with
  | 0 => .object "WhoSaysOne$Game"
  | 1 => .array .int
  | 2 => .int
  | _ => .int
def ft_Su : u_T := fun k => match k with
  | 0 => ("WhoSaysOne$Sums", "least", "[I", true)
  | 1 => ("WhoSaysOne$Sums", "leastWith", "[I", true)
  | 2 => ("WhoSaysOne$Sums", "modulus", "I", false)
  | 3 => ("WhoSaysOne$Sums", "few", "[I", true)
  | 4 => ("WhoSaysOne$Sums", "ways", "[J", true)
  | _ => ("WhoSaysOne$Sums", "just", "[[J", true)
def fy_Su : Nat → FieldType := fun k => match k with
  | 0 => .array .int
  | 1 => .array .int
  | 2 => .int
  | 3 => .array .int
  | 4 => .array .long
  | _ => .array (.array .long)
def ft_So : u_T := fun k => match k with
  | 0 => ("WhoSaysOne$Solver", "gapBits", "I", false)
  | 1 => ("WhoSaysOne$Solver", "keys", "[I", true)
  | 2 => ("WhoSaysOne$Solver", "values", "[I", true)
  | _ => ("WhoSaysOne$Solver", "used", "I", false)
def fy_So : Nat → FieldType := fun k => match k with
  | 0 => .int
  | 1 => .array .int
  | 2 => .array .int
  | _ => .int
def ft_M : u_T := fun k => match k with
  | 0 => ("WhoSaysOneModel", "latest", "I", false)
  | 1 => ("WhoSaysOneModel", "came", "[I", true)
  | 2 => ("WhoSaysOneModel", "asked", "I", false)
  | 3 => ("WhoSaysOneModel", "upper", "J", false)
  | 4 => ("WhoSaysOneModel", "lower", "J", false)
  | 5 => ("WhoSaysOneModel", "sizes", "[I", true)
  | 6 => ("WhoSaysOneModel", "rows", "[I", true)
  | 7 => ("WhoSaysOneModel", "copied", "[I", true)
  | 8 => ("WhoSaysOneModel", "textSizes", "[I", true)
  | 9 => ("WhoSaysOneModel", "bytes", "[B", true)
  | 10 => ("WhoSaysOneModel", "few", "[I", true)
  | 11 => ("WhoSaysOneModel", "lawNow", "I", false)
  | 12 => ("WhoSaysOneModel", "playerMany", "I", false)
  | 13 => ("WhoSaysOneModel", "players", "[I", true)
  | 14 => ("WhoSaysOneModel", "n", "I", false)
  | 15 => ("WhoSaysOneModel", "numbers", "[I", true)
  | 16 => ("WhoSaysOneModel", "readAt", "I", false)
  | 17 => ("WhoSaysOneModel", "readLaw", "I", false)
  | 18 => ("WhoSaysOneModel", "isFirst", "Z", false)
  | 19 => ("WhoSaysOneModel", "readPlayers", "I", false)
  | 20 => ("WhoSaysOneModel", "readMany", "I", false)
  | 21 => ("WhoSaysOneModel", "readKinds", "[I", true)
  | 22 => ("WhoSaysOneModel", "readNumbers", "[I", true)
  | 23 => ("WhoSaysOneModel", "keptMany", "[I", true)
  | 24 => ("WhoSaysOneModel", "keptLaw", "[I", true)
  | 25 => ("WhoSaysOneModel", "keptNumbers", "[I", true)
  | 26 => ("WhoSaysOneModel", "sums", "[J", true)
  | 27 => ("WhoSaysOneModel", "justs", "[J", true)
  | 28 => ("WhoSaysOneModel", "gapMany", "I", false)
  | 29 => ("WhoSaysOneModel", "others", "[I", true)
  | 30 => ("WhoSaysOneModel", "gapOf", "[I", true)
  | 31 => ("WhoSaysOneModel", "placeOf", "[I", true)
  | 32 => ("WhoSaysOneModel", "wins", "[Z", true)
  | 33 => ("WhoSaysOneModel", "longest", "[I", true)
  | 34 => ("WhoSaysOneModel", "shortest", "[I", true)
  | 35 => ("WhoSaysOneModel", "drawn", "J", false)
  | 36 => ("WhoSaysOneModel", "isGap", "[Z", true)
  | 37 => ("WhoSaysOneModel", "level", "[I", true)
  | 38 => ("WhoSaysOneModel", "next", "[I", true)
  | _ => ("WhoSaysOneModel", "hash", "J", false)
def fy_M : Nat → FieldType := fun k => match k with
  | 0 => .int
  | 1 => .array .int
  | 2 => .int
  | 3 => .long
  | 4 => .long
  | 5 => .array .int
  | 6 => .array .int
  | 7 => .array .int
  | 8 => .array .int
  | 9 => .array .byte
  | 10 => .array .int
  | 11 => .int
  | 12 => .int
  | 13 => .array .int
  | 14 => .int
  | 15 => .array .int
  | 16 => .int
  | 17 => .int
  | 18 => .boolean
  | 19 => .int
  | 20 => .int
  | 21 => .array .int
  | 22 => .array .int
  | 23 => .array .int
  | 24 => .array .int
  | 25 => .array .int
  | 26 => .array .long
  | 27 => .array .long
  | 28 => .int
  | 29 => .array .int
  | 30 => .array .int
  | 31 => .array .int
  | 32 => .array .boolean
  | 33 => .array .int
  | 34 => .array .int
  | 35 => .long
  | 36 => .array .boolean
  | 37 => .array .int
  | 38 => .array .int
  | _ => .long
abbrev clsL : List vw_C := [("WhoSaysOne", ft_X, 16), ("WhoSaysOne$Row", ft_Rw, 2), ("WhoSaysOne$Game", ft_Gm, 4), ("WhoSaysOne$Player", ft_Pl, 0), ("WhoSaysOne$Small", ft_Sm, 0), ("WhoSaysOne$Pair", ft_Pr, 0), ("WhoSaysOne$Best", ft_Bs, 0), ("WhoSaysOne$Longer", ft_Lo, 0), ("WhoSaysOne$Chance", ft_Ch, 0), ("WhoSaysOne$Reader", ft_Rd, 4), ("WhoSaysOne$Sums", ft_Su, 6), ("WhoSaysOne$Solver", ft_So, 4), ("WhoSaysOneModel", ft_M, 40)]
def y_X_init : MethodName := ⟨"WhoSaysOne", "<init>", "()V"⟩
abbrev b_X_init : ByteArray := prog_1_method_1_code
def y_Gm_init : MethodName := ⟨"WhoSaysOne$Game", "<init>", "()V"⟩
abbrev b_Gm_init : ByteArray := prog_4_method_1_code
def y_Pl_init : MethodName := ⟨"WhoSaysOne$Player", "<init>", "()V"⟩
abbrev b_Pl_init : ByteArray := prog_7_method_1_code
def y_Sm_init : MethodName := ⟨"WhoSaysOne$Small", "<init>", "()V"⟩
abbrev b_Sm_init : ByteArray := prog_10_method_1_code
def y_Pr_init : MethodName := ⟨"WhoSaysOne$Pair", "<init>", "()V"⟩
abbrev b_Pr_init : ByteArray := prog_6_method_1_code
def y_Bs_init : MethodName := ⟨"WhoSaysOne$Best", "<init>", "()V"⟩
abbrev b_Bs_init : ByteArray := prog_2_method_1_code
def y_Lo_init : MethodName := ⟨"WhoSaysOne$Longer", "<init>", "()V"⟩
abbrev b_Lo_init : ByteArray := prog_5_method_1_code
def y_Ch_init : MethodName := ⟨"WhoSaysOne$Chance", "<init>", "()V"⟩
abbrev b_Ch_init : ByteArray := prog_3_method_1_code
def y_Rd_init : MethodName := ⟨"WhoSaysOne$Reader", "<init>", "()V"⟩
abbrev b_Rd_init : ByteArray := prog_8_method_1_code
def y_Su_init : MethodName := ⟨"WhoSaysOne$Sums", "<init>", "()V"⟩
abbrev b_Su_init : ByteArray := prog_12_method_1_code
def y_So_init : MethodName := ⟨"WhoSaysOne$Solver", "<init>", "()V"⟩
abbrev b_So_init : ByteArray := prog_11_method_1_code
def y_Rw_init : MethodName := ⟨"WhoSaysOne$Row", "<init>", "()V"⟩
abbrev b_Rw_init : ByteArray := prog_9_method_1_code
def y_X_row : MethodName := ⟨"WhoSaysOne", "row", "(II)I"⟩
abbrev b_X_row : ByteArray := prog_1_method_2_code
def y_X_begin : MethodName := ⟨"WhoSaysOne", "begin", "([LWhoSaysOne$Row;III)I"⟩
abbrev b_X_begin : ByteArray := prog_1_method_51_code
def y_X_isIn : MethodName := ⟨"WhoSaysOne", "isIn", "(II)Z"⟩
abbrev b_X_isIn : ByteArray := prog_1_method_48_code
def y_X_found : MethodName := ⟨"WhoSaysOne", "found", "(I)I"⟩
abbrev b_X_found : ByteArray := prog_1_method_49_code
def y_Rw_begin : MethodName := ⟨"WhoSaysOne$Row", "begin", "(II)V"⟩
abbrev b_Rw_begin : ByteArray := prog_9_method_4_code
def y_Ar_fillI : MethodName := ⟨"java/util/Arrays", "fill", "([II)V"⟩
abbrev b_Ar_fillI : ByteArray := prog_19_method_103_code
def y_X_lay : MethodName := ⟨"WhoSaysOne", "lay", "(III)I"⟩
abbrev b_X_lay : ByteArray := prog_1_method_3_code
def y_X_refusedPlace : MethodName := ⟨"WhoSaysOne", "refusedPlace", "([LWhoSaysOne$Row;II)I"⟩
abbrev b_X_refusedPlace : ByteArray := prog_1_method_53_code
def y_X_refusedRow : MethodName := ⟨"WhoSaysOne", "refusedRow", "([LWhoSaysOne$Row;I)I"⟩
abbrev b_X_refusedRow : ByteArray := prog_1_method_52_code
def y_Rw_isThere : MethodName := ⟨"WhoSaysOne$Row", "isThere", "()Z"⟩
abbrev b_Rw_isThere : ByteArray := prog_9_method_2_code
def y_X_at : MethodName := ⟨"WhoSaysOne", "at", "(II)I"⟩
abbrev b_X_at : ByteArray := prog_1_method_4_code
def y_X_tear : MethodName := ⟨"WhoSaysOne", "tear", "(I)I"⟩
abbrev b_X_tear : ByteArray := prog_1_method_5_code
def y_X_copy : MethodName := ⟨"WhoSaysOne", "copy", "(IIIII)I"⟩
abbrev b_X_copy : ByteArray := prog_1_method_6_code
def y_Rw_holdsRun : MethodName := ⟨"WhoSaysOne$Row", "holdsRun", "(II)Z"⟩
abbrev b_Rw_holdsRun : ByteArray := prog_9_method_3_code
def y_X_mean : MethodName := ⟨"WhoSaysOne", "mean", "(I)I"⟩
abbrev b_X_mean : ByteArray := prog_1_method_7_code
def y_X_text : MethodName := ⟨"WhoSaysOne", "text", "(II)I"⟩
abbrev b_X_text : ByteArray := prog_1_method_8_code
def y_X_put : MethodName := ⟨"WhoSaysOne", "put", "(III)I"⟩
abbrev b_X_put : ByteArray := prog_1_method_9_code
def y_X_fault : MethodName := ⟨"WhoSaysOne", "fault", "(I)I"⟩
abbrev b_X_fault : ByteArray := prog_1_method_10_code
def y_Rd_faultOf : MethodName := ⟨"WhoSaysOne$Reader", "faultOf", "(LWhoSaysOne$Row;)I"⟩
abbrev b_Rd_faultOf : ByteArray := prog_8_method_2_code
def y_Gm_begin : MethodName := ⟨"WhoSaysOne$Game", "begin", "(I)V"⟩
abbrev b_Gm_begin : ByteArray := prog_4_method_2_code
def y_Rd_takesItem : MethodName := ⟨"WhoSaysOne$Reader", "takesItem", "(LWhoSaysOne$Row;Z)Z"⟩
abbrev b_Rd_takesItem : ByteArray := prog_8_method_3_code
def y_Rd_takesLaw : MethodName := ⟨"WhoSaysOne$Reader", "takesLaw", "(LWhoSaysOne$Row;)Z"⟩
abbrev b_Rd_takesLaw : ByteArray := prog_8_method_4_code
def y_Rd_figureHere : MethodName := ⟨"WhoSaysOne$Reader", "figureHere", "(LWhoSaysOne$Row;)I"⟩
abbrev b_Rd_figureHere : ByteArray := prog_8_method_7_code
def y_Rd_takesNumber : MethodName := ⟨"WhoSaysOne$Reader", "takesNumber", "(LWhoSaysOne$Row;)Z"⟩
abbrev b_Rd_takesNumber : ByteArray := prog_8_method_6_code
def y_Gm_isOpen : MethodName := ⟨"WhoSaysOne$Game", "isOpen", "(I)Z"⟩
abbrev b_Gm_isOpen : ByteArray := prog_4_method_11_code
def y_Gm_open : MethodName := ⟨"WhoSaysOne$Game", "open", "()J"⟩
abbrev b_Gm_open : ByteArray := prog_4_method_8_code
def y_Gm_add : MethodName := ⟨"WhoSaysOne$Game", "add", "(I)V"⟩
abbrev b_Gm_add : ByteArray := prog_4_method_3_code
def y_Gm_reachedWith : MethodName := ⟨"WhoSaysOne$Game", "reachedWith", "(I)J"⟩
abbrev b_Gm_reachedWith : ByteArray := prog_4_method_19_code
def y_Gm_widened : MethodName := ⟨"WhoSaysOne$Game", "widened", "(IJI)J"⟩
abbrev b_Gm_widened : ByteArray := prog_4_method_21_code
def y_X_lowestOf : MethodName := ⟨"WhoSaysOne", "lowestOf", "(J)I"⟩
abbrev b_X_lowestOf : ByteArray := prog_1_method_61_code
def y_X_divisorOf : MethodName := ⟨"WhoSaysOne", "divisorOf", "(II)I"⟩
abbrev b_X_divisorOf : ByteArray := prog_1_method_60_code
def y_Rd_takesPlayer : MethodName := ⟨"WhoSaysOne$Reader", "takesPlayer", "(I)Z"⟩
abbrev b_Rd_takesPlayer : ByteArray := prog_8_method_5_code
def y_X_game : MethodName := ⟨"WhoSaysOne", "game", "(I)I"⟩
abbrev b_X_game : ByteArray := prog_1_method_11_code
def y_Gm_become : MethodName := ⟨"WhoSaysOne$Game", "become", "(LWhoSaysOne$Game;)V"⟩
abbrev b_Gm_become : ByteArray := prog_4_method_5_code
def y_X_law : MethodName := ⟨"WhoSaysOne", "law", "()I"⟩
abbrev b_X_law : ByteArray := prog_1_method_12_code
def y_X_player : MethodName := ⟨"WhoSaysOne", "player", "(I)I"⟩
abbrev b_X_player : ByteArray := prog_1_method_13_code
def y_X_mark : MethodName := ⟨"WhoSaysOne", "mark", "(II)I"⟩
abbrev b_X_mark : ByteArray := prog_1_method_14_code
def y_X_playerAt : MethodName := ⟨"WhoSaysOne", "playerAt", "(I)LWhoSaysOne$Player;"⟩
abbrev b_X_playerAt : ByteArray := prog_1_method_55_code
def y_X_isOf : MethodName := ⟨"WhoSaysOne", "isOf", "(LWhoSaysOne$Player;I)Z"⟩
abbrev b_X_isOf : ByteArray := prog_1_method_56_code
def y_Gm_isOver : MethodName := ⟨"WhoSaysOne$Game", "isOver", "()Z"⟩
abbrev b_Gm_isOver : ByteArray := prog_4_method_15_code
def y_Gm_last : MethodName := ⟨"WhoSaysOne$Game", "last", "()I"⟩
abbrev b_Gm_last : ByteArray := prog_4_method_6_code
def y_Bs_choice : MethodName := ⟨"WhoSaysOne$Best", "choice", "(LWhoSaysOne$Game;LWhoSaysOne$Solver;I)I"⟩
abbrev b_Bs_choice : ByteArray := prog_2_method_2_code
def y_So_load : MethodName := ⟨"WhoSaysOne$Solver", "load", "(LWhoSaysOne$Game;)Z"⟩
abbrev b_So_load : ByteArray := prog_11_method_2_code
def y_Lg_bitCount : MethodName := ⟨"java/lang/Long", "bitCount", "(J)I"⟩
abbrev b_Lg_bitCount : ByteArray := prog_16_method_50_code
def y_So_leastWin : MethodName := ⟨"WhoSaysOne$Solver", "leastWin", "()I"⟩
abbrev b_So_leastWin : ByteArray := prog_11_method_5_code
def y_So_winsBy : MethodName := ⟨"WhoSaysOne$Solver", "winsBy", "(I)Z"⟩
abbrev b_So_winsBy : ByteArray := prog_11_method_4_code
def y_So_gapsBehind : MethodName := ⟨"WhoSaysOne$Solver", "gapsBehind", "(II)I"⟩
abbrev b_So_gapsBehind : ByteArray := prog_11_method_9_code
def y_So_solved : MethodName := ⟨"WhoSaysOne$Solver", "solved", "(LWhoSaysOne$Solver;II)I"⟩
abbrev b_So_solved : ByteArray := prog_11_method_10_code
def y_So_slotOf : MethodName := ⟨"WhoSaysOne$Solver", "slotOf", "(I)I"⟩
abbrev b_So_slotOf : ByteArray := prog_11_method_12_code
def y_Ma_min : MethodName := ⟨"java/lang/Math", "min", "(II)I"⟩
abbrev b_Ma_min : ByteArray := prog_17_method_69_code
def y_So_isWin : MethodName := ⟨"WhoSaysOne$Solver", "isWin", "(I)Z"⟩
abbrev b_So_isWin : ByteArray := prog_11_method_8_code
def y_So_remember : MethodName := ⟨"WhoSaysOne$Solver", "remember", "(II)V"⟩
abbrev b_So_remember : ByteArray := prog_11_method_11_code
def y_Gm_leastAboveOne : MethodName := ⟨"WhoSaysOne$Game", "leastAboveOne", "()I"⟩
abbrev b_Gm_leastAboveOne : ByteArray := prog_4_method_13_code
def y_Gm_openAboveOne : MethodName := ⟨"WhoSaysOne$Game", "openAboveOne", "()J"⟩
abbrev b_Gm_openAboveOne : ByteArray := prog_4_method_9_code
def y_Ch_choice : MethodName := ⟨"WhoSaysOne$Chance", "choice", "(LWhoSaysOne$Game;LWhoSaysOne$Solver;I)I"⟩
abbrev b_Ch_choice : ByteArray := prog_3_method_2_code
def y_Pr_choice : MethodName := ⟨"WhoSaysOne$Pair", "choice", "(LWhoSaysOne$Game;LWhoSaysOne$Solver;I)I"⟩
abbrev b_Pr_choice : ByteArray := prog_6_method_2_code
def y_Gm_pairNumber : MethodName := ⟨"WhoSaysOne$Game", "pairNumber", "()I"⟩
abbrev b_Gm_pairNumber : ByteArray := prog_4_method_14_code
def y_X_highestOf : MethodName := ⟨"WhoSaysOne", "highestOf", "(J)I"⟩
abbrev b_X_highestOf : ByteArray := prog_1_method_62_code
def y_Sm_choice : MethodName := ⟨"WhoSaysOne$Small", "choice", "(LWhoSaysOne$Game;LWhoSaysOne$Solver;I)I"⟩
abbrev b_Sm_choice : ByteArray := prog_10_method_3_code
def y_Gm_openBehind : MethodName := ⟨"WhoSaysOne$Game", "openBehind", "(I)I"⟩
abbrev b_Gm_openBehind : ByteArray := prog_4_method_12_code
def y_Lo_isBetter : MethodName := ⟨"WhoSaysOne$Longer", "isBetter", "(II)Z"⟩
abbrev b_Lo_isBetter : ByteArray := prog_5_method_2_code
def y_Sm_isBetter : MethodName := ⟨"WhoSaysOne$Small", "isBetter", "(II)Z"⟩
abbrev b_Sm_isBetter : ByteArray := prog_10_method_2_code
def y_Pl_choice : MethodName := ⟨"WhoSaysOne$Player", "choice", "(LWhoSaysOne$Game;LWhoSaysOne$Solver;I)I"⟩
abbrev b_Pl_choice : ByteArray := prog_7_method_2_code
def y_So_winCount : MethodName := ⟨"WhoSaysOne$Solver", "winCount", "()I"⟩
abbrev b_So_winCount : ByteArray := prog_11_method_6_code
def y_Gm_openCount : MethodName := ⟨"WhoSaysOne$Game", "openCount", "()I"⟩
abbrev b_Gm_openCount : ByteArray := prog_4_method_10_code
def y_X_say : MethodName := ⟨"WhoSaysOne", "say", "(I)I"⟩
abbrev b_X_say : ByteArray := prog_1_method_15_code
def y_X_may : MethodName := ⟨"WhoSaysOne", "may", "(I)I"⟩
abbrev b_X_may : ByteArray := prog_1_method_16_code
def y_X_said : MethodName := ⟨"WhoSaysOne", "said", "(I)I"⟩
abbrev b_X_said : ByteArray := prog_1_method_17_code
def y_X_undo : MethodName := ⟨"WhoSaysOne", "undo", "(I)I"⟩
abbrev b_X_undo : ByteArray := prog_1_method_18_code
def y_Gm_cut : MethodName := ⟨"WhoSaysOne$Game", "cut", "(I)V"⟩
abbrev b_Gm_cut : ByteArray := prog_4_method_4_code
def y_Gm_reachedWithout : MethodName := ⟨"WhoSaysOne$Game", "reachedWithout", "(I)J"⟩
abbrev b_Gm_reachedWithout : ByteArray := prog_4_method_20_code
def y_X_turn : MethodName := ⟨"WhoSaysOne", "turn", "()I"⟩
abbrev b_X_turn : ByteArray := prog_1_method_19_code
def y_Gm_loser : MethodName := ⟨"WhoSaysOne$Game", "loser", "()I"⟩
abbrev b_Gm_loser : ByteArray := prog_4_method_16_code
def y_X_keep : MethodName := ⟨"WhoSaysOne", "keep", "(I)I"⟩
abbrev b_X_keep : ByteArray := prog_1_method_20_code
def y_X_on : MethodName := ⟨"WhoSaysOne", "on", "(I)I"⟩
abbrev b_X_on : ByteArray := prog_1_method_21_code
def y_X_had : MethodName := ⟨"WhoSaysOne", "had", "(I)I"⟩
abbrev b_X_had : ByteArray := prog_1_method_22_code
def y_Gm_divisor : MethodName := ⟨"WhoSaysOne$Game", "divisor", "()I"⟩
abbrev b_Gm_divisor : ByteArray := prog_4_method_7_code
def y_Su_fewest : MethodName := ⟨"WhoSaysOne$Sums", "fewest", "(LWhoSaysOne$Game;I)I"⟩
abbrev b_Su_fewest : ByteArray := prog_12_method_8_code
def y_Su_takeThrice : MethodName := ⟨"WhoSaysOne$Sums", "takeThrice", "(II)V"⟩
abbrev b_Su_takeThrice : ByteArray := prog_12_method_12_code
def y_Su_takeOften : MethodName := ⟨"WhoSaysOne$Sums", "takeOften", "(II)V"⟩
abbrev b_Su_takeOften : ByteArray := prog_12_method_11_code
def y_X_ways : MethodName := ⟨"WhoSaysOne", "ways", "(I)I"⟩
abbrev b_X_ways : ByteArray := prog_1_method_23_code
def y_Su_waysOf : MethodName := ⟨"WhoSaysOne$Sums", "waysOf", "(LWhoSaysOne$Game;I)J"⟩
abbrev b_Su_waysOf : ByteArray := prog_12_method_9_code
def y_Ar_fillJ : MethodName := ⟨"java/util/Arrays", "fill", "([JJ)V"⟩
abbrev b_Ar_fillJ : ByteArray := prog_19_method_101_code
def y_X_tellFraction : MethodName := ⟨"WhoSaysOne", "tellFraction", "(JJ)V"⟩
abbrev b_X_tellFraction : ByteArray := prog_1_method_50_code
def y_X_byJust : MethodName := ⟨"WhoSaysOne", "byJust", "(II)I"⟩
abbrev b_X_byJust : ByteArray := prog_1_method_24_code
def y_Su_waysByJust : MethodName := ⟨"WhoSaysOne$Sums", "waysByJust", "(LWhoSaysOne$Game;II)J"⟩
abbrev b_Su_waysByJust : ByteArray := prog_12_method_10_code
def y_X_gaps : MethodName := ⟨"WhoSaysOne", "gaps", "(I)I"⟩
abbrev b_X_gaps : ByteArray := prog_1_method_25_code
def y_Su_load : MethodName := ⟨"WhoSaysOne$Sums", "load", "(LWhoSaysOne$Game;)V"⟩
abbrev b_Su_load : ByteArray := prog_12_method_2_code
def y_Su_widen : MethodName := ⟨"WhoSaysOne$Sums", "widen", "([III)V"⟩
abbrev b_Su_widen : ByteArray := prog_12_method_13_code
def y_Su_isEndless : MethodName := ⟨"WhoSaysOne$Sums", "isEndless", "()Z"⟩
abbrev b_Su_isEndless : ByteArray := prog_12_method_3_code
def y_Su_greatestOf : MethodName := ⟨"WhoSaysOne$Sums", "greatestOf", "([II)I"⟩
abbrev b_Su_greatestOf : ByteArray := prog_12_method_14_code
def y_Ma_max : MethodName := ⟨"java/lang/Math", "max", "(II)I"⟩
abbrev b_Ma_max : ByteArray := prog_17_method_65_code
def y_Su_greatestGap : MethodName := ⟨"WhoSaysOne$Sums", "greatestGap", "()I"⟩
abbrev b_Su_greatestGap : ByteArray := prog_12_method_4_code
def y_Su_isHad : MethodName := ⟨"WhoSaysOne$Sums", "isHad", "(I)Z"⟩
abbrev b_Su_isHad : ByteArray := prog_12_method_6_code
def y_Rw_add : MethodName := ⟨"WhoSaysOne$Row", "add", "(I)V"⟩
abbrev b_Rw_add : ByteArray := prog_9_method_5_code
def y_Su_gapCount : MethodName := ⟨"WhoSaysOne$Sums", "gapCount", "()I"⟩
abbrev b_Su_gapCount : ByteArray := prog_12_method_5_code
def y_X_greatest : MethodName := ⟨"WhoSaysOne", "greatest", "()I"⟩
abbrev b_X_greatest : ByteArray := prog_1_method_26_code
def y_X_rest : MethodName := ⟨"WhoSaysOne", "rest", "(II)I"⟩
abbrev b_X_rest : ByteArray := prog_1_method_27_code
def y_X_needed : MethodName := ⟨"WhoSaysOne", "needed", "()I"⟩
abbrev b_X_needed : ByteArray := prog_1_method_28_code
def y_Gm_neededBits : MethodName := ⟨"WhoSaysOne$Game", "neededBits", "()I"⟩
abbrev b_Gm_neededBits : ByteArray := prog_4_method_17_code
def y_In_bitCount : MethodName := ⟨"java/lang/Integer", "bitCount", "(I)I"⟩
abbrev b_In_bitCount : ByteArray := prog_15_method_49_code
def y_X_common : MethodName := ⟨"WhoSaysOne", "common", "()I"⟩
abbrev b_X_common : ByteArray := prog_1_method_29_code
def y_X_from : MethodName := ⟨"WhoSaysOne", "from", "()I"⟩
abbrev b_X_from : ByteArray := prog_1_method_30_code
def y_X_wish : MethodName := ⟨"WhoSaysOne", "wish", "(I)I"⟩
abbrev b_X_wish : ByteArray := prog_1_method_31_code
def y_Su_greatestWith : MethodName := ⟨"WhoSaysOne$Sums", "greatestWith", "(I)I"⟩
abbrev b_Su_greatestWith : ByteArray := prog_12_method_7_code
def y_X_whose : MethodName := ⟨"WhoSaysOne", "whose", "()I"⟩
abbrev b_X_whose : ByteArray := prog_1_method_32_code
def y_X_refusedSolving : MethodName := ⟨"WhoSaysOne", "refusedSolving", "()I"⟩
abbrev b_X_refusedSolving : ByteArray := prog_1_method_54_code
def y_X_best : MethodName := ⟨"WhoSaysOne", "best", "(I)I"⟩
abbrev b_X_best : ByteArray := prog_1_method_33_code
def y_X_lasts : MethodName := ⟨"WhoSaysOne", "lasts", "()I"⟩
abbrev b_X_lasts : ByteArray := prog_1_method_34_code
def y_So_shortest : MethodName := ⟨"WhoSaysOne$Solver", "shortest", "()I"⟩
abbrev b_So_shortest : ByteArray := prog_11_method_7_code
def y_So_gapCount : MethodName := ⟨"WhoSaysOne$Solver", "gapCount", "()I"⟩
abbrev b_So_gapCount : ByteArray := prog_11_method_3_code
def y_X_share : MethodName := ⟨"WhoSaysOne", "share", "()I"⟩
abbrev b_X_share : ByteArray := prog_1_method_35_code
def y_X_says : MethodName := ⟨"WhoSaysOne", "says", "(I)I"⟩
abbrev b_X_says : ByteArray := prog_1_method_36_code
def y_X_play : MethodName := ⟨"WhoSaysOne", "play", "(II)I"⟩
abbrev b_X_play : ByteArray := prog_1_method_37_code
def y_X_list : MethodName := ⟨"WhoSaysOne", "list", "(I)I"⟩
abbrev b_X_list : ByteArray := prog_1_method_38_code
def y_Rw_asBits : MethodName := ⟨"WhoSaysOne$Row", "asBits", "()J"⟩
abbrev b_Rw_asBits : ByteArray := prog_9_method_6_code
def y_X_leastPaid : MethodName := ⟨"WhoSaysOne", "leastPaid", "(J)I"⟩
abbrev b_X_leastPaid : ByteArray := prog_1_method_65_code
def y_X_isGap : MethodName := ⟨"WhoSaysOne", "isGap", "(JI)Z"⟩
abbrev b_X_isGap : ByteArray := prog_1_method_63_code
def y_X_isPaid : MethodName := ⟨"WhoSaysOne", "isPaid", "(JI)Z"⟩
abbrev b_X_isPaid : ByteArray := prog_1_method_64_code
def y_X_makes : MethodName := ⟨"WhoSaysOne", "makes", "(II)I"⟩
abbrev b_X_makes : ByteArray := prog_1_method_39_code
def y_X_isMaker : MethodName := ⟨"WhoSaysOne", "isMaker", "(JI)Z"⟩
abbrev b_X_isMaker : ByteArray := prog_1_method_66_code
def y_X_tree : MethodName := ⟨"WhoSaysOne", "tree", "(II)I"⟩
abbrev b_X_tree : ByteArray := prog_1_method_40_code
def y_X_setsBelow : MethodName := ⟨"WhoSaysOne", "setsBelow", "(JIII)I"⟩
abbrev b_X_setsBelow : ByteArray := prog_1_method_67_code
def y_X_asked : MethodName := ⟨"WhoSaysOne", "asked", "()I"⟩
abbrev b_X_asked : ByteArray := prog_1_method_41_code
def y_X_upper : MethodName := ⟨"WhoSaysOne", "upper", "()J"⟩
abbrev b_X_upper : ByteArray := prog_1_method_42_code
def y_X_lower : MethodName := ⟨"WhoSaysOne", "lower", "()J"⟩
abbrev b_X_lower : ByteArray := prog_1_method_43_code
def y_X_count : MethodName := ⟨"WhoSaysOne", "count", "(I)I"⟩
abbrev b_X_count : ByteArray := prog_1_method_44_code
def y_X_playersOf : MethodName := ⟨"WhoSaysOne", "playersOf", "(I)I"⟩
abbrev b_X_playersOf : ByteArray := prog_1_method_57_code
def y_X_keptCount : MethodName := ⟨"WhoSaysOne", "keptCount", "()I"⟩
abbrev b_X_keptCount : ByteArray := prog_1_method_58_code
def y_X_thereOf : MethodName := ⟨"WhoSaysOne", "thereOf", "([LWhoSaysOne$Row;)I"⟩
abbrev b_X_thereOf : ByteArray := prog_1_method_59_code
def y_X_finding : MethodName := ⟨"WhoSaysOne", "finding", "()I"⟩
abbrev b_X_finding : ByteArray := prog_1_method_45_code
def y_X_findings : MethodName := ⟨"WhoSaysOne", "findings", "(I)I"⟩
abbrev b_X_findings : ByteArray := prog_1_method_46_code
def y_X_digest : MethodName := ⟨"WhoSaysOne", "digest", "()J"⟩
abbrev b_X_digest : ByteArray := prog_1_method_47_code
def y_Gm_digestNumbers : MethodName := ⟨"WhoSaysOne$Game", "digestNumbers", "(J)J"⟩
abbrev b_Gm_digestNumbers : ByteArray := prog_4_method_18_code
def y_Rw_digestPlaces : MethodName := ⟨"WhoSaysOne$Row", "digestPlaces", "(J)J"⟩
abbrev b_Rw_digestPlaces : ByteArray := prog_9_method_7_code
def y_M_init : MethodName := ⟨"WhoSaysOneModel", "<init>", "()V"⟩
abbrev b_M_init : ByteArray := prog_14_method_1_code
def y_M_finding : MethodName := ⟨"WhoSaysOneModel", "finding", "()I"⟩
abbrev b_M_finding : ByteArray := prog_14_method_9_code
def y_M_findings : MethodName := ⟨"WhoSaysOneModel", "findings", "(I)I"⟩
abbrev b_M_findings : ByteArray := prog_14_method_10_code
def y_M_in : MethodName := ⟨"WhoSaysOneModel", "in", "(III)Z"⟩
abbrev b_M_in : ByteArray := prog_14_method_2_code
def y_M_asked : MethodName := ⟨"WhoSaysOneModel", "asked", "()I"⟩
abbrev b_M_asked : ByteArray := prog_14_method_12_code
def y_M_upper : MethodName := ⟨"WhoSaysOneModel", "upper", "()J"⟩
abbrev b_M_upper : ByteArray := prog_14_method_15_code
def y_M_lower : MethodName := ⟨"WhoSaysOneModel", "lower", "()J"⟩
abbrev b_M_lower : ByteArray := prog_14_method_16_code
def y_M_row : MethodName := ⟨"WhoSaysOneModel", "row", "(II)I"⟩
abbrev b_M_row : ByteArray := prog_14_method_19_code
def y_M_isRow : MethodName := ⟨"WhoSaysOneModel", "isRow", "(I)Z"⟩
abbrev b_M_isRow : ByteArray := prog_14_method_17_code
def y_M_meets : MethodName := ⟨"WhoSaysOneModel", "meets", "(I)I"⟩
abbrev b_M_meets : ByteArray := prog_14_method_8_code
def y_M_lay : MethodName := ⟨"WhoSaysOneModel", "lay", "(III)I"⟩
abbrev b_M_lay : ByteArray := prog_14_method_20_code
def y_M_rowAt : MethodName := ⟨"WhoSaysOneModel", "rowAt", "(II)I"⟩
abbrev b_M_rowAt : ByteArray := prog_14_method_18_code
def y_M_tells : MethodName := ⟨"WhoSaysOneModel", "tells", "(II)I"⟩
abbrev b_M_tells : ByteArray := prog_14_method_11_code
def y_M_at : MethodName := ⟨"WhoSaysOneModel", "at", "(II)I"⟩
abbrev b_M_at : ByteArray := prog_14_method_21_code
def y_M_tear : MethodName := ⟨"WhoSaysOneModel", "tear", "(I)I"⟩
abbrev b_M_tear : ByteArray := prog_14_method_22_code
def y_M_copy : MethodName := ⟨"WhoSaysOneModel", "copy", "(IIIII)I"⟩
abbrev b_M_copy : ByteArray := prog_14_method_23_code
def y_M_mean : MethodName := ⟨"WhoSaysOneModel", "mean", "(I)I"⟩
abbrev b_M_mean : ByteArray := prog_14_method_24_code
def y_M_text : MethodName := ⟨"WhoSaysOneModel", "text", "(II)I"⟩
abbrev b_M_text : ByteArray := prog_14_method_26_code
def y_M_isText : MethodName := ⟨"WhoSaysOneModel", "isText", "(I)Z"⟩
abbrev b_M_isText : ByteArray := prog_14_method_25_code
def y_M_put : MethodName := ⟨"WhoSaysOneModel", "put", "(III)I"⟩
abbrev b_M_put : ByteArray := prog_14_method_27_code
def y_M_fault : MethodName := ⟨"WhoSaysOneModel", "fault", "(I)I"⟩
abbrev b_M_fault : ByteArray := prog_14_method_37_code
def y_M_faultOf : MethodName := ⟨"WhoSaysOneModel", "faultOf", "(I)I"⟩
abbrev b_M_faultOf : ByteArray := prog_14_method_36_code
def y_M_byteAt : MethodName := ⟨"WhoSaysOneModel", "byteAt", "(II)I"⟩
abbrev b_M_byteAt : ByteArray := prog_14_method_28_code
def y_M_readsItem : MethodName := ⟨"WhoSaysOneModel", "readsItem", "(I)Z"⟩
abbrev b_M_readsItem : ByteArray := prog_14_method_35_code
def y_M_readsLaw : MethodName := ⟨"WhoSaysOneModel", "readsLaw", "(I)Z"⟩
abbrev b_M_readsLaw : ByteArray := prog_14_method_33_code
def y_M_readsNumber : MethodName := ⟨"WhoSaysOneModel", "readsNumber", "(I)Z"⟩
abbrev b_M_readsNumber : ByteArray := prog_14_method_34_code
def y_M_layFew : MethodName := ⟨"WhoSaysOneModel", "layFew", "([IIII)V"⟩
abbrev b_M_layFew : ByteArray := prog_14_method_29_code
def y_M_divisor : MethodName := ⟨"WhoSaysOneModel", "divisor", "(II)I"⟩
abbrev b_M_divisor : ByteArray := prog_14_method_7_code
def y_M_lesser : MethodName := ⟨"WhoSaysOneModel", "lesser", "(II)I"⟩
abbrev b_M_lesser : ByteArray := prog_14_method_5_code
def y_M_isHad : MethodName := ⟨"WhoSaysOneModel", "isHad", "(I)Z"⟩
abbrev b_M_isHad : ByteArray := prog_14_method_30_code
def y_M_kindOf : MethodName := ⟨"WhoSaysOneModel", "kindOf", "(I)I"⟩
abbrev b_M_kindOf : ByteArray := prog_14_method_32_code
def y_M_game : MethodName := ⟨"WhoSaysOneModel", "game", "(I)I"⟩
abbrev b_M_game : ByteArray := prog_14_method_38_code
def y_M_law : MethodName := ⟨"WhoSaysOneModel", "law", "()I"⟩
abbrev b_M_law : ByteArray := prog_14_method_39_code
def y_M_player : MethodName := ⟨"WhoSaysOneModel", "player", "(I)I"⟩
abbrev b_M_player : ByteArray := prog_14_method_41_code
def y_M_isPlayer : MethodName := ⟨"WhoSaysOneModel", "isPlayer", "(I)Z"⟩
abbrev b_M_isPlayer : ByteArray := prog_14_method_40_code
def y_M_say : MethodName := ⟨"WhoSaysOneModel", "say", "(I)I"⟩
abbrev b_M_say : ByteArray := prog_14_method_46_code
def y_M_isOver : MethodName := ⟨"WhoSaysOneModel", "isOver", "()Z"⟩
abbrev b_M_isOver : ByteArray := prog_14_method_44_code
def y_M_saidOne : MethodName := ⟨"WhoSaysOneModel", "saidOne", "()Z"⟩
abbrev b_M_saidOne : ByteArray := prog_14_method_42_code
def y_M_leftNow : MethodName := ⟨"WhoSaysOneModel", "leftNow", "()I"⟩
abbrev b_M_leftNow : ByteArray := prog_14_method_43_code
def y_M_leftOf : MethodName := ⟨"WhoSaysOneModel", "leftOf", "([III)I"⟩
abbrev b_M_leftOf : ByteArray := prog_14_method_31_code
def y_M_maySay : MethodName := ⟨"WhoSaysOneModel", "maySay", "(I)Z"⟩
abbrev b_M_maySay : ByteArray := prog_14_method_45_code
def y_M_may : MethodName := ⟨"WhoSaysOneModel", "may", "(I)I"⟩
abbrev b_M_may : ByteArray := prog_14_method_47_code
def y_M_said : MethodName := ⟨"WhoSaysOneModel", "said", "(I)I"⟩
abbrev b_M_said : ByteArray := prog_14_method_48_code
def y_M_undo : MethodName := ⟨"WhoSaysOneModel", "undo", "(I)I"⟩
abbrev b_M_undo : ByteArray := prog_14_method_49_code
def y_M_turn : MethodName := ⟨"WhoSaysOneModel", "turn", "()I"⟩
abbrev b_M_turn : ByteArray := prog_14_method_50_code
def y_M_keep : MethodName := ⟨"WhoSaysOneModel", "keep", "(I)I"⟩
abbrev b_M_keep : ByteArray := prog_14_method_51_code
def y_M_on : MethodName := ⟨"WhoSaysOneModel", "on", "(I)I"⟩
abbrev b_M_on : ByteArray := prog_14_method_52_code
def y_M_had : MethodName := ⟨"WhoSaysOneModel", "had", "(I)I"⟩
abbrev b_M_had : ByteArray := prog_14_method_53_code
def y_M_ways : MethodName := ⟨"WhoSaysOneModel", "ways", "(I)I"⟩
abbrev b_M_ways : ByteArray := prog_14_method_54_code
def y_M_whole : MethodName := ⟨"WhoSaysOneModel", "whole", "(JI)I"⟩
abbrev b_M_whole : ByteArray := prog_14_method_13_code
def y_M_byJust : MethodName := ⟨"WhoSaysOneModel", "byJust", "(II)I"⟩
abbrev b_M_byJust : ByteArray := prog_14_method_55_code
def y_M_gaps : MethodName := ⟨"WhoSaysOneModel", "gaps", "(I)I"⟩
abbrev b_M_gaps : ByteArray := prog_14_method_59_code
def y_M_isEndless : MethodName := ⟨"WhoSaysOneModel", "isEndless", "()Z"⟩
abbrev b_M_isEndless : ByteArray := prog_14_method_57_code
def y_M_commonOf : MethodName := ⟨"WhoSaysOneModel", "commonOf", "([II)I"⟩
abbrev b_M_commonOf : ByteArray := prog_14_method_56_code
def y_M_layGaps : MethodName := ⟨"WhoSaysOneModel", "layGaps", "()I"⟩
abbrev b_M_layGaps : ByteArray := prog_14_method_58_code
def y_M_greatest : MethodName := ⟨"WhoSaysOneModel", "greatest", "()I"⟩
abbrev b_M_greatest : ByteArray := prog_14_method_60_code
def y_M_rest : MethodName := ⟨"WhoSaysOneModel", "rest", "(II)I"⟩
abbrev b_M_rest : ByteArray := prog_14_method_61_code
def y_M_needed : MethodName := ⟨"WhoSaysOneModel", "needed", "()I"⟩
abbrev b_M_needed : ByteArray := prog_14_method_62_code
def y_M_bits : MethodName := ⟨"WhoSaysOneModel", "bits", "(I)I"⟩
abbrev b_M_bits : ByteArray := prog_14_method_4_code
def y_M_common : MethodName := ⟨"WhoSaysOneModel", "common", "()I"⟩
abbrev b_M_common : ByteArray := prog_14_method_63_code
def y_M_from : MethodName := ⟨"WhoSaysOneModel", "from", "()I"⟩
abbrev b_M_from : ByteArray := prog_14_method_64_code
def y_M_wish : MethodName := ⟨"WhoSaysOneModel", "wish", "(I)I"⟩
abbrev b_M_wish : ByteArray := prog_14_method_67_code
def y_M_areAll : MethodName := ⟨"WhoSaysOneModel", "areAll", "([III)Z"⟩
abbrev b_M_areAll : ByteArray := prog_14_method_65_code
def y_M_layOthers : MethodName := ⟨"WhoSaysOneModel", "layOthers", "()V"⟩
abbrev b_M_layOthers : ByteArray := prog_14_method_66_code
def y_M_whose : MethodName := ⟨"WhoSaysOneModel", "whose", "()I"⟩
abbrev b_M_whose : ByteArray := prog_14_method_75_code
def y_M_needSolved : MethodName := ⟨"WhoSaysOneModel", "needSolved", "()I"⟩
abbrev b_M_needSolved : ByteArray := prog_14_method_74_code
def y_M_isSolved : MethodName := ⟨"WhoSaysOneModel", "isSolved", "()Z"⟩
abbrev b_M_isSolved : ByteArray := prog_14_method_68_code
def y_M_layWins : MethodName := ⟨"WhoSaysOneModel", "layWins", "()V"⟩
abbrev b_M_layWins : ByteArray := prog_14_method_70_code
def y_M_has : MethodName := ⟨"WhoSaysOneModel", "has", "(II)Z"⟩
abbrev b_M_has : ByteArray := prog_14_method_3_code
def y_M_behind : MethodName := ⟨"WhoSaysOneModel", "behind", "(II)I"⟩
abbrev b_M_behind : ByteArray := prog_14_method_69_code
def y_M_greater : MethodName := ⟨"WhoSaysOneModel", "greater", "(II)I"⟩
abbrev b_M_greater : ByteArray := prog_14_method_6_code
def y_M_winMany : MethodName := ⟨"WhoSaysOneModel", "winMany", "()I"⟩
abbrev b_M_winMany : ByteArray := prog_14_method_73_code
def y_M_isWinning : MethodName := ⟨"WhoSaysOneModel", "isWinning", "(I)Z"⟩
abbrev b_M_isWinning : ByteArray := prog_14_method_72_code
def y_M_allGaps : MethodName := ⟨"WhoSaysOneModel", "allGaps", "()I"⟩
abbrev b_M_allGaps : ByteArray := prog_14_method_71_code
def y_M_best : MethodName := ⟨"WhoSaysOneModel", "best", "(I)I"⟩
abbrev b_M_best : ByteArray := prog_14_method_76_code
def y_M_lasts : MethodName := ⟨"WhoSaysOneModel", "lasts", "()I"⟩
abbrev b_M_lasts : ByteArray := prog_14_method_77_code
def y_M_share : MethodName := ⟨"WhoSaysOneModel", "share", "()I"⟩
abbrev b_M_share : ByteArray := prog_14_method_78_code
def y_M_fraction : MethodName := ⟨"WhoSaysOneModel", "fraction", "(III)I"⟩
abbrev b_M_fraction : ByteArray := prog_14_method_14_code
def y_M_says : MethodName := ⟨"WhoSaysOneModel", "says", "(I)I"⟩
abbrev b_M_says : ByteArray := prog_14_method_87_code
def y_M_saysOf : MethodName := ⟨"WhoSaysOneModel", "saysOf", "(IZ)I"⟩
abbrev b_M_saysOf : ByteArray := prog_14_method_86_code
def y_M_byLeft : MethodName := ⟨"WhoSaysOneModel", "byLeft", "(Z)I"⟩
abbrev b_M_byLeft : ByteArray := prog_14_method_81_code
def y_M_pairOf : MethodName := ⟨"WhoSaysOneModel", "pairOf", "()I"⟩
abbrev b_M_pairOf : ByteArray := prog_14_method_82_code
def y_M_greatestLeft : MethodName := ⟨"WhoSaysOneModel", "greatestLeft", "()I"⟩
abbrev b_M_greatestLeft : ByteArray := prog_14_method_80_code
def y_M_leastAbove : MethodName := ⟨"WhoSaysOneModel", "leastAbove", "()I"⟩
abbrev b_M_leastAbove : ByteArray := prog_14_method_79_code
def y_M_bestOf : MethodName := ⟨"WhoSaysOneModel", "bestOf", "()I"⟩
abbrev b_M_bestOf : ByteArray := prog_14_method_83_code
def y_M_chanceOf : MethodName := ⟨"WhoSaysOneModel", "chanceOf", "()I"⟩
abbrev b_M_chanceOf : ByteArray := prog_14_method_85_code
def y_M_aboveMany : MethodName := ⟨"WhoSaysOneModel", "aboveMany", "()I"⟩
abbrev b_M_aboveMany : ByteArray := prog_14_method_84_code
def y_M_mark : MethodName := ⟨"WhoSaysOneModel", "mark", "(II)I"⟩
abbrev b_M_mark : ByteArray := prog_14_method_89_code
def y_M_leftBehind : MethodName := ⟨"WhoSaysOneModel", "leftBehind", "(I)I"⟩
abbrev b_M_leftBehind : ByteArray := prog_14_method_88_code
def y_M_play : MethodName := ⟨"WhoSaysOneModel", "play", "(II)I"⟩
abbrev b_M_play : ByteArray := prog_14_method_90_code
def y_M_list : MethodName := ⟨"WhoSaysOneModel", "list", "(I)I"⟩
abbrev b_M_list : ByteArray := prog_14_method_93_code
def y_M_needList : MethodName := ⟨"WhoSaysOneModel", "needList", "(I)I"⟩
abbrev b_M_needList : ByteArray := prog_14_method_91_code
def y_M_wrongSum : MethodName := ⟨"WhoSaysOneModel", "wrongSum", "()I"⟩
abbrev b_M_wrongSum : ByteArray := prog_14_method_92_code
def y_M_makes : MethodName := ⟨"WhoSaysOneModel", "makes", "(II)I"⟩
abbrev b_M_makes : ByteArray := prog_14_method_95_code
def y_M_isMaker : MethodName := ⟨"WhoSaysOneModel", "isMaker", "(I)Z"⟩
abbrev b_M_isMaker : ByteArray := prog_14_method_94_code
def y_M_tree : MethodName := ⟨"WhoSaysOneModel", "tree", "(II)I"⟩
abbrev b_M_tree : ByteArray := prog_14_method_98_code
def y_M_topOf : MethodName := ⟨"WhoSaysOneModel", "topOf", "(I)I"⟩
abbrev b_M_topOf : ByteArray := prog_14_method_96_code
def y_M_makesIt : MethodName := ⟨"WhoSaysOneModel", "makesIt", "(II)Z"⟩
abbrev b_M_makesIt : ByteArray := prog_14_method_97_code
def y_M_count : MethodName := ⟨"WhoSaysOneModel", "count", "(I)I"⟩
abbrev b_M_count : ByteArray := prog_14_method_100_code
def y_M_counted : MethodName := ⟨"WhoSaysOneModel", "counted", "(I)I"⟩
abbrev b_M_counted : ByteArray := prog_14_method_99_code
def y_M_digest : MethodName := ⟨"WhoSaysOneModel", "digest", "()J"⟩
abbrev b_M_digest : ByteArray := prog_14_method_103_code
def y_M_mix : MethodName := ⟨"WhoSaysOneModel", "mix", "(J)V"⟩
abbrev b_M_mix : ByteArray := prog_14_method_101_code
def y_M_mixGame : MethodName := ⟨"WhoSaysOneModel", "mixGame", "()V"⟩
abbrev b_M_mixGame : ByteArray := prog_14_method_102_code
end
section
/-! My own layer: an abstract machine whose heap is a function of names (integers); name k is the cell at k + off. -/
def Vi (z : Int) : Value := .int (Int32.ofInt z)
def Vj (z : Int) : Value := .long (Int64.ofInt z)
/-- a reference by its name; -1 is the script -/
def Vr (a : Int) : Value := .ref (a + 1).toNat
def rl (bb off : Nat) (v : Value) : Value := match v with
  | .ref 0 => .ref bb
  | .ref (k + 1) => .ref (k + off)
  | w => w
theorem rl_r {bb off : Nat} {a : Int} (h : 0 ≤ a) : rl bb off (Vr a) = .ref (a.toNat + off) := by
  unfold Vr
  rw [show (a + 1).toNat = a.toNat + 1 by omega]
  rfl
theorem rl_s {bb off : Nat} : rl bb off (Vr (-1)) = .ref bb := rfl
theorem rl_cat {bb off : Nat} (v : Value) : (rl bb off v).category = v.category := by
  cases v with
  | ref k => cases k <;> rfl
  | _ => rfl
abbrev AE : Type := (Nat × Nat × (Int → Int)) ⊕ (Nat × List Value)
abbrev AH : Type := Int → Option AE
def cO (ci : Nat) (fs : List Value) : Option AE := some (.inr (ci, fs))
def cA (t N : Nat) (F : Int → Int) : Option AE := some (.inl (t, N, F))
def hset (h : AH) (a : Int) (c : Option AE) : AH := fun k => if k = a then c else h k
def up (F : Int → Int) (i v : Int) : Int → Int := fun k => if k = i then v else F k
theorem hset_eq {h : AH} {a : Int} {c : Option AE} : hset h a c a = c := if_pos rfl
theorem hset_ne {h : AH} {a k : Int} {c : Option AE} (e : k ≠ a) : hset h a c k = h k := if_neg e
theorem hset_hset {h : AH} {a : Int} {c d : Option AE} : hset (hset h a c) a d = hset h a d := by
  funext k
  unfold hset
  split <;> rfl
theorem up_eq {F : Int → Int} {i v : Int} : up F i v i = v := if_pos rfl
theorem up_ne {F : Int → Int} {i v k : Int} (e : k ≠ i) : up F i v k = F k := if_neg e
def cnt (off t : Nat) (F : Int → Int) : ((Nat → Int32) ⊕ (Nat → Int64) ⊕ (Nat → UInt32) ⊕ (Nat → UInt64) ⊕ (Nat → Option Nat)) :=
  if t = 1 then .inr (.inl (fun j => Int64.ofInt (F j)))
  else if t < 4 then .inl (fun j => Int32.ofInt (F j))
  else .inr (.inr (.inr (.inr (fun j => if F j < 0 then none else some ((F j).toNat + off)))))
def cnv (bb off : Nat) (K : Nat → ClassId) (c : Option AE) : va_E := match c with
  | none => .inr (0, [])
  | some (.inl (t, N, F)) => .inl (K t, N, cnt off t F)
  | some (.inr (ci, fs)) => .inr (ci, fs.map (rl bb off))
def wld (bb off : Nat) (K : Nat → ClassId) (n : Nat) (h : AH) : va_W := (List.range n).map (fun (k : Nat) => (k + off, cnv bb off K (h (k : Int))))
theorem wld_get {bb off : Nat} {K : Nat → ClassId} {n k : Nat} {h : AH} (hk : k < n) : (wld bb off K n h)[k]? = some (k + off, cnv bb off K (h (k : Int))) := by
  simp [wld, hk]
theorem wld_some {bb off : Nat} {K : Nat → ClassId} {n k : Nat} {h : AH} {q : Nat × va_E} (hk : (wld bb off K n h)[k]? = some q) : k < n ∧ q = (k + off, cnv bb off K (h (k : Int))) := by
  have hl : k < n := by
    have := (List.getElem?_eq_some_iff.mp hk).1
    simpa [wld] using this
  rw [wld_get hl] at hk
  exact ⟨hl, (Option.some.inj hk).symm⟩
theorem wld_len {bb off : Nat} {K : Nat → ClassId} {n : Nat} {h : AH} : (wld bb off K n h).length = n := by simp [wld]
theorem wld_set {bb off : Nat} {K : Nat → ClassId} {n k : Nat} {h : AH} {a : Int} {c : Option AE} (hk : k < n) (ha : a = (k : Int)) : (wld bb off K n h).set k (k + off, cnv bb off K c) = wld bb off K n (hset h a c) := by
  apply List.ext_getElem?
  intro i
  rw [List.getElem?_set]
  by_cases hi : i < n
  · rw [wld_get hi, wld_len]
    by_cases e : k = i
    · subst e
      subst ha
      rw [if_pos rfl, if_pos hk, wld_get hk, hset_eq]
    · rw [if_neg e, wld_get hi, hset_ne (by omega)]
  · have h1 : (wld bb off K n (hset h a c))[i]? = none := List.getElem?_eq_none (by rw [wld_len]; omega)
    have h2 : (wld bb off K n h)[i]? = none := List.getElem?_eq_none (by rw [wld_len]; omega)
    rw [h1, h2, if_neg (by omega)]
theorem wld_push {bb off : Nat} {K : Nat → ClassId} {n : Nat} {h : AH} {c : Option AE} : wld bb off K n h ++ [(n + off, cnv bb off K c)] = wld bb off K (n + 1) (hset h (n : Int) c) := by
  apply List.ext_getElem?
  intro i
  by_cases hi : i < n
  · rw [List.getElem?_append_left (by rw [wld_len]; exact hi), wld_get hi, wld_get (by omega), hset_ne (by omega)]
  · rw [List.getElem?_append_right (by rw [wld_len]; omega), wld_len]
    by_cases e : i = n
    · subst e
      rw [wld_get (by omega), hset_eq, Nat.sub_self]
      rfl
    · rw [List.getElem?_eq_none (by simp; omega), List.getElem?_eq_none (by rw [wld_len]; omega)]
theorem wld_D {bb off : Nat} {K : Nat → ClassId} {n : Nat} {h : AH} : va_D (fun q => off ≤ q) (wld bb off K n h) := by
  refine ⟨fun i j p q hi hj e => ?_, fun k q hk => ?_⟩
  · obtain ⟨-, rfl⟩ := wld_some hi
    obtain ⟨-, rfl⟩ := wld_some hj
    have e : i + off = j + off := e
    omega
  · obtain ⟨-, rfl⟩ := wld_some hk
    show off ≤ k + off
    omega
/-- the names that there are -/
def Dm (n : Nat) (h : AH) : Prop := ∀ a : Int, h a ≠ none ↔ (0 ≤ a ∧ a < n)
theorem Dm.set {n : Nat} {h : AH} {a : Int} {c0 c : AE} (H : Dm n h) (ha : h a = some c0) : Dm n (hset h a (some c)) := by
  intro k
  by_cases e : k = a
  · subst e
    rw [hset_eq]
    have := (H k).mp (by rw [ha]; simp)
    simp [this]
  · rw [hset_ne e]
    exact H k
theorem Dm.push {n : Nat} {h : AH} {c : AE} (H : Dm n h) : Dm (n + 1) (hset h (n : Int) (some c)) := by
  intro k
  by_cases e : k = (n : Int)
  · subst e
    rw [hset_eq]
    simp
    omega
  · rw [hset_ne e, H k]
    omega
theorem Dm.lt {n : Nat} {h : AH} {a : Int} {c : AE} (H : Dm n h) (ha : h a = some c) : 0 ≤ a ∧ a < n := (H a).mp (by rw [ha]; simp)
def Wd (bb off : Nat) (D : va_G) (K : Nat → ClassId) (n : Nat) (h : AH) (H : Heap) : Prop := H.size = n + off ∧ va_P D clsL (wld bb off K n h) H ∧ Dm n h
def tyC (t : Nat) : FieldType := match t with
  | 0 => .int
  | 1 => .long
  | 2 => .byte
  | 3 => .boolean
  | 4 => .object "WhoSaysOne$Row"
  | 5 => .object "WhoSaysOne$Game"
  | 6 => .object "WhoSaysOne$Player"
  | _ => .array .long
def tysL (K : Nat → ClassId) : List (ClassId × FieldType) := (List.range 8).map (fun t => (K t, tyC t))
theorem tysL_get {K : Nat → ClassId} {t : Nat} (h : t < 8) : (tysL K)[t]? = some (K t, tyC t) := by simp [tysL, h]
/-- which class an object of one class isn't -/
def ncL : List (String × String) := [("WhoSaysOne$Player", "WhoSaysOne$Small"), ("WhoSaysOne$Player", "WhoSaysOne$Pair"), ("WhoSaysOne$Player", "WhoSaysOne$Best"), ("WhoSaysOne$Player", "WhoSaysOne$Longer"), ("WhoSaysOne$Player", "WhoSaysOne$Chance"), ("WhoSaysOne$Small", "WhoSaysOne$Pair"), ("WhoSaysOne$Small", "WhoSaysOne$Best"), ("WhoSaysOne$Small", "WhoSaysOne$Longer"), ("WhoSaysOne$Small", "WhoSaysOne$Chance"), ("WhoSaysOne$Pair", "WhoSaysOne$Small"), ("WhoSaysOne$Pair", "WhoSaysOne$Best"), ("WhoSaysOne$Pair", "WhoSaysOne$Longer"), ("WhoSaysOne$Pair", "WhoSaysOne$Chance"), ("WhoSaysOne$Best", "WhoSaysOne$Small"), ("WhoSaysOne$Best", "WhoSaysOne$Pair"), ("WhoSaysOne$Best", "WhoSaysOne$Longer"), ("WhoSaysOne$Best", "WhoSaysOne$Chance"), ("WhoSaysOne$Longer", "WhoSaysOne$Pair"), ("WhoSaysOne$Longer", "WhoSaysOne$Best"), ("WhoSaysOne$Longer", "WhoSaysOne$Chance"), ("WhoSaysOne$Chance", "WhoSaysOne$Small"), ("WhoSaysOne$Chance", "WhoSaysOne$Best"), ("WhoSaysOne$Chance", "WhoSaysOne$Longer")]
/-- words that stand after warming -/
def keptWord : Cond → Bool
  | .methodLinkNest _ _ _ _ => true
  | .castable _ _ => true
  | .arrayOver _ => true
  | w => goodWord w
def gtb : List Cond := lw_tbl.filter keptWord
theorem gtb_in {w : Cond} (h : w ∈ lw_tbl) (hk : keptWord w = true) : w ∈ gtb := List.mem_filter.mpr ⟨h, hk⟩
def KK (D : va_G) (K : Nat → ClassId) (U : State) : Prop := va_K D clsL (tysL K) U ∧ (∀ q ∈ ncL, va_Nc q.1 q.2 U) ∧ ∀ (A : Array Value) (w : Cond), w ∈ gtb → w.before A U = true
theorem KK.warm {D : va_G} {K : Nat → ClassId} {s U : State} (hW : s.WarmedH U.vm) (h : KK D K s) : KK D K U := by
  refine ⟨va_K.moved hW.alike h.1, fun q hq => (h.2.1 q hq).moved hW.alike, fun A w hw => ?_⟩
  have h0 := h.2.2 #[] w hw
  have hk := (List.mem_filter.mp hw).2
  cases w <;> first
    | exact word_at hW (good_of_word hk) h0
    | exact va_tabs rfl rfl (va_Nw.warmM hW h0)
    | exact va_tabs rfl rfl (va_Nw.warmC hW h0)
    | exact (show (Cond.arrayOver _).before A U = (Cond.arrayOver _).before #[] (s.setVm U.vm) from rfl).trans ((Cond.arrayOver_setVmC hW.alike _).trans h0)

/-- the abstract locals by their places -/
def asc (f : Value → Value) : Nat → List (Option Value) → List (Nat × Value)
  | _, [] => []
  | i, none :: l => asc f (i + 1) l
  | i, some v :: l => (i, f v) :: asc f (i + 1) l
theorem asc_in {f : Value → Value} {v : Value} : ∀ (l : List (Option Value)) (i k : Nat), l[k]? = some (some v) → (i + k, f v) ∈ asc f i l
  | [], _, _, h => by simp at h
  | x :: l, i, 0, h => by
    simp at h
    subst h
    simp [asc]
  | x :: l, i, k + 1, h => by
    have h2 := asc_in (f := f) (v := v) l (i + 1) k (by simpa using h)
    rw [show i + 1 + k = i + (k + 1) by omega] at h2
    cases x with
    | none => exact h2
    | some y => exact List.mem_cons_of_mem _ h2
theorem asc_of {f : Value → Value} : ∀ (l : List (Option Value)) (i : Nat) (q : Nat × Value), q ∈ asc f i l → ∃ (k : Nat) (v : Value), l[k]? = some (some v) ∧ q = (i + k, f v)
  | [], _, _, h => by simp [asc] at h
  | none :: l, i, q, h => by
    obtain ⟨k, v, h1, h2⟩ := asc_of l (i + 1) q h
    exact ⟨k + 1, v, by simpa using h1, by rw [h2]; congr 1; omega⟩
  | some y :: l, i, q, h => by
    rcases List.mem_cons.mp h with h | h
    · exact ⟨0, y, rfl, h⟩
    · obtain ⟨k, v, h1, h2⟩ := asc_of l (i + 1) q h
      exact ⟨k + 1, v, by simpa using h1, by rw [h2]; congr 1; omega⟩
def Lh (f : Value → Value) (L : Array Slot) (mL : Nat) (ls : List (Option Value)) : Prop := lv_has L mL (asc f 0 ls) ∧ ls.length ≤ mL
theorem Lh.get {f : Value → Value} {L : Array Slot} {mL : Nat} {ls : List (Option Value)} (h : Lh f L mL ls) {k : Nat} {v : Value} (hk : ls[k]? = some (some v)) : L[k]? = some (.val (f v)) := by
  have := h.1.2.2 _ (asc_in ls 0 k hk)
  simpa using this
/-- is the value in this place of one slot -/
def one1 (l : List (Option Value)) (i : Nat) : Bool := match l[i]? with
  | some (some (.long _)) => false
  | some (some (.double _)) => false
  | _ => true
def prev1 (l : List (Option Value)) (i : Nat) : Bool := match i with
  | 0 => true
  | k + 1 => one1 l k
theorem one1_cat {l : List (Option Value)} {i : Nat} {v : Value} (h : one1 l i = true) (hv : l[i]? = some (some v)) : v.category = 1 := by
  unfold one1 at h
  rw [hv] at h
  cases v <;> first | rfl | cases h
/-- the locals behind a store of one slot -/
theorem Lh.set1 {f : Value → Value} (hf : ∀ v, (f v).category = v.category) {L L' : Array Slot} {mL : Nat} {ls : List (Option Value)} (h : Lh f L mL ls) {i : Nat} {v : Value} (hp : prev1 ls i = true) (hi : i < ls.length)
    (hL : lv_has L' mL ((i, f v) :: (asc f 0 ls).filter (fun q => !(q.1 == i) && !(q.1 + 1 == i && q.2.category == 2)))) : Lh f L' mL (ls.set i (some v)) := by
  refine ⟨⟨hL.1, hL.2.1, fun q hq => ?_⟩, by simpa using h.2⟩
  obtain ⟨k, w, h1, rfl⟩ := asc_of _ _ _ hq
  rw [Nat.zero_add]
  refine hL.2.2 (k, f w) ?_
  rw [List.getElem?_set] at h1
  by_cases e : i = k
  · subst e
    rw [if_pos rfl, if_pos hi] at h1
    cases h1
    exact List.mem_cons_self
  · rw [if_neg e] at h1
    refine List.mem_cons_of_mem _ (List.mem_filter.mpr ⟨by simpa using asc_in ls 0 k h1, ?_⟩)
    have hki : ¬ k = i := fun z => e z.symm
    simp only [hf]
    by_cases e2 : k + 1 = i
    · subst e2
      have := one1_cat hp h1
      simp [this]
    · simp [hki, e2]
theorem Lh.set2 {f : Value → Value} (hf : ∀ v, (f v).category = v.category) {L L' : Array Slot} {mL : Nat} {ls : List (Option Value)} (h : Lh f L mL ls) {i : Nat} {v : Value} (hp : prev1 ls i = true) (hi : i < ls.length)
    (hL : lv_has L' mL ((i, f v) :: (asc f 0 ls).filter (fun q => !(q.1 == i) && (!(q.1 == i + 1) && !(q.1 + 1 == i && q.2.category == 2))))) : Lh f L' mL ((ls.set i (some v)).set (i + 1) none) := by
  refine ⟨⟨hL.1, hL.2.1, fun q hq => ?_⟩, by simpa using h.2⟩
  obtain ⟨k, w, h1, rfl⟩ := asc_of _ _ _ hq
  rw [Nat.zero_add]
  refine hL.2.2 (k, f w) ?_
  rw [List.getElem?_set] at h1
  by_cases e1 : i + 1 = k
  · subst e1
    rw [if_pos rfl] at h1
    split at h1 <;> simp at h1
  rw [if_neg e1, List.getElem?_set] at h1
  by_cases e : i = k
  · subst e
    rw [if_pos rfl, if_pos hi] at h1
    cases h1
    exact List.mem_cons_self
  · rw [if_neg e] at h1
    refine List.mem_cons_of_mem _ (List.mem_filter.mpr ⟨by simpa using asc_in ls 0 k h1, ?_⟩)
    have hki : ¬ k = i := fun z => e z.symm
    have hki1 : ¬ k = i + 1 := fun z => e1 z.symm
    simp only [hf]
    by_cases e2 : k + 1 = i
    · subst e2
      have := one1_cat hp h1
      simp [this]
      omega
    · simp [hki, e2, hki1]
theorem Lh.drop {f : Value → Value} {L : Array Slot} {mL : Nat} {ls ls' : List (Option Value)} (h : Lh f L mL ls) (hl : ls'.length ≤ mL) (hs : ∀ (k : Nat) (v : Value), ls'[k]? = some (some v) → ls[k]? = some (some v)) : Lh f L mL ls' := by
  refine ⟨⟨h.1.1, h.1.2.1, fun q hq => ?_⟩, hl⟩
  obtain ⟨k, w, h1, rfl⟩ := asc_of _ _ _ hq
  have := h.get (hs k w h1)
  simpa using this
/-- which value a method of a return type may answer, by which instruction -/
def retI (rt : Option FieldType) (i : Instr) (v : Option Value) : Prop :=
  (rt = some .int ∧ i = .ireturn ∧ ∃ z : Int, v = some (Vi z)) ∨ (rt = some .boolean ∧ i = .ireturn ∧ ∃ z : Int, (z = 0 ∨ z = 1) ∧ v = some (Vi z)) ∨ (rt = some .long ∧ i = .lreturn ∧ ∃ z : Int, v = some (Vj z)) ∨
  (rt = none ∧ i = .return_ ∧ v = none) ∨ ((∃ C, rt = some (.object C)) ∧ i = .areturn ∧ ∃ a : Int, v = some (Vr a))
abbrev roomM (d a : Nat) : Room := { frames := d, cells := a, slots := 16500 * a, locals := 40 * d }
def EvP (bb off : Nat) (D : va_G) (K : Nat → ClassId) (vs : List Value) (n : Nat) (h : AH) : Array Value → State → Prop := fun v U => v = (vs.map (rl bb off)).toArray ∧ Wd bb off D K n h U.heap ∧ KK D K U
def EvQ (bb off : Nat) (D : va_G) (K : Nat → ClassId) (n : Nat) (Q : Option Value → AH → Prop) : Array Value → State → Outcome → State → Prop := fun _ st oc t => (∃ (v : Option Value) (h' : AH), oc = .returned (v.map (rl bb off)) ∧ Q v h' ∧ Wd bb off D K n h' t.heap) ∧ va_F (fun q => off ≤ q) st t
/-- a method's contract: from these arguments and this heap it comes to an answer and a heap with Q; a new cells; d: how deep its calls go at most -/
def Ev (y : MethodName) (b : ByteArray) (mL : Nat) (rt : Option FieldType) (d a : Nat) (vs : List Value) (n : Nat) (h : AH) (Q : Option Value → AH → Prop) : Prop :=
  ∀ (l : Launch) (D : va_G) (K : Nat → ClassId) (bb off : Nat), Met l y [.code y b mL rt] (roomM d a) (EvP bb off D K vs n h) (EvQ bb off D K (n + a) Q) a (16500 * a) (fun q => off ≤ q)
/-- the machine at a place of a method's body comes to an end with Q -/
def Cx (own : String) (b : ByteArray) (mL : Nat) (rt : Option FieldType) (isI : Bool) (d a n0 : Nat) (Q : Option Value → AH → Prop) (G : Nat → List (Option Value) → List Value → Nat → AH → Prop) : Prop :=
  ∃ (p : Program) (l : Launch) (e : Env) (R : Room) (s : State) (m : MethodId) (args : Array Value) (below : List Frame) (meth : Method) (c : Code) (D : va_G) (K : Nat → ClassId) (bb off : Nat) (Z : State → Prop),
    p.tables.exec = Jvm.exec ∧ c.code = b ∧ c.maxLocals = mL ∧ s.vm.findClass own = some m.cls ∧ KK D K s ∧ (isI = true → meth.name = "<init>") ∧ (d ≤ R.frames ∧ 40 * d ≤ R.locals ∧ a ≤ R.cells ∧ 16500 * a ≤ R.slots) ∧ off ≤ s.heap.size ∧
    (∀ (i : Instr) (v : Option Value) (pc : Nat) (L : Array Slot) (h : AH) (H : Heap) (locs : List Loc), retI rt i v → decode b pc = .ok (i, 1) → Q v h → Wd bb off D K (n0 + a) h H → va_S (fun q => off ≤ q) s.heap H locs → W p l e R s m args below meth c H locs a (16500 * a) Z (F0 m pc L (v.toList.map (rl bb off)))) ∧
    G = fun pc ls st n h => n0 ≤ n → n ≤ n0 + a → ∀ (H : Heap) (locs : List Loc) (L : Array Slot), Lh (rl bb off) L mL ls → Wd bb off D K n h H → va_S (fun q => off ≤ q) s.heap H locs → W p l e R s m args below meth c H locs (n - n0) (16500 * (n - n0)) Z (F0 m pc L (st.map (rl bb off)))
/-- what a method's locals are at its entry -/
def ent : List Value → List (Option Value)
  | [] => []
  | .long x :: l => some (.long x) :: none :: ent l
  | .double x :: l => some (.double x) :: none :: ent l
  | v :: l => some v :: ent l
theorem lv_args_ent (f : Value → Value) (hf : ∀ v, (f v).category = v.category) : ∀ (vs : List Value) (i : Nat), lv_args i (vs.map f) = asc f i (ent vs)
  | [], _ => rfl
  | v :: vs, i => by
    have e1 := lv_args_ent f hf vs (i + 1)
    have e2 := lv_args_ent f hf vs (i + 2)
    simp only [List.map_cons, lv_args, hf v]
    cases v <;> simp [ent, asc, Value.category, e1, e2]
theorem ent_len (f : Value → Value) (hf : ∀ v, (f v).category = v.category) : ∀ (vs : List Value), (lg_sl (vs.map f)).length = (ent vs).length
  | [] => rfl
  | v :: vs => by
    have e1 := ent_len f hf vs
    unfold lg_sl at e1 ⊢
    rw [List.map_cons, List.flatMap_cons, List.length_append, e1, hf v]
    cases v <;> simp [ent, Value.category] <;> omega
theorem ent_pad (f : Value → Value) : ∀ (l : List (Option Value)) (i k : Nat), asc f i (l ++ List.replicate k none) = asc f i l
  | [], i, 0 => rfl
  | [], i, k + 1 => by
    have := ent_pad f [] (i + 1) k
    simpa [List.replicate_succ, asc] using this
  | none :: l, i, k => by simpa [asc] using ent_pad f l (i + 1) k
  | some v :: l, i, k => by simpa [asc] using ent_pad f l (i + 1) k
theorem Ev.mk {y : MethodName} {b : ByteArray} {mL : Nat} {rt : Option FieldType} {isI : Bool} {d a : Nat} {vs : List Value} {n : Nat} {h : AH} {Q : Option Value → AH → Prop} (hy : plainName y.cls = true) (hI : isI = true → y.name = "<init>") (hl : (ent vs).length ≤ mL)
    (k : ∀ G, Cx y.cls b mL rt isI d a n Q G → G 0 (ent vs ++ List.replicate (mL - (ent vs).length) none) [] n h) : Ev y b mL rt d a vs n h Q := by
  intro l D K bb off
  refine Met.ofW (cc := b) (maxL := mL) (ret := rt) hy rfl ?_
  intro p e s m args below meth c s₁ B hml hv
  obtain ⟨rfl, hW, hK⟩ := hv
  have hoff : off ≤ s.heap.size := by rw [hW.1]; omega
  have key := k (fun pc ls st n' h' => n ≤ n' → n' ≤ n + a → ∀ (H : Heap) (locs : List Loc) (L : Array Slot), Lh (rl bb off) L mL ls → Wd bb off D K n' h' H → va_S (fun q => off ≤ q) s.heap H locs → W p l e (roomM d a) s m (vs.map (rl bb off)).toArray below meth c H locs (n' - n) (16500 * (n' - n)) (MQ below (EvQ bb off D K (n + a) Q) (vs.map (rl bb off)).toArray s a (16500 * a) (fun q => off ≤ q)) (F0 m pc L (st.map (rl bb off)))) ?_
  · have hl0 := lv_entry (vs.map (rl bb off)) (n := mL) (by rw [ent_len _ rl_cat]; exact hl)
    have e0 := key (Nat.le_refl _) (Nat.le_add_right _ _) s.heap [] _ ⟨⟨hl0.1, hl0.2.1, by rw [ent_pad, ← lv_args_ent _ rl_cat]; exact hl0.2.2⟩, by simp; omega⟩ hW va_S.rf
    rw [Nat.sub_self] at e0
    rw [lg_entry_eq]
    exact e0
  · refine ⟨p, l, e, roomM d a, s, m, (vs.map (rl bb off)).toArray, below, meth, c, D, K, bb, off, MQ below (EvQ bb off D K (n + a) Q) (vs.map (rl bb off)).toArray s a (16500 * a) (fun q => off ≤ q), B.exec, B.bytes, hml, findClass_of_methodNamed B.named, hK, fun z => (name_of_methodNamed B.named B.method).1.trans (hI z), ⟨Nat.le_refl _, Nat.le_refl _, Nat.le_refl _, Nat.le_refl _⟩, hoff, ?_, rfl⟩
    intro i v pc L h' H locs hr hd hq hW' hS
    have hlocks := B.notSynchronized
    have hrt := B.returns
    have fin : ∀ t : State, t.heap = H → s.WarmedH t.vm → (∃ (v' : Option Value) (h' : AH), Outcome.returned (v.map (rl bb off)) = .returned (v'.map (rl bb off)) ∧ Q v' h' ∧ Wd bb off D K (n + a) h' t.heap) ∧ va_F (fun q => off ≤ q) s t := fun t ht _ => ⟨⟨v, h', rfl, hq, by rw [ht]; exact hW'⟩, hS.F ht⟩
    rcases hr with ⟨r1, rfl, z, rfl⟩ | ⟨r1, rfl, z, hz, rfl⟩ | ⟨r1, rfl, z, rfl⟩ | ⟨r1, rfl, rfl⟩ | ⟨⟨C, r1⟩, rfl, z, rfl⟩
    · exact W.iret B.exec B.bytes (hrt.trans r1) fin hS.2.2 hd
    · refine W.zret B.exec B.bytes (hrt.trans r1) ?_ fin hS.2.2 hd
      rcases hz with rfl | rfl <;> rfl
    · exact W.lret B.exec B.bytes (hrt.trans r1) fin hS.2.2 hd
    · exact W.vret B.exec B.bytes (hrt.trans r1) fin hS.2.2 hd
    · refine W.aret B.exec B.bytes (hrt.trans r1) (Or.inl ⟨C, rfl⟩) (Or.inr ?_) fin hS.2.2 hd
      unfold Vr rl
      cases (z + 1).toNat <;> exact ⟨_, rfl⟩
end
section
/-! part 04: printed by wip/tool/gen_ops.py: the instructions of the abstract machine -/
abbrev R3 (z : Int) : Prop := -2147483648 ≤ z ∧ z ≤ 2147483647
abbrev R6 (z : Int) : Prop := -9223372036854775808 ≤ z ∧ z ≤ 9223372036854775807
theorem i3_toInt {z : Int} (h : R3 z) : (Int32.ofInt z).toInt = z := Int32.toInt_ofInt_of_le (by have := h.1; omega) (by have := h.2; omega)
theorem i6_toInt {z : Int} (h : R6 z) : (Int64.ofInt z).toInt = z := Int64.toInt_ofInt_of_le (by have := h.1; omega) (by have := h.2; omega)
theorem i3_lt {x y : Int} (hx : R3 x) (hy : R3 y) : Int32.ofInt x < Int32.ofInt y ↔ x < y := by rw [Int32.lt_iff_toInt_lt, i3_toInt hx, i3_toInt hy]
theorem i3_le {x y : Int} (hx : R3 x) (hy : R3 y) : Int32.ofInt x ≤ Int32.ofInt y ↔ x ≤ y := by rw [Int32.le_iff_toInt_le, i3_toInt hx, i3_toInt hy]
theorem i3_eq {x y : Int} (hx : R3 x) (hy : R3 y) : Int32.ofInt x = Int32.ofInt y ↔ x = y := by rw [← Int32.toInt_inj, i3_toInt hx, i3_toInt hy]
theorem i6_lt {x y : Int} (hx : R6 x) (hy : R6 y) : Int64.ofInt x < Int64.ofInt y ↔ x < y := by rw [Int64.lt_iff_toInt_lt, i6_toInt hx, i6_toInt hy]
theorem i6_eq {x y : Int} (hx : R6 x) (hy : R6 y) : Int64.ofInt x = Int64.ofInt y ↔ x = y := by rw [← Int64.toInt_inj, i6_toInt hx, i6_toInt hy]
theorem i3_of (x : Int32) : ∃ z : Int, x = Int32.ofInt z ∧ R3 z := ⟨x.toInt, (Int32.ofInt_toInt x).symm, by have := Int32.le_toInt x; omega, by have := Int32.toInt_lt x; omega⟩
theorem i6_of (x : Int64) : ∃ z : Int, x = Int64.ofInt z ∧ R6 z := ⟨x.toInt, (Int64.ofInt_toInt x).symm, by have := Int64.le_toInt x; omega, by have := Int64.toInt_lt x; omega⟩
theorem i3_zero : Int32.ofInt 0 = 0 := rfl
theorem i3_clamp {i : Int} (h0 : 0 ≤ i) (h1 : i ≤ 2147483647) : ((Int32.ofInt i).toNatClampNeg : Int) = i := by
  show ((Int32.ofInt i).toInt.toNat : Int) = i
  rw [i3_toInt ⟨by omega, h1⟩]
  omega
theorem i3_in {i : Int} {N : Nat} (h0 : 0 ≤ i) (h1 : i < N) (hN : N ≤ 2147483647) : vp_in (Int32.ofInt i) N := by
  rw [vp_in_iff, i3_toInt ⟨by omega, by omega⟩]
  omega
def cmp3 (x y : Int) : Int := if y < x then 1 else if x = y then 0 else -1
theorem cmp3_R (x y : Int) : R3 (cmp3 x y) := by
  unfold cmp3
  split
  · decide
  · split <;> decide
theorem cmp3_lt {x y : Int} : cmp3 x y < 0 ↔ x < y := by unfold cmp3; repeat' split <;> omega
theorem cmp3_ge {x y : Int} : 0 ≤ cmp3 x y ↔ y ≤ x := by unfold cmp3; repeat' split <;> omega
theorem cmp3_gt {x y : Int} : 0 < cmp3 x y ↔ y < x := by unfold cmp3; repeat' split <;> omega
theorem cmp3_le {x y : Int} : cmp3 x y ≤ 0 ↔ x ≤ y := by unfold cmp3; repeat' split <;> omega
theorem cmp3_eq {x y : Int} : cmp3 x y = 0 ↔ x = y := by unfold cmp3; repeat' split <;> omega
theorem cmp3_ne {x y : Int} : cmp3 x y ≠ 0 ↔ x ≠ y := by rw [ne_eq, cmp3_eq]
theorem lg_cmp3 {x y : Int} (hx : R6 x) (hy : R6 y) : lg_cmp (Int64.ofInt x) (Int64.ofInt y) = Int32.ofInt (cmp3 x y) := by
  unfold lg_cmp cmp3
  simp only [gt_iff_lt, i6_lt hy hx, i6_eq hx hy]
  split
  · rfl
  · split <;> rfl
theorem rl_ref (bb off : Nat) (a : Int) : ∃ x : Nat, rl bb off (Vr a) = .ref x := by
  unfold Vr rl
  cases (a + 1).toNat <;> exact ⟨_, rfl⟩
theorem i6_zero : Int64.ofInt 0 = 0 := rfl
theorem i3_divN {x y : Int} (hx0 : 0 ≤ x) (hx1 : x ≤ 2147483647) (hy0 : 0 < y) (hy1 : y ≤ 2147483647) : Int32.ofInt x / Int32.ofInt y = Int32.ofInt (x / y) := by
  rw [← Int32.toInt_inj, Int32.toInt_div, i3_toInt ⟨by omega, by omega⟩, i3_toInt ⟨by omega, by omega⟩, Int.tdiv_eq_ediv_of_nonneg hx0]
  have h1 := Int.ediv_nonneg hx0 (Int.le_of_lt hy0)
  have h2 := Int.ediv_le_self y hx0
  rw [i3_toInt ⟨by omega, by omega⟩]
  exact Int.bmod_eq_of_le (by omega) (by omega)
theorem i6_divT {x y : Int} (hx0 : -9223372036854775807 ≤ x) (hx1 : x ≤ 9223372036854775807) (hy0 : 0 < y) (hy1 : y ≤ 9223372036854775807) : Int64.ofInt x / Int64.ofInt y = Int64.ofInt (x.tdiv y) := by
  have hb : -9223372036854775807 ≤ x.tdiv y ∧ x.tdiv y ≤ 9223372036854775807 := by
    rcases Int.le_total 0 x with h0 | h0
    · rw [Int.tdiv_eq_ediv_of_nonneg h0]
      have h1 := Int.ediv_nonneg h0 (Int.le_of_lt hy0)
      have h2 := Int.ediv_le_self y h0
      omega
    · have e : x.tdiv y = -((-x).tdiv y) := by rw [Int.neg_tdiv, Int.neg_neg]
      rw [e, Int.tdiv_eq_ediv_of_nonneg (by omega)]
      have h1 := Int.ediv_nonneg (show 0 ≤ -x by omega) (Int.le_of_lt hy0)
      have h2 := Int.ediv_le_self y (show 0 ≤ -x by omega)
      omega
  rw [← Int64.toInt_inj, Int64.toInt_div, i6_toInt ⟨by omega, by omega⟩, i6_toInt ⟨by omega, by omega⟩, i6_toInt ⟨by omega, by omega⟩]
  exact Int.bmod_eq_of_le (by omega) (by omega)
theorem i6_toI3 (x : Int) : (Int64.ofInt x).toInt32 = Int32.ofInt x := by
  first
    | exact Int64.toInt32_ofInt x
    | (rw [Int64.toInt32_ofInt])
section GX
variable {own : String} {b : ByteArray} {mL : Nat} {rt : Option FieldType} {isI : Bool} {d a n0 : Nat} {Q : Option Value → AH → Prop} {G : Nat → List (Option Value) → List Value → Nat → AH → Prop}
variable {pc q tgt : Nat} {st : List Value} {ls : List (Option Value)} {n : Nat} {h : AH}
theorem gx_iload0 (hG : Cx own b mL rt isI d a n0 Q G) {z : Int} (hd : decode b pc = .ok (.iload_n 0, 1)) (hq : pc + 1 = q) (k : G q (some (Vi z) :: ls) (Vi z :: st) n h) : G pc (some (Vi z) :: ls) st n h := by
  obtain ⟨p, l, e, R, s, m, args, below, meth, c, D, K, bb, off, Z, hx, hb, hml, hown, hK, hI, hR, hof, hfin, rfl⟩ := hG
  subst hq
  intro h1 h2 H locs L hL hW hS
  exact lv_iload_n hx hb hd rfl (hL.get (k := 0) (v := Vi z) rfl) (k h1 h2 H locs L hL hW hS)
theorem gx_lload0 (hG : Cx own b mL rt isI d a n0 Q G) {z : Int} (hd : decode b pc = .ok (.lload_n 0, 1)) (hq : pc + 1 = q) (k : G q (some (Vj z) :: ls) (Vj z :: st) n h) : G pc (some (Vj z) :: ls) st n h := by
  obtain ⟨p, l, e, R, s, m, args, below, meth, c, D, K, bb, off, Z, hx, hb, hml, hown, hK, hI, hR, hof, hfin, rfl⟩ := hG
  subst hq
  intro h1 h2 H locs L hL hW hS
  exact lv_lload_n hx hb hd rfl (hL.get (k := 0) (v := Vj z) rfl) (k h1 h2 H locs L hL hW hS)
theorem gx_aload0 (hG : Cx own b mL rt isI d a n0 Q G) {z : Int} (hd : decode b pc = .ok (.aload_n 0, 1)) (hq : pc + 1 = q) (k : G q (some (Vr z) :: ls) (Vr z :: st) n h) : G pc (some (Vr z) :: ls) st n h := by
  obtain ⟨p, l, e, R, s, m, args, below, meth, c, D, K, bb, off, Z, hx, hb, hml, hown, hK, hI, hR, hof, hfin, rfl⟩ := hG
  subst hq
  intro h1 h2 H locs L hL hW hS
  obtain ⟨x, hxr⟩ := rl_ref bb off z
  have hg := hL.get (k := 0) (v := Vr z) rfl
  rw [hxr] at hg
  have kk := k h1 h2 H locs L hL hW hS
  rw [List.map_cons, hxr] at kk
  exact lv_aload_n hx hb hd rfl hg kk
theorem gx_istore0 (hG : Cx own b mL rt isI d a n0 Q G) {y : Option Value} {z : Int} (hd : decode b pc = .ok (.istore_n 0, 1)) (hq : pc + 1 = q) (k : G q (some (Vi z) :: ls) st n h) : G pc (y :: ls) (Vi z :: st) n h := by
  obtain ⟨p, l, e, R, s, m, args, below, meth, c, D, K, bb, off, Z, hx, hb, hml, hown, hK, hI, hR, hof, hfin, rfl⟩ := hG
  subst hq
  intro h1 h2 H locs L hL hW hS
  refine lv_istore_n hx hb hd rfl hL.1 (by have := hL.2; simp at this; omega) rfl (fun L' hL' => ?_)
  exact k h1 h2 H locs L' (hL.set1 rl_cat (i := 0) (v := Vi z) rfl (by simp) hL') hW hS
theorem gx_astore0 (hG : Cx own b mL rt isI d a n0 Q G) {y : Option Value} {z : Int} (hd : decode b pc = .ok (.astore_n 0, 1)) (hq : pc + 1 = q) (k : G q (some (Vr z) :: ls) st n h) : G pc (y :: ls) (Vr z :: st) n h := by
  obtain ⟨p, l, e, R, s, m, args, below, meth, c, D, K, bb, off, Z, hx, hb, hml, hown, hK, hI, hR, hof, hfin, rfl⟩ := hG
  subst hq
  intro h1 h2 H locs L hL hW hS
  obtain ⟨x, hxr⟩ := rl_ref bb off z
  have e0 : (Vr z :: st).map (rl bb off) = .ref x :: st.map (rl bb off) := by rw [List.map_cons, hxr]
  rw [e0]
  refine lv_astore_n hx hb hd rfl hL.1 (by have := hL.2; simp at this; omega) rfl (fun L' hL' => ?_)
  rw [← hxr] at hL'
  exact k h1 h2 H locs L' (hL.set1 rl_cat (i := 0) (v := Vr z) rfl (by simp) hL') hW hS
theorem gx_lstore0 (hG : Cx own b mL rt isI d a n0 Q G) {y y2 : Option Value} {z : Int} (hd : decode b pc = .ok (.lstore_n 0, 1)) (hq : pc + 1 = q) (k : G q (some (Vj z) :: none :: ls) st n h) : G pc (y :: y2 :: ls) (Vj z :: st) n h := by
  obtain ⟨p, l, e, R, s, m, args, below, meth, c, D, K, bb, off, Z, hx, hb, hml, hown, hK, hI, hR, hof, hfin, rfl⟩ := hG
  subst hq
  intro h1 h2 H locs L hL hW hS
  refine lv_lstore_n hx hb hd rfl hL.1 (by have := hL.2; simp at this; omega) rfl (fun L' hL' => ?_)
  exact k h1 h2 H locs L' (hL.set2 rl_cat (i := 0) (v := Vj z) rfl (by simp) hL') hW hS
theorem gx_iinc0 (hG : Cx own b mL rt isI d a n0 Q G) {z cc : Int} (hd : decode b pc = .ok (.iinc 0 cc, 3)) (hq : pc + 3 = q) (k : G q (some (Vi (z + cc)) :: ls) st n h) : G pc (some (Vi z) :: ls) st n h := by
  obtain ⟨p, l, e, R, s, m, args, below, meth, c, D, K, bb, off, Z, hx, hb, hml, hown, hK, hI, hR, hof, hfin, rfl⟩ := hG
  subst hq
  intro h1 h2 H locs L hL hW hS
  obtain ⟨j, hj⟩ := List.getElem?_of_mem (asc_in (f := rl bb off) _ 0 0 (show (some (Vi z) :: ls : List (Option Value))[0]? = some (some (Vi z)) from rfl))
  rw [Nat.zero_add] at hj
  refine lv_iinc hx hb hd hL.1 hj rfl (by have := hL.2; simp at this; omega) rfl (fun L' hL' => ?_)
  rw [← Int32.ofInt_add] at hL'
  exact k h1 h2 H locs L' (hL.set1 rl_cat (i := 0) (v := Vi (z + cc)) rfl (by simp) hL') hW hS
theorem gx_iload1 (hG : Cx own b mL rt isI d a n0 Q G) {x0 : Option Value} {z : Int} (hd : decode b pc = .ok (.iload_n 1, 1)) (hq : pc + 1 = q) (k : G q (x0 :: some (Vi z) :: ls) (Vi z :: st) n h) : G pc (x0 :: some (Vi z) :: ls) st n h := by
  obtain ⟨p, l, e, R, s, m, args, below, meth, c, D, K, bb, off, Z, hx, hb, hml, hown, hK, hI, hR, hof, hfin, rfl⟩ := hG
  subst hq
  intro h1 h2 H locs L hL hW hS
  exact lv_iload_n hx hb hd rfl (hL.get (k := 1) (v := Vi z) rfl) (k h1 h2 H locs L hL hW hS)
theorem gx_lload1 (hG : Cx own b mL rt isI d a n0 Q G) {x0 : Option Value} {z : Int} (hd : decode b pc = .ok (.lload_n 1, 1)) (hq : pc + 1 = q) (k : G q (x0 :: some (Vj z) :: ls) (Vj z :: st) n h) : G pc (x0 :: some (Vj z) :: ls) st n h := by
  obtain ⟨p, l, e, R, s, m, args, below, meth, c, D, K, bb, off, Z, hx, hb, hml, hown, hK, hI, hR, hof, hfin, rfl⟩ := hG
  subst hq
  intro h1 h2 H locs L hL hW hS
  exact lv_lload_n hx hb hd rfl (hL.get (k := 1) (v := Vj z) rfl) (k h1 h2 H locs L hL hW hS)
theorem gx_aload1 (hG : Cx own b mL rt isI d a n0 Q G) {x0 : Option Value} {z : Int} (hd : decode b pc = .ok (.aload_n 1, 1)) (hq : pc + 1 = q) (k : G q (x0 :: some (Vr z) :: ls) (Vr z :: st) n h) : G pc (x0 :: some (Vr z) :: ls) st n h := by
  obtain ⟨p, l, e, R, s, m, args, below, meth, c, D, K, bb, off, Z, hx, hb, hml, hown, hK, hI, hR, hof, hfin, rfl⟩ := hG
  subst hq
  intro h1 h2 H locs L hL hW hS
  obtain ⟨x, hxr⟩ := rl_ref bb off z
  have hg := hL.get (k := 1) (v := Vr z) rfl
  rw [hxr] at hg
  have kk := k h1 h2 H locs L hL hW hS
  rw [List.map_cons, hxr] at kk
  exact lv_aload_n hx hb hd rfl hg kk
theorem gx_istore1 (hG : Cx own b mL rt isI d a n0 Q G) {x0 : Option Value} {y : Option Value} {z : Int} (hd : decode b pc = .ok (.istore_n 1, 1)) (hq : pc + 1 = q) (hp : one1 [x0] 0 = true) (k : G q (x0 :: some (Vi z) :: ls) st n h) : G pc (x0 :: y :: ls) (Vi z :: st) n h := by
  obtain ⟨p, l, e, R, s, m, args, below, meth, c, D, K, bb, off, Z, hx, hb, hml, hown, hK, hI, hR, hof, hfin, rfl⟩ := hG
  subst hq
  intro h1 h2 H locs L hL hW hS
  refine lv_istore_n hx hb hd rfl hL.1 (by have := hL.2; simp at this; omega) rfl (fun L' hL' => ?_)
  exact k h1 h2 H locs L' (hL.set1 rl_cat (i := 1) (v := Vi z) hp (by simp) hL') hW hS
theorem gx_astore1 (hG : Cx own b mL rt isI d a n0 Q G) {x0 : Option Value} {y : Option Value} {z : Int} (hd : decode b pc = .ok (.astore_n 1, 1)) (hq : pc + 1 = q) (hp : one1 [x0] 0 = true) (k : G q (x0 :: some (Vr z) :: ls) st n h) : G pc (x0 :: y :: ls) (Vr z :: st) n h := by
  obtain ⟨p, l, e, R, s, m, args, below, meth, c, D, K, bb, off, Z, hx, hb, hml, hown, hK, hI, hR, hof, hfin, rfl⟩ := hG
  subst hq
  intro h1 h2 H locs L hL hW hS
  obtain ⟨x, hxr⟩ := rl_ref bb off z
  have e0 : (Vr z :: st).map (rl bb off) = .ref x :: st.map (rl bb off) := by rw [List.map_cons, hxr]
  rw [e0]
  refine lv_astore_n hx hb hd rfl hL.1 (by have := hL.2; simp at this; omega) rfl (fun L' hL' => ?_)
  rw [← hxr] at hL'
  exact k h1 h2 H locs L' (hL.set1 rl_cat (i := 1) (v := Vr z) hp (by simp) hL') hW hS
theorem gx_lstore1 (hG : Cx own b mL rt isI d a n0 Q G) {x0 : Option Value} {y y2 : Option Value} {z : Int} (hd : decode b pc = .ok (.lstore_n 1, 1)) (hq : pc + 1 = q) (hp : one1 [x0] 0 = true) (k : G q (x0 :: some (Vj z) :: none :: ls) st n h) : G pc (x0 :: y :: y2 :: ls) (Vj z :: st) n h := by
  obtain ⟨p, l, e, R, s, m, args, below, meth, c, D, K, bb, off, Z, hx, hb, hml, hown, hK, hI, hR, hof, hfin, rfl⟩ := hG
  subst hq
  intro h1 h2 H locs L hL hW hS
  refine lv_lstore_n hx hb hd rfl hL.1 (by have := hL.2; simp at this; omega) rfl (fun L' hL' => ?_)
  exact k h1 h2 H locs L' (hL.set2 rl_cat (i := 1) (v := Vj z) hp (by simp) hL') hW hS
theorem gx_iinc1 (hG : Cx own b mL rt isI d a n0 Q G) {x0 : Option Value} {z cc : Int} (hd : decode b pc = .ok (.iinc 1 cc, 3)) (hq : pc + 3 = q) (hp : one1 [x0] 0 = true) (k : G q (x0 :: some (Vi (z + cc)) :: ls) st n h) : G pc (x0 :: some (Vi z) :: ls) st n h := by
  obtain ⟨p, l, e, R, s, m, args, below, meth, c, D, K, bb, off, Z, hx, hb, hml, hown, hK, hI, hR, hof, hfin, rfl⟩ := hG
  subst hq
  intro h1 h2 H locs L hL hW hS
  obtain ⟨j, hj⟩ := List.getElem?_of_mem (asc_in (f := rl bb off) _ 0 1 (show (x0 :: some (Vi z) :: ls : List (Option Value))[1]? = some (some (Vi z)) from rfl))
  rw [Nat.zero_add] at hj
  refine lv_iinc hx hb hd hL.1 hj rfl (by have := hL.2; simp at this; omega) rfl (fun L' hL' => ?_)
  rw [← Int32.ofInt_add] at hL'
  exact k h1 h2 H locs L' (hL.set1 rl_cat (i := 1) (v := Vi (z + cc)) hp (by simp) hL') hW hS
theorem gx_iload2 (hG : Cx own b mL rt isI d a n0 Q G) {x0 x1 : Option Value} {z : Int} (hd : decode b pc = .ok (.iload_n 2, 1)) (hq : pc + 1 = q) (k : G q (x0 :: x1 :: some (Vi z) :: ls) (Vi z :: st) n h) : G pc (x0 :: x1 :: some (Vi z) :: ls) st n h := by
  obtain ⟨p, l, e, R, s, m, args, below, meth, c, D, K, bb, off, Z, hx, hb, hml, hown, hK, hI, hR, hof, hfin, rfl⟩ := hG
  subst hq
  intro h1 h2 H locs L hL hW hS
  exact lv_iload_n hx hb hd rfl (hL.get (k := 2) (v := Vi z) rfl) (k h1 h2 H locs L hL hW hS)
theorem gx_lload2 (hG : Cx own b mL rt isI d a n0 Q G) {x0 x1 : Option Value} {z : Int} (hd : decode b pc = .ok (.lload_n 2, 1)) (hq : pc + 1 = q) (k : G q (x0 :: x1 :: some (Vj z) :: ls) (Vj z :: st) n h) : G pc (x0 :: x1 :: some (Vj z) :: ls) st n h := by
  obtain ⟨p, l, e, R, s, m, args, below, meth, c, D, K, bb, off, Z, hx, hb, hml, hown, hK, hI, hR, hof, hfin, rfl⟩ := hG
  subst hq
  intro h1 h2 H locs L hL hW hS
  exact lv_lload_n hx hb hd rfl (hL.get (k := 2) (v := Vj z) rfl) (k h1 h2 H locs L hL hW hS)
theorem gx_aload2 (hG : Cx own b mL rt isI d a n0 Q G) {x0 x1 : Option Value} {z : Int} (hd : decode b pc = .ok (.aload_n 2, 1)) (hq : pc + 1 = q) (k : G q (x0 :: x1 :: some (Vr z) :: ls) (Vr z :: st) n h) : G pc (x0 :: x1 :: some (Vr z) :: ls) st n h := by
  obtain ⟨p, l, e, R, s, m, args, below, meth, c, D, K, bb, off, Z, hx, hb, hml, hown, hK, hI, hR, hof, hfin, rfl⟩ := hG
  subst hq
  intro h1 h2 H locs L hL hW hS
  obtain ⟨x, hxr⟩ := rl_ref bb off z
  have hg := hL.get (k := 2) (v := Vr z) rfl
  rw [hxr] at hg
  have kk := k h1 h2 H locs L hL hW hS
  rw [List.map_cons, hxr] at kk
  exact lv_aload_n hx hb hd rfl hg kk
theorem gx_istore2 (hG : Cx own b mL rt isI d a n0 Q G) {x0 x1 : Option Value} {y : Option Value} {z : Int} (hd : decode b pc = .ok (.istore_n 2, 1)) (hq : pc + 1 = q) (hp : one1 [x1] 0 = true) (k : G q (x0 :: x1 :: some (Vi z) :: ls) st n h) : G pc (x0 :: x1 :: y :: ls) (Vi z :: st) n h := by
  obtain ⟨p, l, e, R, s, m, args, below, meth, c, D, K, bb, off, Z, hx, hb, hml, hown, hK, hI, hR, hof, hfin, rfl⟩ := hG
  subst hq
  intro h1 h2 H locs L hL hW hS
  refine lv_istore_n hx hb hd rfl hL.1 (by have := hL.2; simp at this; omega) rfl (fun L' hL' => ?_)
  exact k h1 h2 H locs L' (hL.set1 rl_cat (i := 2) (v := Vi z) hp (by simp) hL') hW hS
theorem gx_astore2 (hG : Cx own b mL rt isI d a n0 Q G) {x0 x1 : Option Value} {y : Option Value} {z : Int} (hd : decode b pc = .ok (.astore_n 2, 1)) (hq : pc + 1 = q) (hp : one1 [x1] 0 = true) (k : G q (x0 :: x1 :: some (Vr z) :: ls) st n h) : G pc (x0 :: x1 :: y :: ls) (Vr z :: st) n h := by
  obtain ⟨p, l, e, R, s, m, args, below, meth, c, D, K, bb, off, Z, hx, hb, hml, hown, hK, hI, hR, hof, hfin, rfl⟩ := hG
  subst hq
  intro h1 h2 H locs L hL hW hS
  obtain ⟨x, hxr⟩ := rl_ref bb off z
  have e0 : (Vr z :: st).map (rl bb off) = .ref x :: st.map (rl bb off) := by rw [List.map_cons, hxr]
  rw [e0]
  refine lv_astore_n hx hb hd rfl hL.1 (by have := hL.2; simp at this; omega) rfl (fun L' hL' => ?_)
  rw [← hxr] at hL'
  exact k h1 h2 H locs L' (hL.set1 rl_cat (i := 2) (v := Vr z) hp (by simp) hL') hW hS
theorem gx_lstore2 (hG : Cx own b mL rt isI d a n0 Q G) {x0 x1 : Option Value} {y y2 : Option Value} {z : Int} (hd : decode b pc = .ok (.lstore_n 2, 1)) (hq : pc + 1 = q) (hp : one1 [x1] 0 = true) (k : G q (x0 :: x1 :: some (Vj z) :: none :: ls) st n h) : G pc (x0 :: x1 :: y :: y2 :: ls) (Vj z :: st) n h := by
  obtain ⟨p, l, e, R, s, m, args, below, meth, c, D, K, bb, off, Z, hx, hb, hml, hown, hK, hI, hR, hof, hfin, rfl⟩ := hG
  subst hq
  intro h1 h2 H locs L hL hW hS
  refine lv_lstore_n hx hb hd rfl hL.1 (by have := hL.2; simp at this; omega) rfl (fun L' hL' => ?_)
  exact k h1 h2 H locs L' (hL.set2 rl_cat (i := 2) (v := Vj z) hp (by simp) hL') hW hS
theorem gx_iinc2 (hG : Cx own b mL rt isI d a n0 Q G) {x0 x1 : Option Value} {z cc : Int} (hd : decode b pc = .ok (.iinc 2 cc, 3)) (hq : pc + 3 = q) (hp : one1 [x1] 0 = true) (k : G q (x0 :: x1 :: some (Vi (z + cc)) :: ls) st n h) : G pc (x0 :: x1 :: some (Vi z) :: ls) st n h := by
  obtain ⟨p, l, e, R, s, m, args, below, meth, c, D, K, bb, off, Z, hx, hb, hml, hown, hK, hI, hR, hof, hfin, rfl⟩ := hG
  subst hq
  intro h1 h2 H locs L hL hW hS
  obtain ⟨j, hj⟩ := List.getElem?_of_mem (asc_in (f := rl bb off) _ 0 2 (show (x0 :: x1 :: some (Vi z) :: ls : List (Option Value))[2]? = some (some (Vi z)) from rfl))
  rw [Nat.zero_add] at hj
  refine lv_iinc hx hb hd hL.1 hj rfl (by have := hL.2; simp at this; omega) rfl (fun L' hL' => ?_)
  rw [← Int32.ofInt_add] at hL'
  exact k h1 h2 H locs L' (hL.set1 rl_cat (i := 2) (v := Vi (z + cc)) hp (by simp) hL') hW hS
theorem gx_iload3 (hG : Cx own b mL rt isI d a n0 Q G) {x0 x1 x2 : Option Value} {z : Int} (hd : decode b pc = .ok (.iload_n 3, 1)) (hq : pc + 1 = q) (k : G q (x0 :: x1 :: x2 :: some (Vi z) :: ls) (Vi z :: st) n h) : G pc (x0 :: x1 :: x2 :: some (Vi z) :: ls) st n h := by
  obtain ⟨p, l, e, R, s, m, args, below, meth, c, D, K, bb, off, Z, hx, hb, hml, hown, hK, hI, hR, hof, hfin, rfl⟩ := hG
  subst hq
  intro h1 h2 H locs L hL hW hS
  exact lv_iload_n hx hb hd rfl (hL.get (k := 3) (v := Vi z) rfl) (k h1 h2 H locs L hL hW hS)
theorem gx_lload3 (hG : Cx own b mL rt isI d a n0 Q G) {x0 x1 x2 : Option Value} {z : Int} (hd : decode b pc = .ok (.lload_n 3, 1)) (hq : pc + 1 = q) (k : G q (x0 :: x1 :: x2 :: some (Vj z) :: ls) (Vj z :: st) n h) : G pc (x0 :: x1 :: x2 :: some (Vj z) :: ls) st n h := by
  obtain ⟨p, l, e, R, s, m, args, below, meth, c, D, K, bb, off, Z, hx, hb, hml, hown, hK, hI, hR, hof, hfin, rfl⟩ := hG
  subst hq
  intro h1 h2 H locs L hL hW hS
  exact lv_lload_n hx hb hd rfl (hL.get (k := 3) (v := Vj z) rfl) (k h1 h2 H locs L hL hW hS)
theorem gx_aload3 (hG : Cx own b mL rt isI d a n0 Q G) {x0 x1 x2 : Option Value} {z : Int} (hd : decode b pc = .ok (.aload_n 3, 1)) (hq : pc + 1 = q) (k : G q (x0 :: x1 :: x2 :: some (Vr z) :: ls) (Vr z :: st) n h) : G pc (x0 :: x1 :: x2 :: some (Vr z) :: ls) st n h := by
  obtain ⟨p, l, e, R, s, m, args, below, meth, c, D, K, bb, off, Z, hx, hb, hml, hown, hK, hI, hR, hof, hfin, rfl⟩ := hG
  subst hq
  intro h1 h2 H locs L hL hW hS
  obtain ⟨x, hxr⟩ := rl_ref bb off z
  have hg := hL.get (k := 3) (v := Vr z) rfl
  rw [hxr] at hg
  have kk := k h1 h2 H locs L hL hW hS
  rw [List.map_cons, hxr] at kk
  exact lv_aload_n hx hb hd rfl hg kk
theorem gx_istore3 (hG : Cx own b mL rt isI d a n0 Q G) {x0 x1 x2 : Option Value} {y : Option Value} {z : Int} (hd : decode b pc = .ok (.istore_n 3, 1)) (hq : pc + 1 = q) (hp : one1 [x2] 0 = true) (k : G q (x0 :: x1 :: x2 :: some (Vi z) :: ls) st n h) : G pc (x0 :: x1 :: x2 :: y :: ls) (Vi z :: st) n h := by
  obtain ⟨p, l, e, R, s, m, args, below, meth, c, D, K, bb, off, Z, hx, hb, hml, hown, hK, hI, hR, hof, hfin, rfl⟩ := hG
  subst hq
  intro h1 h2 H locs L hL hW hS
  refine lv_istore_n hx hb hd rfl hL.1 (by have := hL.2; simp at this; omega) rfl (fun L' hL' => ?_)
  exact k h1 h2 H locs L' (hL.set1 rl_cat (i := 3) (v := Vi z) hp (by simp) hL') hW hS
theorem gx_astore3 (hG : Cx own b mL rt isI d a n0 Q G) {x0 x1 x2 : Option Value} {y : Option Value} {z : Int} (hd : decode b pc = .ok (.astore_n 3, 1)) (hq : pc + 1 = q) (hp : one1 [x2] 0 = true) (k : G q (x0 :: x1 :: x2 :: some (Vr z) :: ls) st n h) : G pc (x0 :: x1 :: x2 :: y :: ls) (Vr z :: st) n h := by
  obtain ⟨p, l, e, R, s, m, args, below, meth, c, D, K, bb, off, Z, hx, hb, hml, hown, hK, hI, hR, hof, hfin, rfl⟩ := hG
  subst hq
  intro h1 h2 H locs L hL hW hS
  obtain ⟨x, hxr⟩ := rl_ref bb off z
  have e0 : (Vr z :: st).map (rl bb off) = .ref x :: st.map (rl bb off) := by rw [List.map_cons, hxr]
  rw [e0]
  refine lv_astore_n hx hb hd rfl hL.1 (by have := hL.2; simp at this; omega) rfl (fun L' hL' => ?_)
  rw [← hxr] at hL'
  exact k h1 h2 H locs L' (hL.set1 rl_cat (i := 3) (v := Vr z) hp (by simp) hL') hW hS
theorem gx_lstore3 (hG : Cx own b mL rt isI d a n0 Q G) {x0 x1 x2 : Option Value} {y y2 : Option Value} {z : Int} (hd : decode b pc = .ok (.lstore_n 3, 1)) (hq : pc + 1 = q) (hp : one1 [x2] 0 = true) (k : G q (x0 :: x1 :: x2 :: some (Vj z) :: none :: ls) st n h) : G pc (x0 :: x1 :: x2 :: y :: y2 :: ls) (Vj z :: st) n h := by
  obtain ⟨p, l, e, R, s, m, args, below, meth, c, D, K, bb, off, Z, hx, hb, hml, hown, hK, hI, hR, hof, hfin, rfl⟩ := hG
  subst hq
  intro h1 h2 H locs L hL hW hS
  refine lv_lstore_n hx hb hd rfl hL.1 (by have := hL.2; simp at this; omega) rfl (fun L' hL' => ?_)
  exact k h1 h2 H locs L' (hL.set2 rl_cat (i := 3) (v := Vj z) hp (by simp) hL') hW hS
theorem gx_iinc3 (hG : Cx own b mL rt isI d a n0 Q G) {x0 x1 x2 : Option Value} {z cc : Int} (hd : decode b pc = .ok (.iinc 3 cc, 3)) (hq : pc + 3 = q) (hp : one1 [x2] 0 = true) (k : G q (x0 :: x1 :: x2 :: some (Vi (z + cc)) :: ls) st n h) : G pc (x0 :: x1 :: x2 :: some (Vi z) :: ls) st n h := by
  obtain ⟨p, l, e, R, s, m, args, below, meth, c, D, K, bb, off, Z, hx, hb, hml, hown, hK, hI, hR, hof, hfin, rfl⟩ := hG
  subst hq
  intro h1 h2 H locs L hL hW hS
  obtain ⟨j, hj⟩ := List.getElem?_of_mem (asc_in (f := rl bb off) _ 0 3 (show (x0 :: x1 :: x2 :: some (Vi z) :: ls : List (Option Value))[3]? = some (some (Vi z)) from rfl))
  rw [Nat.zero_add] at hj
  refine lv_iinc hx hb hd hL.1 hj rfl (by have := hL.2; simp at this; omega) rfl (fun L' hL' => ?_)
  rw [← Int32.ofInt_add] at hL'
  exact k h1 h2 H locs L' (hL.set1 rl_cat (i := 3) (v := Vi (z + cc)) hp (by simp) hL') hW hS
theorem gx_iload4 (hG : Cx own b mL rt isI d a n0 Q G) {x0 x1 x2 x3 : Option Value} {z : Int} (hd : decode b pc = .ok (.iload 4, 2)) (hq : pc + 2 = q) (k : G q (x0 :: x1 :: x2 :: x3 :: some (Vi z) :: ls) (Vi z :: st) n h) : G pc (x0 :: x1 :: x2 :: x3 :: some (Vi z) :: ls) st n h := by
  obtain ⟨p, l, e, R, s, m, args, below, meth, c, D, K, bb, off, Z, hx, hb, hml, hown, hK, hI, hR, hof, hfin, rfl⟩ := hG
  subst hq
  intro h1 h2 H locs L hL hW hS
  exact lv_iload hx hb hd (hL.get (k := 4) (v := Vi z) rfl) (k h1 h2 H locs L hL hW hS)
theorem gx_lload4 (hG : Cx own b mL rt isI d a n0 Q G) {x0 x1 x2 x3 : Option Value} {z : Int} (hd : decode b pc = .ok (.lload 4, 2)) (hq : pc + 2 = q) (k : G q (x0 :: x1 :: x2 :: x3 :: some (Vj z) :: ls) (Vj z :: st) n h) : G pc (x0 :: x1 :: x2 :: x3 :: some (Vj z) :: ls) st n h := by
  obtain ⟨p, l, e, R, s, m, args, below, meth, c, D, K, bb, off, Z, hx, hb, hml, hown, hK, hI, hR, hof, hfin, rfl⟩ := hG
  subst hq
  intro h1 h2 H locs L hL hW hS
  exact lv_lload hx hb hd (hL.get (k := 4) (v := Vj z) rfl) (k h1 h2 H locs L hL hW hS)
theorem gx_aload4 (hG : Cx own b mL rt isI d a n0 Q G) {x0 x1 x2 x3 : Option Value} {z : Int} (hd : decode b pc = .ok (.aload 4, 2)) (hq : pc + 2 = q) (k : G q (x0 :: x1 :: x2 :: x3 :: some (Vr z) :: ls) (Vr z :: st) n h) : G pc (x0 :: x1 :: x2 :: x3 :: some (Vr z) :: ls) st n h := by
  obtain ⟨p, l, e, R, s, m, args, below, meth, c, D, K, bb, off, Z, hx, hb, hml, hown, hK, hI, hR, hof, hfin, rfl⟩ := hG
  subst hq
  intro h1 h2 H locs L hL hW hS
  obtain ⟨x, hxr⟩ := rl_ref bb off z
  have hg := hL.get (k := 4) (v := Vr z) rfl
  rw [hxr] at hg
  have kk := k h1 h2 H locs L hL hW hS
  rw [List.map_cons, hxr] at kk
  exact lv_aload hx hb hd hg kk
theorem gx_istore4 (hG : Cx own b mL rt isI d a n0 Q G) {x0 x1 x2 x3 : Option Value} {y : Option Value} {z : Int} (hd : decode b pc = .ok (.istore 4, 2)) (hq : pc + 2 = q) (hp : one1 [x3] 0 = true) (k : G q (x0 :: x1 :: x2 :: x3 :: some (Vi z) :: ls) st n h) : G pc (x0 :: x1 :: x2 :: x3 :: y :: ls) (Vi z :: st) n h := by
  obtain ⟨p, l, e, R, s, m, args, below, meth, c, D, K, bb, off, Z, hx, hb, hml, hown, hK, hI, hR, hof, hfin, rfl⟩ := hG
  subst hq
  intro h1 h2 H locs L hL hW hS
  refine lv_istore hx hb hd hL.1 (by have := hL.2; simp at this; omega) rfl (fun L' hL' => ?_)
  exact k h1 h2 H locs L' (hL.set1 rl_cat (i := 4) (v := Vi z) hp (by simp) hL') hW hS
theorem gx_astore4 (hG : Cx own b mL rt isI d a n0 Q G) {x0 x1 x2 x3 : Option Value} {y : Option Value} {z : Int} (hd : decode b pc = .ok (.astore 4, 2)) (hq : pc + 2 = q) (hp : one1 [x3] 0 = true) (k : G q (x0 :: x1 :: x2 :: x3 :: some (Vr z) :: ls) st n h) : G pc (x0 :: x1 :: x2 :: x3 :: y :: ls) (Vr z :: st) n h := by
  obtain ⟨p, l, e, R, s, m, args, below, meth, c, D, K, bb, off, Z, hx, hb, hml, hown, hK, hI, hR, hof, hfin, rfl⟩ := hG
  subst hq
  intro h1 h2 H locs L hL hW hS
  obtain ⟨x, hxr⟩ := rl_ref bb off z
  have e0 : (Vr z :: st).map (rl bb off) = .ref x :: st.map (rl bb off) := by rw [List.map_cons, hxr]
  rw [e0]
  refine lv_astore hx hb hd hL.1 (by have := hL.2; simp at this; omega) rfl (fun L' hL' => ?_)
  rw [← hxr] at hL'
  exact k h1 h2 H locs L' (hL.set1 rl_cat (i := 4) (v := Vr z) hp (by simp) hL') hW hS
theorem gx_lstore4 (hG : Cx own b mL rt isI d a n0 Q G) {x0 x1 x2 x3 : Option Value} {y y2 : Option Value} {z : Int} (hd : decode b pc = .ok (.lstore 4, 2)) (hq : pc + 2 = q) (hp : one1 [x3] 0 = true) (k : G q (x0 :: x1 :: x2 :: x3 :: some (Vj z) :: none :: ls) st n h) : G pc (x0 :: x1 :: x2 :: x3 :: y :: y2 :: ls) (Vj z :: st) n h := by
  obtain ⟨p, l, e, R, s, m, args, below, meth, c, D, K, bb, off, Z, hx, hb, hml, hown, hK, hI, hR, hof, hfin, rfl⟩ := hG
  subst hq
  intro h1 h2 H locs L hL hW hS
  refine lv_lstore hx hb hd hL.1 (by have := hL.2; simp at this; omega) rfl (fun L' hL' => ?_)
  exact k h1 h2 H locs L' (hL.set2 rl_cat (i := 4) (v := Vj z) hp (by simp) hL') hW hS
theorem gx_iinc4 (hG : Cx own b mL rt isI d a n0 Q G) {x0 x1 x2 x3 : Option Value} {z cc : Int} (hd : decode b pc = .ok (.iinc 4 cc, 3)) (hq : pc + 3 = q) (hp : one1 [x3] 0 = true) (k : G q (x0 :: x1 :: x2 :: x3 :: some (Vi (z + cc)) :: ls) st n h) : G pc (x0 :: x1 :: x2 :: x3 :: some (Vi z) :: ls) st n h := by
  obtain ⟨p, l, e, R, s, m, args, below, meth, c, D, K, bb, off, Z, hx, hb, hml, hown, hK, hI, hR, hof, hfin, rfl⟩ := hG
  subst hq
  intro h1 h2 H locs L hL hW hS
  obtain ⟨j, hj⟩ := List.getElem?_of_mem (asc_in (f := rl bb off) _ 0 4 (show (x0 :: x1 :: x2 :: x3 :: some (Vi z) :: ls : List (Option Value))[4]? = some (some (Vi z)) from rfl))
  rw [Nat.zero_add] at hj
  refine lv_iinc hx hb hd hL.1 hj rfl (by have := hL.2; simp at this; omega) rfl (fun L' hL' => ?_)
  rw [← Int32.ofInt_add] at hL'
  exact k h1 h2 H locs L' (hL.set1 rl_cat (i := 4) (v := Vi (z + cc)) hp (by simp) hL') hW hS
theorem gx_iload5 (hG : Cx own b mL rt isI d a n0 Q G) {x0 x1 x2 x3 x4 : Option Value} {z : Int} (hd : decode b pc = .ok (.iload 5, 2)) (hq : pc + 2 = q) (k : G q (x0 :: x1 :: x2 :: x3 :: x4 :: some (Vi z) :: ls) (Vi z :: st) n h) : G pc (x0 :: x1 :: x2 :: x3 :: x4 :: some (Vi z) :: ls) st n h := by
  obtain ⟨p, l, e, R, s, m, args, below, meth, c, D, K, bb, off, Z, hx, hb, hml, hown, hK, hI, hR, hof, hfin, rfl⟩ := hG
  subst hq
  intro h1 h2 H locs L hL hW hS
  exact lv_iload hx hb hd (hL.get (k := 5) (v := Vi z) rfl) (k h1 h2 H locs L hL hW hS)
theorem gx_lload5 (hG : Cx own b mL rt isI d a n0 Q G) {x0 x1 x2 x3 x4 : Option Value} {z : Int} (hd : decode b pc = .ok (.lload 5, 2)) (hq : pc + 2 = q) (k : G q (x0 :: x1 :: x2 :: x3 :: x4 :: some (Vj z) :: ls) (Vj z :: st) n h) : G pc (x0 :: x1 :: x2 :: x3 :: x4 :: some (Vj z) :: ls) st n h := by
  obtain ⟨p, l, e, R, s, m, args, below, meth, c, D, K, bb, off, Z, hx, hb, hml, hown, hK, hI, hR, hof, hfin, rfl⟩ := hG
  subst hq
  intro h1 h2 H locs L hL hW hS
  exact lv_lload hx hb hd (hL.get (k := 5) (v := Vj z) rfl) (k h1 h2 H locs L hL hW hS)
theorem gx_aload5 (hG : Cx own b mL rt isI d a n0 Q G) {x0 x1 x2 x3 x4 : Option Value} {z : Int} (hd : decode b pc = .ok (.aload 5, 2)) (hq : pc + 2 = q) (k : G q (x0 :: x1 :: x2 :: x3 :: x4 :: some (Vr z) :: ls) (Vr z :: st) n h) : G pc (x0 :: x1 :: x2 :: x3 :: x4 :: some (Vr z) :: ls) st n h := by
  obtain ⟨p, l, e, R, s, m, args, below, meth, c, D, K, bb, off, Z, hx, hb, hml, hown, hK, hI, hR, hof, hfin, rfl⟩ := hG
  subst hq
  intro h1 h2 H locs L hL hW hS
  obtain ⟨x, hxr⟩ := rl_ref bb off z
  have hg := hL.get (k := 5) (v := Vr z) rfl
  rw [hxr] at hg
  have kk := k h1 h2 H locs L hL hW hS
  rw [List.map_cons, hxr] at kk
  exact lv_aload hx hb hd hg kk
theorem gx_istore5 (hG : Cx own b mL rt isI d a n0 Q G) {x0 x1 x2 x3 x4 : Option Value} {y : Option Value} {z : Int} (hd : decode b pc = .ok (.istore 5, 2)) (hq : pc + 2 = q) (hp : one1 [x4] 0 = true) (k : G q (x0 :: x1 :: x2 :: x3 :: x4 :: some (Vi z) :: ls) st n h) : G pc (x0 :: x1 :: x2 :: x3 :: x4 :: y :: ls) (Vi z :: st) n h := by
  obtain ⟨p, l, e, R, s, m, args, below, meth, c, D, K, bb, off, Z, hx, hb, hml, hown, hK, hI, hR, hof, hfin, rfl⟩ := hG
  subst hq
  intro h1 h2 H locs L hL hW hS
  refine lv_istore hx hb hd hL.1 (by have := hL.2; simp at this; omega) rfl (fun L' hL' => ?_)
  exact k h1 h2 H locs L' (hL.set1 rl_cat (i := 5) (v := Vi z) hp (by simp) hL') hW hS
theorem gx_astore5 (hG : Cx own b mL rt isI d a n0 Q G) {x0 x1 x2 x3 x4 : Option Value} {y : Option Value} {z : Int} (hd : decode b pc = .ok (.astore 5, 2)) (hq : pc + 2 = q) (hp : one1 [x4] 0 = true) (k : G q (x0 :: x1 :: x2 :: x3 :: x4 :: some (Vr z) :: ls) st n h) : G pc (x0 :: x1 :: x2 :: x3 :: x4 :: y :: ls) (Vr z :: st) n h := by
  obtain ⟨p, l, e, R, s, m, args, below, meth, c, D, K, bb, off, Z, hx, hb, hml, hown, hK, hI, hR, hof, hfin, rfl⟩ := hG
  subst hq
  intro h1 h2 H locs L hL hW hS
  obtain ⟨x, hxr⟩ := rl_ref bb off z
  have e0 : (Vr z :: st).map (rl bb off) = .ref x :: st.map (rl bb off) := by rw [List.map_cons, hxr]
  rw [e0]
  refine lv_astore hx hb hd hL.1 (by have := hL.2; simp at this; omega) rfl (fun L' hL' => ?_)
  rw [← hxr] at hL'
  exact k h1 h2 H locs L' (hL.set1 rl_cat (i := 5) (v := Vr z) hp (by simp) hL') hW hS
theorem gx_lstore5 (hG : Cx own b mL rt isI d a n0 Q G) {x0 x1 x2 x3 x4 : Option Value} {y y2 : Option Value} {z : Int} (hd : decode b pc = .ok (.lstore 5, 2)) (hq : pc + 2 = q) (hp : one1 [x4] 0 = true) (k : G q (x0 :: x1 :: x2 :: x3 :: x4 :: some (Vj z) :: none :: ls) st n h) : G pc (x0 :: x1 :: x2 :: x3 :: x4 :: y :: y2 :: ls) (Vj z :: st) n h := by
  obtain ⟨p, l, e, R, s, m, args, below, meth, c, D, K, bb, off, Z, hx, hb, hml, hown, hK, hI, hR, hof, hfin, rfl⟩ := hG
  subst hq
  intro h1 h2 H locs L hL hW hS
  refine lv_lstore hx hb hd hL.1 (by have := hL.2; simp at this; omega) rfl (fun L' hL' => ?_)
  exact k h1 h2 H locs L' (hL.set2 rl_cat (i := 5) (v := Vj z) hp (by simp) hL') hW hS
theorem gx_iinc5 (hG : Cx own b mL rt isI d a n0 Q G) {x0 x1 x2 x3 x4 : Option Value} {z cc : Int} (hd : decode b pc = .ok (.iinc 5 cc, 3)) (hq : pc + 3 = q) (hp : one1 [x4] 0 = true) (k : G q (x0 :: x1 :: x2 :: x3 :: x4 :: some (Vi (z + cc)) :: ls) st n h) : G pc (x0 :: x1 :: x2 :: x3 :: x4 :: some (Vi z) :: ls) st n h := by
  obtain ⟨p, l, e, R, s, m, args, below, meth, c, D, K, bb, off, Z, hx, hb, hml, hown, hK, hI, hR, hof, hfin, rfl⟩ := hG
  subst hq
  intro h1 h2 H locs L hL hW hS
  obtain ⟨j, hj⟩ := List.getElem?_of_mem (asc_in (f := rl bb off) _ 0 5 (show (x0 :: x1 :: x2 :: x3 :: x4 :: some (Vi z) :: ls : List (Option Value))[5]? = some (some (Vi z)) from rfl))
  rw [Nat.zero_add] at hj
  refine lv_iinc hx hb hd hL.1 hj rfl (by have := hL.2; simp at this; omega) rfl (fun L' hL' => ?_)
  rw [← Int32.ofInt_add] at hL'
  exact k h1 h2 H locs L' (hL.set1 rl_cat (i := 5) (v := Vi (z + cc)) hp (by simp) hL') hW hS
theorem gx_iload6 (hG : Cx own b mL rt isI d a n0 Q G) {x0 x1 x2 x3 x4 x5 : Option Value} {z : Int} (hd : decode b pc = .ok (.iload 6, 2)) (hq : pc + 2 = q) (k : G q (x0 :: x1 :: x2 :: x3 :: x4 :: x5 :: some (Vi z) :: ls) (Vi z :: st) n h) : G pc (x0 :: x1 :: x2 :: x3 :: x4 :: x5 :: some (Vi z) :: ls) st n h := by
  obtain ⟨p, l, e, R, s, m, args, below, meth, c, D, K, bb, off, Z, hx, hb, hml, hown, hK, hI, hR, hof, hfin, rfl⟩ := hG
  subst hq
  intro h1 h2 H locs L hL hW hS
  exact lv_iload hx hb hd (hL.get (k := 6) (v := Vi z) rfl) (k h1 h2 H locs L hL hW hS)
theorem gx_lload6 (hG : Cx own b mL rt isI d a n0 Q G) {x0 x1 x2 x3 x4 x5 : Option Value} {z : Int} (hd : decode b pc = .ok (.lload 6, 2)) (hq : pc + 2 = q) (k : G q (x0 :: x1 :: x2 :: x3 :: x4 :: x5 :: some (Vj z) :: ls) (Vj z :: st) n h) : G pc (x0 :: x1 :: x2 :: x3 :: x4 :: x5 :: some (Vj z) :: ls) st n h := by
  obtain ⟨p, l, e, R, s, m, args, below, meth, c, D, K, bb, off, Z, hx, hb, hml, hown, hK, hI, hR, hof, hfin, rfl⟩ := hG
  subst hq
  intro h1 h2 H locs L hL hW hS
  exact lv_lload hx hb hd (hL.get (k := 6) (v := Vj z) rfl) (k h1 h2 H locs L hL hW hS)
theorem gx_aload6 (hG : Cx own b mL rt isI d a n0 Q G) {x0 x1 x2 x3 x4 x5 : Option Value} {z : Int} (hd : decode b pc = .ok (.aload 6, 2)) (hq : pc + 2 = q) (k : G q (x0 :: x1 :: x2 :: x3 :: x4 :: x5 :: some (Vr z) :: ls) (Vr z :: st) n h) : G pc (x0 :: x1 :: x2 :: x3 :: x4 :: x5 :: some (Vr z) :: ls) st n h := by
  obtain ⟨p, l, e, R, s, m, args, below, meth, c, D, K, bb, off, Z, hx, hb, hml, hown, hK, hI, hR, hof, hfin, rfl⟩ := hG
  subst hq
  intro h1 h2 H locs L hL hW hS
  obtain ⟨x, hxr⟩ := rl_ref bb off z
  have hg := hL.get (k := 6) (v := Vr z) rfl
  rw [hxr] at hg
  have kk := k h1 h2 H locs L hL hW hS
  rw [List.map_cons, hxr] at kk
  exact lv_aload hx hb hd hg kk
theorem gx_istore6 (hG : Cx own b mL rt isI d a n0 Q G) {x0 x1 x2 x3 x4 x5 : Option Value} {y : Option Value} {z : Int} (hd : decode b pc = .ok (.istore 6, 2)) (hq : pc + 2 = q) (hp : one1 [x5] 0 = true) (k : G q (x0 :: x1 :: x2 :: x3 :: x4 :: x5 :: some (Vi z) :: ls) st n h) : G pc (x0 :: x1 :: x2 :: x3 :: x4 :: x5 :: y :: ls) (Vi z :: st) n h := by
  obtain ⟨p, l, e, R, s, m, args, below, meth, c, D, K, bb, off, Z, hx, hb, hml, hown, hK, hI, hR, hof, hfin, rfl⟩ := hG
  subst hq
  intro h1 h2 H locs L hL hW hS
  refine lv_istore hx hb hd hL.1 (by have := hL.2; simp at this; omega) rfl (fun L' hL' => ?_)
  exact k h1 h2 H locs L' (hL.set1 rl_cat (i := 6) (v := Vi z) hp (by simp) hL') hW hS
theorem gx_astore6 (hG : Cx own b mL rt isI d a n0 Q G) {x0 x1 x2 x3 x4 x5 : Option Value} {y : Option Value} {z : Int} (hd : decode b pc = .ok (.astore 6, 2)) (hq : pc + 2 = q) (hp : one1 [x5] 0 = true) (k : G q (x0 :: x1 :: x2 :: x3 :: x4 :: x5 :: some (Vr z) :: ls) st n h) : G pc (x0 :: x1 :: x2 :: x3 :: x4 :: x5 :: y :: ls) (Vr z :: st) n h := by
  obtain ⟨p, l, e, R, s, m, args, below, meth, c, D, K, bb, off, Z, hx, hb, hml, hown, hK, hI, hR, hof, hfin, rfl⟩ := hG
  subst hq
  intro h1 h2 H locs L hL hW hS
  obtain ⟨x, hxr⟩ := rl_ref bb off z
  have e0 : (Vr z :: st).map (rl bb off) = .ref x :: st.map (rl bb off) := by rw [List.map_cons, hxr]
  rw [e0]
  refine lv_astore hx hb hd hL.1 (by have := hL.2; simp at this; omega) rfl (fun L' hL' => ?_)
  rw [← hxr] at hL'
  exact k h1 h2 H locs L' (hL.set1 rl_cat (i := 6) (v := Vr z) hp (by simp) hL') hW hS
theorem gx_lstore6 (hG : Cx own b mL rt isI d a n0 Q G) {x0 x1 x2 x3 x4 x5 : Option Value} {y y2 : Option Value} {z : Int} (hd : decode b pc = .ok (.lstore 6, 2)) (hq : pc + 2 = q) (hp : one1 [x5] 0 = true) (k : G q (x0 :: x1 :: x2 :: x3 :: x4 :: x5 :: some (Vj z) :: none :: ls) st n h) : G pc (x0 :: x1 :: x2 :: x3 :: x4 :: x5 :: y :: y2 :: ls) (Vj z :: st) n h := by
  obtain ⟨p, l, e, R, s, m, args, below, meth, c, D, K, bb, off, Z, hx, hb, hml, hown, hK, hI, hR, hof, hfin, rfl⟩ := hG
  subst hq
  intro h1 h2 H locs L hL hW hS
  refine lv_lstore hx hb hd hL.1 (by have := hL.2; simp at this; omega) rfl (fun L' hL' => ?_)
  exact k h1 h2 H locs L' (hL.set2 rl_cat (i := 6) (v := Vj z) hp (by simp) hL') hW hS
theorem gx_iinc6 (hG : Cx own b mL rt isI d a n0 Q G) {x0 x1 x2 x3 x4 x5 : Option Value} {z cc : Int} (hd : decode b pc = .ok (.iinc 6 cc, 3)) (hq : pc + 3 = q) (hp : one1 [x5] 0 = true) (k : G q (x0 :: x1 :: x2 :: x3 :: x4 :: x5 :: some (Vi (z + cc)) :: ls) st n h) : G pc (x0 :: x1 :: x2 :: x3 :: x4 :: x5 :: some (Vi z) :: ls) st n h := by
  obtain ⟨p, l, e, R, s, m, args, below, meth, c, D, K, bb, off, Z, hx, hb, hml, hown, hK, hI, hR, hof, hfin, rfl⟩ := hG
  subst hq
  intro h1 h2 H locs L hL hW hS
  obtain ⟨j, hj⟩ := List.getElem?_of_mem (asc_in (f := rl bb off) _ 0 6 (show (x0 :: x1 :: x2 :: x3 :: x4 :: x5 :: some (Vi z) :: ls : List (Option Value))[6]? = some (some (Vi z)) from rfl))
  rw [Nat.zero_add] at hj
  refine lv_iinc hx hb hd hL.1 hj rfl (by have := hL.2; simp at this; omega) rfl (fun L' hL' => ?_)
  rw [← Int32.ofInt_add] at hL'
  exact k h1 h2 H locs L' (hL.set1 rl_cat (i := 6) (v := Vi (z + cc)) hp (by simp) hL') hW hS
theorem gx_iload7 (hG : Cx own b mL rt isI d a n0 Q G) {x0 x1 x2 x3 x4 x5 x6 : Option Value} {z : Int} (hd : decode b pc = .ok (.iload 7, 2)) (hq : pc + 2 = q) (k : G q (x0 :: x1 :: x2 :: x3 :: x4 :: x5 :: x6 :: some (Vi z) :: ls) (Vi z :: st) n h) : G pc (x0 :: x1 :: x2 :: x3 :: x4 :: x5 :: x6 :: some (Vi z) :: ls) st n h := by
  obtain ⟨p, l, e, R, s, m, args, below, meth, c, D, K, bb, off, Z, hx, hb, hml, hown, hK, hI, hR, hof, hfin, rfl⟩ := hG
  subst hq
  intro h1 h2 H locs L hL hW hS
  exact lv_iload hx hb hd (hL.get (k := 7) (v := Vi z) rfl) (k h1 h2 H locs L hL hW hS)
theorem gx_lload7 (hG : Cx own b mL rt isI d a n0 Q G) {x0 x1 x2 x3 x4 x5 x6 : Option Value} {z : Int} (hd : decode b pc = .ok (.lload 7, 2)) (hq : pc + 2 = q) (k : G q (x0 :: x1 :: x2 :: x3 :: x4 :: x5 :: x6 :: some (Vj z) :: ls) (Vj z :: st) n h) : G pc (x0 :: x1 :: x2 :: x3 :: x4 :: x5 :: x6 :: some (Vj z) :: ls) st n h := by
  obtain ⟨p, l, e, R, s, m, args, below, meth, c, D, K, bb, off, Z, hx, hb, hml, hown, hK, hI, hR, hof, hfin, rfl⟩ := hG
  subst hq
  intro h1 h2 H locs L hL hW hS
  exact lv_lload hx hb hd (hL.get (k := 7) (v := Vj z) rfl) (k h1 h2 H locs L hL hW hS)
theorem gx_aload7 (hG : Cx own b mL rt isI d a n0 Q G) {x0 x1 x2 x3 x4 x5 x6 : Option Value} {z : Int} (hd : decode b pc = .ok (.aload 7, 2)) (hq : pc + 2 = q) (k : G q (x0 :: x1 :: x2 :: x3 :: x4 :: x5 :: x6 :: some (Vr z) :: ls) (Vr z :: st) n h) : G pc (x0 :: x1 :: x2 :: x3 :: x4 :: x5 :: x6 :: some (Vr z) :: ls) st n h := by
  obtain ⟨p, l, e, R, s, m, args, below, meth, c, D, K, bb, off, Z, hx, hb, hml, hown, hK, hI, hR, hof, hfin, rfl⟩ := hG
  subst hq
  intro h1 h2 H locs L hL hW hS
  obtain ⟨x, hxr⟩ := rl_ref bb off z
  have hg := hL.get (k := 7) (v := Vr z) rfl
  rw [hxr] at hg
  have kk := k h1 h2 H locs L hL hW hS
  rw [List.map_cons, hxr] at kk
  exact lv_aload hx hb hd hg kk
theorem gx_istore7 (hG : Cx own b mL rt isI d a n0 Q G) {x0 x1 x2 x3 x4 x5 x6 : Option Value} {y : Option Value} {z : Int} (hd : decode b pc = .ok (.istore 7, 2)) (hq : pc + 2 = q) (hp : one1 [x6] 0 = true) (k : G q (x0 :: x1 :: x2 :: x3 :: x4 :: x5 :: x6 :: some (Vi z) :: ls) st n h) : G pc (x0 :: x1 :: x2 :: x3 :: x4 :: x5 :: x6 :: y :: ls) (Vi z :: st) n h := by
  obtain ⟨p, l, e, R, s, m, args, below, meth, c, D, K, bb, off, Z, hx, hb, hml, hown, hK, hI, hR, hof, hfin, rfl⟩ := hG
  subst hq
  intro h1 h2 H locs L hL hW hS
  refine lv_istore hx hb hd hL.1 (by have := hL.2; simp at this; omega) rfl (fun L' hL' => ?_)
  exact k h1 h2 H locs L' (hL.set1 rl_cat (i := 7) (v := Vi z) hp (by simp) hL') hW hS
theorem gx_astore7 (hG : Cx own b mL rt isI d a n0 Q G) {x0 x1 x2 x3 x4 x5 x6 : Option Value} {y : Option Value} {z : Int} (hd : decode b pc = .ok (.astore 7, 2)) (hq : pc + 2 = q) (hp : one1 [x6] 0 = true) (k : G q (x0 :: x1 :: x2 :: x3 :: x4 :: x5 :: x6 :: some (Vr z) :: ls) st n h) : G pc (x0 :: x1 :: x2 :: x3 :: x4 :: x5 :: x6 :: y :: ls) (Vr z :: st) n h := by
  obtain ⟨p, l, e, R, s, m, args, below, meth, c, D, K, bb, off, Z, hx, hb, hml, hown, hK, hI, hR, hof, hfin, rfl⟩ := hG
  subst hq
  intro h1 h2 H locs L hL hW hS
  obtain ⟨x, hxr⟩ := rl_ref bb off z
  have e0 : (Vr z :: st).map (rl bb off) = .ref x :: st.map (rl bb off) := by rw [List.map_cons, hxr]
  rw [e0]
  refine lv_astore hx hb hd hL.1 (by have := hL.2; simp at this; omega) rfl (fun L' hL' => ?_)
  rw [← hxr] at hL'
  exact k h1 h2 H locs L' (hL.set1 rl_cat (i := 7) (v := Vr z) hp (by simp) hL') hW hS
theorem gx_lstore7 (hG : Cx own b mL rt isI d a n0 Q G) {x0 x1 x2 x3 x4 x5 x6 : Option Value} {y y2 : Option Value} {z : Int} (hd : decode b pc = .ok (.lstore 7, 2)) (hq : pc + 2 = q) (hp : one1 [x6] 0 = true) (k : G q (x0 :: x1 :: x2 :: x3 :: x4 :: x5 :: x6 :: some (Vj z) :: none :: ls) st n h) : G pc (x0 :: x1 :: x2 :: x3 :: x4 :: x5 :: x6 :: y :: y2 :: ls) (Vj z :: st) n h := by
  obtain ⟨p, l, e, R, s, m, args, below, meth, c, D, K, bb, off, Z, hx, hb, hml, hown, hK, hI, hR, hof, hfin, rfl⟩ := hG
  subst hq
  intro h1 h2 H locs L hL hW hS
  refine lv_lstore hx hb hd hL.1 (by have := hL.2; simp at this; omega) rfl (fun L' hL' => ?_)
  exact k h1 h2 H locs L' (hL.set2 rl_cat (i := 7) (v := Vj z) hp (by simp) hL') hW hS
theorem gx_iinc7 (hG : Cx own b mL rt isI d a n0 Q G) {x0 x1 x2 x3 x4 x5 x6 : Option Value} {z cc : Int} (hd : decode b pc = .ok (.iinc 7 cc, 3)) (hq : pc + 3 = q) (hp : one1 [x6] 0 = true) (k : G q (x0 :: x1 :: x2 :: x3 :: x4 :: x5 :: x6 :: some (Vi (z + cc)) :: ls) st n h) : G pc (x0 :: x1 :: x2 :: x3 :: x4 :: x5 :: x6 :: some (Vi z) :: ls) st n h := by
  obtain ⟨p, l, e, R, s, m, args, below, meth, c, D, K, bb, off, Z, hx, hb, hml, hown, hK, hI, hR, hof, hfin, rfl⟩ := hG
  subst hq
  intro h1 h2 H locs L hL hW hS
  obtain ⟨j, hj⟩ := List.getElem?_of_mem (asc_in (f := rl bb off) _ 0 7 (show (x0 :: x1 :: x2 :: x3 :: x4 :: x5 :: x6 :: some (Vi z) :: ls : List (Option Value))[7]? = some (some (Vi z)) from rfl))
  rw [Nat.zero_add] at hj
  refine lv_iinc hx hb hd hL.1 hj rfl (by have := hL.2; simp at this; omega) rfl (fun L' hL' => ?_)
  rw [← Int32.ofInt_add] at hL'
  exact k h1 h2 H locs L' (hL.set1 rl_cat (i := 7) (v := Vi (z + cc)) hp (by simp) hL') hW hS
theorem gx_iload8 (hG : Cx own b mL rt isI d a n0 Q G) {x0 x1 x2 x3 x4 x5 x6 x7 : Option Value} {z : Int} (hd : decode b pc = .ok (.iload 8, 2)) (hq : pc + 2 = q) (k : G q (x0 :: x1 :: x2 :: x3 :: x4 :: x5 :: x6 :: x7 :: some (Vi z) :: ls) (Vi z :: st) n h) : G pc (x0 :: x1 :: x2 :: x3 :: x4 :: x5 :: x6 :: x7 :: some (Vi z) :: ls) st n h := by
  obtain ⟨p, l, e, R, s, m, args, below, meth, c, D, K, bb, off, Z, hx, hb, hml, hown, hK, hI, hR, hof, hfin, rfl⟩ := hG
  subst hq
  intro h1 h2 H locs L hL hW hS
  exact lv_iload hx hb hd (hL.get (k := 8) (v := Vi z) rfl) (k h1 h2 H locs L hL hW hS)
theorem gx_lload8 (hG : Cx own b mL rt isI d a n0 Q G) {x0 x1 x2 x3 x4 x5 x6 x7 : Option Value} {z : Int} (hd : decode b pc = .ok (.lload 8, 2)) (hq : pc + 2 = q) (k : G q (x0 :: x1 :: x2 :: x3 :: x4 :: x5 :: x6 :: x7 :: some (Vj z) :: ls) (Vj z :: st) n h) : G pc (x0 :: x1 :: x2 :: x3 :: x4 :: x5 :: x6 :: x7 :: some (Vj z) :: ls) st n h := by
  obtain ⟨p, l, e, R, s, m, args, below, meth, c, D, K, bb, off, Z, hx, hb, hml, hown, hK, hI, hR, hof, hfin, rfl⟩ := hG
  subst hq
  intro h1 h2 H locs L hL hW hS
  exact lv_lload hx hb hd (hL.get (k := 8) (v := Vj z) rfl) (k h1 h2 H locs L hL hW hS)
theorem gx_aload8 (hG : Cx own b mL rt isI d a n0 Q G) {x0 x1 x2 x3 x4 x5 x6 x7 : Option Value} {z : Int} (hd : decode b pc = .ok (.aload 8, 2)) (hq : pc + 2 = q) (k : G q (x0 :: x1 :: x2 :: x3 :: x4 :: x5 :: x6 :: x7 :: some (Vr z) :: ls) (Vr z :: st) n h) : G pc (x0 :: x1 :: x2 :: x3 :: x4 :: x5 :: x6 :: x7 :: some (Vr z) :: ls) st n h := by
  obtain ⟨p, l, e, R, s, m, args, below, meth, c, D, K, bb, off, Z, hx, hb, hml, hown, hK, hI, hR, hof, hfin, rfl⟩ := hG
  subst hq
  intro h1 h2 H locs L hL hW hS
  obtain ⟨x, hxr⟩ := rl_ref bb off z
  have hg := hL.get (k := 8) (v := Vr z) rfl
  rw [hxr] at hg
  have kk := k h1 h2 H locs L hL hW hS
  rw [List.map_cons, hxr] at kk
  exact lv_aload hx hb hd hg kk
theorem gx_istore8 (hG : Cx own b mL rt isI d a n0 Q G) {x0 x1 x2 x3 x4 x5 x6 x7 : Option Value} {y : Option Value} {z : Int} (hd : decode b pc = .ok (.istore 8, 2)) (hq : pc + 2 = q) (hp : one1 [x7] 0 = true) (k : G q (x0 :: x1 :: x2 :: x3 :: x4 :: x5 :: x6 :: x7 :: some (Vi z) :: ls) st n h) : G pc (x0 :: x1 :: x2 :: x3 :: x4 :: x5 :: x6 :: x7 :: y :: ls) (Vi z :: st) n h := by
  obtain ⟨p, l, e, R, s, m, args, below, meth, c, D, K, bb, off, Z, hx, hb, hml, hown, hK, hI, hR, hof, hfin, rfl⟩ := hG
  subst hq
  intro h1 h2 H locs L hL hW hS
  refine lv_istore hx hb hd hL.1 (by have := hL.2; simp at this; omega) rfl (fun L' hL' => ?_)
  exact k h1 h2 H locs L' (hL.set1 rl_cat (i := 8) (v := Vi z) hp (by simp) hL') hW hS
theorem gx_astore8 (hG : Cx own b mL rt isI d a n0 Q G) {x0 x1 x2 x3 x4 x5 x6 x7 : Option Value} {y : Option Value} {z : Int} (hd : decode b pc = .ok (.astore 8, 2)) (hq : pc + 2 = q) (hp : one1 [x7] 0 = true) (k : G q (x0 :: x1 :: x2 :: x3 :: x4 :: x5 :: x6 :: x7 :: some (Vr z) :: ls) st n h) : G pc (x0 :: x1 :: x2 :: x3 :: x4 :: x5 :: x6 :: x7 :: y :: ls) (Vr z :: st) n h := by
  obtain ⟨p, l, e, R, s, m, args, below, meth, c, D, K, bb, off, Z, hx, hb, hml, hown, hK, hI, hR, hof, hfin, rfl⟩ := hG
  subst hq
  intro h1 h2 H locs L hL hW hS
  obtain ⟨x, hxr⟩ := rl_ref bb off z
  have e0 : (Vr z :: st).map (rl bb off) = .ref x :: st.map (rl bb off) := by rw [List.map_cons, hxr]
  rw [e0]
  refine lv_astore hx hb hd hL.1 (by have := hL.2; simp at this; omega) rfl (fun L' hL' => ?_)
  rw [← hxr] at hL'
  exact k h1 h2 H locs L' (hL.set1 rl_cat (i := 8) (v := Vr z) hp (by simp) hL') hW hS
theorem gx_lstore8 (hG : Cx own b mL rt isI d a n0 Q G) {x0 x1 x2 x3 x4 x5 x6 x7 : Option Value} {y y2 : Option Value} {z : Int} (hd : decode b pc = .ok (.lstore 8, 2)) (hq : pc + 2 = q) (hp : one1 [x7] 0 = true) (k : G q (x0 :: x1 :: x2 :: x3 :: x4 :: x5 :: x6 :: x7 :: some (Vj z) :: none :: ls) st n h) : G pc (x0 :: x1 :: x2 :: x3 :: x4 :: x5 :: x6 :: x7 :: y :: y2 :: ls) (Vj z :: st) n h := by
  obtain ⟨p, l, e, R, s, m, args, below, meth, c, D, K, bb, off, Z, hx, hb, hml, hown, hK, hI, hR, hof, hfin, rfl⟩ := hG
  subst hq
  intro h1 h2 H locs L hL hW hS
  refine lv_lstore hx hb hd hL.1 (by have := hL.2; simp at this; omega) rfl (fun L' hL' => ?_)
  exact k h1 h2 H locs L' (hL.set2 rl_cat (i := 8) (v := Vj z) hp (by simp) hL') hW hS
theorem gx_iinc8 (hG : Cx own b mL rt isI d a n0 Q G) {x0 x1 x2 x3 x4 x5 x6 x7 : Option Value} {z cc : Int} (hd : decode b pc = .ok (.iinc 8 cc, 3)) (hq : pc + 3 = q) (hp : one1 [x7] 0 = true) (k : G q (x0 :: x1 :: x2 :: x3 :: x4 :: x5 :: x6 :: x7 :: some (Vi (z + cc)) :: ls) st n h) : G pc (x0 :: x1 :: x2 :: x3 :: x4 :: x5 :: x6 :: x7 :: some (Vi z) :: ls) st n h := by
  obtain ⟨p, l, e, R, s, m, args, below, meth, c, D, K, bb, off, Z, hx, hb, hml, hown, hK, hI, hR, hof, hfin, rfl⟩ := hG
  subst hq
  intro h1 h2 H locs L hL hW hS
  obtain ⟨j, hj⟩ := List.getElem?_of_mem (asc_in (f := rl bb off) _ 0 8 (show (x0 :: x1 :: x2 :: x3 :: x4 :: x5 :: x6 :: x7 :: some (Vi z) :: ls : List (Option Value))[8]? = some (some (Vi z)) from rfl))
  rw [Nat.zero_add] at hj
  refine lv_iinc hx hb hd hL.1 hj rfl (by have := hL.2; simp at this; omega) rfl (fun L' hL' => ?_)
  rw [← Int32.ofInt_add] at hL'
  exact k h1 h2 H locs L' (hL.set1 rl_cat (i := 8) (v := Vi (z + cc)) hp (by simp) hL') hW hS
theorem gx_iload9 (hG : Cx own b mL rt isI d a n0 Q G) {x0 x1 x2 x3 x4 x5 x6 x7 x8 : Option Value} {z : Int} (hd : decode b pc = .ok (.iload 9, 2)) (hq : pc + 2 = q) (k : G q (x0 :: x1 :: x2 :: x3 :: x4 :: x5 :: x6 :: x7 :: x8 :: some (Vi z) :: ls) (Vi z :: st) n h) : G pc (x0 :: x1 :: x2 :: x3 :: x4 :: x5 :: x6 :: x7 :: x8 :: some (Vi z) :: ls) st n h := by
  obtain ⟨p, l, e, R, s, m, args, below, meth, c, D, K, bb, off, Z, hx, hb, hml, hown, hK, hI, hR, hof, hfin, rfl⟩ := hG
  subst hq
  intro h1 h2 H locs L hL hW hS
  exact lv_iload hx hb hd (hL.get (k := 9) (v := Vi z) rfl) (k h1 h2 H locs L hL hW hS)
theorem gx_lload9 (hG : Cx own b mL rt isI d a n0 Q G) {x0 x1 x2 x3 x4 x5 x6 x7 x8 : Option Value} {z : Int} (hd : decode b pc = .ok (.lload 9, 2)) (hq : pc + 2 = q) (k : G q (x0 :: x1 :: x2 :: x3 :: x4 :: x5 :: x6 :: x7 :: x8 :: some (Vj z) :: ls) (Vj z :: st) n h) : G pc (x0 :: x1 :: x2 :: x3 :: x4 :: x5 :: x6 :: x7 :: x8 :: some (Vj z) :: ls) st n h := by
  obtain ⟨p, l, e, R, s, m, args, below, meth, c, D, K, bb, off, Z, hx, hb, hml, hown, hK, hI, hR, hof, hfin, rfl⟩ := hG
  subst hq
  intro h1 h2 H locs L hL hW hS
  exact lv_lload hx hb hd (hL.get (k := 9) (v := Vj z) rfl) (k h1 h2 H locs L hL hW hS)
theorem gx_aload9 (hG : Cx own b mL rt isI d a n0 Q G) {x0 x1 x2 x3 x4 x5 x6 x7 x8 : Option Value} {z : Int} (hd : decode b pc = .ok (.aload 9, 2)) (hq : pc + 2 = q) (k : G q (x0 :: x1 :: x2 :: x3 :: x4 :: x5 :: x6 :: x7 :: x8 :: some (Vr z) :: ls) (Vr z :: st) n h) : G pc (x0 :: x1 :: x2 :: x3 :: x4 :: x5 :: x6 :: x7 :: x8 :: some (Vr z) :: ls) st n h := by
  obtain ⟨p, l, e, R, s, m, args, below, meth, c, D, K, bb, off, Z, hx, hb, hml, hown, hK, hI, hR, hof, hfin, rfl⟩ := hG
  subst hq
  intro h1 h2 H locs L hL hW hS
  obtain ⟨x, hxr⟩ := rl_ref bb off z
  have hg := hL.get (k := 9) (v := Vr z) rfl
  rw [hxr] at hg
  have kk := k h1 h2 H locs L hL hW hS
  rw [List.map_cons, hxr] at kk
  exact lv_aload hx hb hd hg kk
theorem gx_istore9 (hG : Cx own b mL rt isI d a n0 Q G) {x0 x1 x2 x3 x4 x5 x6 x7 x8 : Option Value} {y : Option Value} {z : Int} (hd : decode b pc = .ok (.istore 9, 2)) (hq : pc + 2 = q) (hp : one1 [x8] 0 = true) (k : G q (x0 :: x1 :: x2 :: x3 :: x4 :: x5 :: x6 :: x7 :: x8 :: some (Vi z) :: ls) st n h) : G pc (x0 :: x1 :: x2 :: x3 :: x4 :: x5 :: x6 :: x7 :: x8 :: y :: ls) (Vi z :: st) n h := by
  obtain ⟨p, l, e, R, s, m, args, below, meth, c, D, K, bb, off, Z, hx, hb, hml, hown, hK, hI, hR, hof, hfin, rfl⟩ := hG
  subst hq
  intro h1 h2 H locs L hL hW hS
  refine lv_istore hx hb hd hL.1 (by have := hL.2; simp at this; omega) rfl (fun L' hL' => ?_)
  exact k h1 h2 H locs L' (hL.set1 rl_cat (i := 9) (v := Vi z) hp (by simp) hL') hW hS
theorem gx_astore9 (hG : Cx own b mL rt isI d a n0 Q G) {x0 x1 x2 x3 x4 x5 x6 x7 x8 : Option Value} {y : Option Value} {z : Int} (hd : decode b pc = .ok (.astore 9, 2)) (hq : pc + 2 = q) (hp : one1 [x8] 0 = true) (k : G q (x0 :: x1 :: x2 :: x3 :: x4 :: x5 :: x6 :: x7 :: x8 :: some (Vr z) :: ls) st n h) : G pc (x0 :: x1 :: x2 :: x3 :: x4 :: x5 :: x6 :: x7 :: x8 :: y :: ls) (Vr z :: st) n h := by
  obtain ⟨p, l, e, R, s, m, args, below, meth, c, D, K, bb, off, Z, hx, hb, hml, hown, hK, hI, hR, hof, hfin, rfl⟩ := hG
  subst hq
  intro h1 h2 H locs L hL hW hS
  obtain ⟨x, hxr⟩ := rl_ref bb off z
  have e0 : (Vr z :: st).map (rl bb off) = .ref x :: st.map (rl bb off) := by rw [List.map_cons, hxr]
  rw [e0]
  refine lv_astore hx hb hd hL.1 (by have := hL.2; simp at this; omega) rfl (fun L' hL' => ?_)
  rw [← hxr] at hL'
  exact k h1 h2 H locs L' (hL.set1 rl_cat (i := 9) (v := Vr z) hp (by simp) hL') hW hS
theorem gx_lstore9 (hG : Cx own b mL rt isI d a n0 Q G) {x0 x1 x2 x3 x4 x5 x6 x7 x8 : Option Value} {y y2 : Option Value} {z : Int} (hd : decode b pc = .ok (.lstore 9, 2)) (hq : pc + 2 = q) (hp : one1 [x8] 0 = true) (k : G q (x0 :: x1 :: x2 :: x3 :: x4 :: x5 :: x6 :: x7 :: x8 :: some (Vj z) :: none :: ls) st n h) : G pc (x0 :: x1 :: x2 :: x3 :: x4 :: x5 :: x6 :: x7 :: x8 :: y :: y2 :: ls) (Vj z :: st) n h := by
  obtain ⟨p, l, e, R, s, m, args, below, meth, c, D, K, bb, off, Z, hx, hb, hml, hown, hK, hI, hR, hof, hfin, rfl⟩ := hG
  subst hq
  intro h1 h2 H locs L hL hW hS
  refine lv_lstore hx hb hd hL.1 (by have := hL.2; simp at this; omega) rfl (fun L' hL' => ?_)
  exact k h1 h2 H locs L' (hL.set2 rl_cat (i := 9) (v := Vj z) hp (by simp) hL') hW hS
theorem gx_iinc9 (hG : Cx own b mL rt isI d a n0 Q G) {x0 x1 x2 x3 x4 x5 x6 x7 x8 : Option Value} {z cc : Int} (hd : decode b pc = .ok (.iinc 9 cc, 3)) (hq : pc + 3 = q) (hp : one1 [x8] 0 = true) (k : G q (x0 :: x1 :: x2 :: x3 :: x4 :: x5 :: x6 :: x7 :: x8 :: some (Vi (z + cc)) :: ls) st n h) : G pc (x0 :: x1 :: x2 :: x3 :: x4 :: x5 :: x6 :: x7 :: x8 :: some (Vi z) :: ls) st n h := by
  obtain ⟨p, l, e, R, s, m, args, below, meth, c, D, K, bb, off, Z, hx, hb, hml, hown, hK, hI, hR, hof, hfin, rfl⟩ := hG
  subst hq
  intro h1 h2 H locs L hL hW hS
  obtain ⟨j, hj⟩ := List.getElem?_of_mem (asc_in (f := rl bb off) _ 0 9 (show (x0 :: x1 :: x2 :: x3 :: x4 :: x5 :: x6 :: x7 :: x8 :: some (Vi z) :: ls : List (Option Value))[9]? = some (some (Vi z)) from rfl))
  rw [Nat.zero_add] at hj
  refine lv_iinc hx hb hd hL.1 hj rfl (by have := hL.2; simp at this; omega) rfl (fun L' hL' => ?_)
  rw [← Int32.ofInt_add] at hL'
  exact k h1 h2 H locs L' (hL.set1 rl_cat (i := 9) (v := Vi (z + cc)) hp (by simp) hL') hW hS
theorem gx_iload10 (hG : Cx own b mL rt isI d a n0 Q G) {x0 x1 x2 x3 x4 x5 x6 x7 x8 x9 : Option Value} {z : Int} (hd : decode b pc = .ok (.iload 10, 2)) (hq : pc + 2 = q) (k : G q (x0 :: x1 :: x2 :: x3 :: x4 :: x5 :: x6 :: x7 :: x8 :: x9 :: some (Vi z) :: ls) (Vi z :: st) n h) : G pc (x0 :: x1 :: x2 :: x3 :: x4 :: x5 :: x6 :: x7 :: x8 :: x9 :: some (Vi z) :: ls) st n h := by
  obtain ⟨p, l, e, R, s, m, args, below, meth, c, D, K, bb, off, Z, hx, hb, hml, hown, hK, hI, hR, hof, hfin, rfl⟩ := hG
  subst hq
  intro h1 h2 H locs L hL hW hS
  exact lv_iload hx hb hd (hL.get (k := 10) (v := Vi z) rfl) (k h1 h2 H locs L hL hW hS)
theorem gx_lload10 (hG : Cx own b mL rt isI d a n0 Q G) {x0 x1 x2 x3 x4 x5 x6 x7 x8 x9 : Option Value} {z : Int} (hd : decode b pc = .ok (.lload 10, 2)) (hq : pc + 2 = q) (k : G q (x0 :: x1 :: x2 :: x3 :: x4 :: x5 :: x6 :: x7 :: x8 :: x9 :: some (Vj z) :: ls) (Vj z :: st) n h) : G pc (x0 :: x1 :: x2 :: x3 :: x4 :: x5 :: x6 :: x7 :: x8 :: x9 :: some (Vj z) :: ls) st n h := by
  obtain ⟨p, l, e, R, s, m, args, below, meth, c, D, K, bb, off, Z, hx, hb, hml, hown, hK, hI, hR, hof, hfin, rfl⟩ := hG
  subst hq
  intro h1 h2 H locs L hL hW hS
  exact lv_lload hx hb hd (hL.get (k := 10) (v := Vj z) rfl) (k h1 h2 H locs L hL hW hS)
theorem gx_aload10 (hG : Cx own b mL rt isI d a n0 Q G) {x0 x1 x2 x3 x4 x5 x6 x7 x8 x9 : Option Value} {z : Int} (hd : decode b pc = .ok (.aload 10, 2)) (hq : pc + 2 = q) (k : G q (x0 :: x1 :: x2 :: x3 :: x4 :: x5 :: x6 :: x7 :: x8 :: x9 :: some (Vr z) :: ls) (Vr z :: st) n h) : G pc (x0 :: x1 :: x2 :: x3 :: x4 :: x5 :: x6 :: x7 :: x8 :: x9 :: some (Vr z) :: ls) st n h := by
  obtain ⟨p, l, e, R, s, m, args, below, meth, c, D, K, bb, off, Z, hx, hb, hml, hown, hK, hI, hR, hof, hfin, rfl⟩ := hG
  subst hq
  intro h1 h2 H locs L hL hW hS
  obtain ⟨x, hxr⟩ := rl_ref bb off z
  have hg := hL.get (k := 10) (v := Vr z) rfl
  rw [hxr] at hg
  have kk := k h1 h2 H locs L hL hW hS
  rw [List.map_cons, hxr] at kk
  exact lv_aload hx hb hd hg kk
theorem gx_istore10 (hG : Cx own b mL rt isI d a n0 Q G) {x0 x1 x2 x3 x4 x5 x6 x7 x8 x9 : Option Value} {y : Option Value} {z : Int} (hd : decode b pc = .ok (.istore 10, 2)) (hq : pc + 2 = q) (hp : one1 [x9] 0 = true) (k : G q (x0 :: x1 :: x2 :: x3 :: x4 :: x5 :: x6 :: x7 :: x8 :: x9 :: some (Vi z) :: ls) st n h) : G pc (x0 :: x1 :: x2 :: x3 :: x4 :: x5 :: x6 :: x7 :: x8 :: x9 :: y :: ls) (Vi z :: st) n h := by
  obtain ⟨p, l, e, R, s, m, args, below, meth, c, D, K, bb, off, Z, hx, hb, hml, hown, hK, hI, hR, hof, hfin, rfl⟩ := hG
  subst hq
  intro h1 h2 H locs L hL hW hS
  refine lv_istore hx hb hd hL.1 (by have := hL.2; simp at this; omega) rfl (fun L' hL' => ?_)
  exact k h1 h2 H locs L' (hL.set1 rl_cat (i := 10) (v := Vi z) hp (by simp) hL') hW hS
theorem gx_astore10 (hG : Cx own b mL rt isI d a n0 Q G) {x0 x1 x2 x3 x4 x5 x6 x7 x8 x9 : Option Value} {y : Option Value} {z : Int} (hd : decode b pc = .ok (.astore 10, 2)) (hq : pc + 2 = q) (hp : one1 [x9] 0 = true) (k : G q (x0 :: x1 :: x2 :: x3 :: x4 :: x5 :: x6 :: x7 :: x8 :: x9 :: some (Vr z) :: ls) st n h) : G pc (x0 :: x1 :: x2 :: x3 :: x4 :: x5 :: x6 :: x7 :: x8 :: x9 :: y :: ls) (Vr z :: st) n h := by
  obtain ⟨p, l, e, R, s, m, args, below, meth, c, D, K, bb, off, Z, hx, hb, hml, hown, hK, hI, hR, hof, hfin, rfl⟩ := hG
  subst hq
  intro h1 h2 H locs L hL hW hS
  obtain ⟨x, hxr⟩ := rl_ref bb off z
  have e0 : (Vr z :: st).map (rl bb off) = .ref x :: st.map (rl bb off) := by rw [List.map_cons, hxr]
  rw [e0]
  refine lv_astore hx hb hd hL.1 (by have := hL.2; simp at this; omega) rfl (fun L' hL' => ?_)
  rw [← hxr] at hL'
  exact k h1 h2 H locs L' (hL.set1 rl_cat (i := 10) (v := Vr z) hp (by simp) hL') hW hS
theorem gx_lstore10 (hG : Cx own b mL rt isI d a n0 Q G) {x0 x1 x2 x3 x4 x5 x6 x7 x8 x9 : Option Value} {y y2 : Option Value} {z : Int} (hd : decode b pc = .ok (.lstore 10, 2)) (hq : pc + 2 = q) (hp : one1 [x9] 0 = true) (k : G q (x0 :: x1 :: x2 :: x3 :: x4 :: x5 :: x6 :: x7 :: x8 :: x9 :: some (Vj z) :: none :: ls) st n h) : G pc (x0 :: x1 :: x2 :: x3 :: x4 :: x5 :: x6 :: x7 :: x8 :: x9 :: y :: y2 :: ls) (Vj z :: st) n h := by
  obtain ⟨p, l, e, R, s, m, args, below, meth, c, D, K, bb, off, Z, hx, hb, hml, hown, hK, hI, hR, hof, hfin, rfl⟩ := hG
  subst hq
  intro h1 h2 H locs L hL hW hS
  refine lv_lstore hx hb hd hL.1 (by have := hL.2; simp at this; omega) rfl (fun L' hL' => ?_)
  exact k h1 h2 H locs L' (hL.set2 rl_cat (i := 10) (v := Vj z) hp (by simp) hL') hW hS
theorem gx_iinc10 (hG : Cx own b mL rt isI d a n0 Q G) {x0 x1 x2 x3 x4 x5 x6 x7 x8 x9 : Option Value} {z cc : Int} (hd : decode b pc = .ok (.iinc 10 cc, 3)) (hq : pc + 3 = q) (hp : one1 [x9] 0 = true) (k : G q (x0 :: x1 :: x2 :: x3 :: x4 :: x5 :: x6 :: x7 :: x8 :: x9 :: some (Vi (z + cc)) :: ls) st n h) : G pc (x0 :: x1 :: x2 :: x3 :: x4 :: x5 :: x6 :: x7 :: x8 :: x9 :: some (Vi z) :: ls) st n h := by
  obtain ⟨p, l, e, R, s, m, args, below, meth, c, D, K, bb, off, Z, hx, hb, hml, hown, hK, hI, hR, hof, hfin, rfl⟩ := hG
  subst hq
  intro h1 h2 H locs L hL hW hS
  obtain ⟨j, hj⟩ := List.getElem?_of_mem (asc_in (f := rl bb off) _ 0 10 (show (x0 :: x1 :: x2 :: x3 :: x4 :: x5 :: x6 :: x7 :: x8 :: x9 :: some (Vi z) :: ls : List (Option Value))[10]? = some (some (Vi z)) from rfl))
  rw [Nat.zero_add] at hj
  refine lv_iinc hx hb hd hL.1 hj rfl (by have := hL.2; simp at this; omega) rfl (fun L' hL' => ?_)
  rw [← Int32.ofInt_add] at hL'
  exact k h1 h2 H locs L' (hL.set1 rl_cat (i := 10) (v := Vi (z + cc)) hp (by simp) hL') hW hS
theorem gx_iload11 (hG : Cx own b mL rt isI d a n0 Q G) {x0 x1 x2 x3 x4 x5 x6 x7 x8 x9 x10 : Option Value} {z : Int} (hd : decode b pc = .ok (.iload 11, 2)) (hq : pc + 2 = q) (k : G q (x0 :: x1 :: x2 :: x3 :: x4 :: x5 :: x6 :: x7 :: x8 :: x9 :: x10 :: some (Vi z) :: ls) (Vi z :: st) n h) : G pc (x0 :: x1 :: x2 :: x3 :: x4 :: x5 :: x6 :: x7 :: x8 :: x9 :: x10 :: some (Vi z) :: ls) st n h := by
  obtain ⟨p, l, e, R, s, m, args, below, meth, c, D, K, bb, off, Z, hx, hb, hml, hown, hK, hI, hR, hof, hfin, rfl⟩ := hG
  subst hq
  intro h1 h2 H locs L hL hW hS
  exact lv_iload hx hb hd (hL.get (k := 11) (v := Vi z) rfl) (k h1 h2 H locs L hL hW hS)
theorem gx_lload11 (hG : Cx own b mL rt isI d a n0 Q G) {x0 x1 x2 x3 x4 x5 x6 x7 x8 x9 x10 : Option Value} {z : Int} (hd : decode b pc = .ok (.lload 11, 2)) (hq : pc + 2 = q) (k : G q (x0 :: x1 :: x2 :: x3 :: x4 :: x5 :: x6 :: x7 :: x8 :: x9 :: x10 :: some (Vj z) :: ls) (Vj z :: st) n h) : G pc (x0 :: x1 :: x2 :: x3 :: x4 :: x5 :: x6 :: x7 :: x8 :: x9 :: x10 :: some (Vj z) :: ls) st n h := by
  obtain ⟨p, l, e, R, s, m, args, below, meth, c, D, K, bb, off, Z, hx, hb, hml, hown, hK, hI, hR, hof, hfin, rfl⟩ := hG
  subst hq
  intro h1 h2 H locs L hL hW hS
  exact lv_lload hx hb hd (hL.get (k := 11) (v := Vj z) rfl) (k h1 h2 H locs L hL hW hS)
theorem gx_aload11 (hG : Cx own b mL rt isI d a n0 Q G) {x0 x1 x2 x3 x4 x5 x6 x7 x8 x9 x10 : Option Value} {z : Int} (hd : decode b pc = .ok (.aload 11, 2)) (hq : pc + 2 = q) (k : G q (x0 :: x1 :: x2 :: x3 :: x4 :: x5 :: x6 :: x7 :: x8 :: x9 :: x10 :: some (Vr z) :: ls) (Vr z :: st) n h) : G pc (x0 :: x1 :: x2 :: x3 :: x4 :: x5 :: x6 :: x7 :: x8 :: x9 :: x10 :: some (Vr z) :: ls) st n h := by
  obtain ⟨p, l, e, R, s, m, args, below, meth, c, D, K, bb, off, Z, hx, hb, hml, hown, hK, hI, hR, hof, hfin, rfl⟩ := hG
  subst hq
  intro h1 h2 H locs L hL hW hS
  obtain ⟨x, hxr⟩ := rl_ref bb off z
  have hg := hL.get (k := 11) (v := Vr z) rfl
  rw [hxr] at hg
  have kk := k h1 h2 H locs L hL hW hS
  rw [List.map_cons, hxr] at kk
  exact lv_aload hx hb hd hg kk
theorem gx_istore11 (hG : Cx own b mL rt isI d a n0 Q G) {x0 x1 x2 x3 x4 x5 x6 x7 x8 x9 x10 : Option Value} {y : Option Value} {z : Int} (hd : decode b pc = .ok (.istore 11, 2)) (hq : pc + 2 = q) (hp : one1 [x10] 0 = true) (k : G q (x0 :: x1 :: x2 :: x3 :: x4 :: x5 :: x6 :: x7 :: x8 :: x9 :: x10 :: some (Vi z) :: ls) st n h) : G pc (x0 :: x1 :: x2 :: x3 :: x4 :: x5 :: x6 :: x7 :: x8 :: x9 :: x10 :: y :: ls) (Vi z :: st) n h := by
  obtain ⟨p, l, e, R, s, m, args, below, meth, c, D, K, bb, off, Z, hx, hb, hml, hown, hK, hI, hR, hof, hfin, rfl⟩ := hG
  subst hq
  intro h1 h2 H locs L hL hW hS
  refine lv_istore hx hb hd hL.1 (by have := hL.2; simp at this; omega) rfl (fun L' hL' => ?_)
  exact k h1 h2 H locs L' (hL.set1 rl_cat (i := 11) (v := Vi z) hp (by simp) hL') hW hS
theorem gx_astore11 (hG : Cx own b mL rt isI d a n0 Q G) {x0 x1 x2 x3 x4 x5 x6 x7 x8 x9 x10 : Option Value} {y : Option Value} {z : Int} (hd : decode b pc = .ok (.astore 11, 2)) (hq : pc + 2 = q) (hp : one1 [x10] 0 = true) (k : G q (x0 :: x1 :: x2 :: x3 :: x4 :: x5 :: x6 :: x7 :: x8 :: x9 :: x10 :: some (Vr z) :: ls) st n h) : G pc (x0 :: x1 :: x2 :: x3 :: x4 :: x5 :: x6 :: x7 :: x8 :: x9 :: x10 :: y :: ls) (Vr z :: st) n h := by
  obtain ⟨p, l, e, R, s, m, args, below, meth, c, D, K, bb, off, Z, hx, hb, hml, hown, hK, hI, hR, hof, hfin, rfl⟩ := hG
  subst hq
  intro h1 h2 H locs L hL hW hS
  obtain ⟨x, hxr⟩ := rl_ref bb off z
  have e0 : (Vr z :: st).map (rl bb off) = .ref x :: st.map (rl bb off) := by rw [List.map_cons, hxr]
  rw [e0]
  refine lv_astore hx hb hd hL.1 (by have := hL.2; simp at this; omega) rfl (fun L' hL' => ?_)
  rw [← hxr] at hL'
  exact k h1 h2 H locs L' (hL.set1 rl_cat (i := 11) (v := Vr z) hp (by simp) hL') hW hS
theorem gx_lstore11 (hG : Cx own b mL rt isI d a n0 Q G) {x0 x1 x2 x3 x4 x5 x6 x7 x8 x9 x10 : Option Value} {y y2 : Option Value} {z : Int} (hd : decode b pc = .ok (.lstore 11, 2)) (hq : pc + 2 = q) (hp : one1 [x10] 0 = true) (k : G q (x0 :: x1 :: x2 :: x3 :: x4 :: x5 :: x6 :: x7 :: x8 :: x9 :: x10 :: some (Vj z) :: none :: ls) st n h) : G pc (x0 :: x1 :: x2 :: x3 :: x4 :: x5 :: x6 :: x7 :: x8 :: x9 :: x10 :: y :: y2 :: ls) (Vj z :: st) n h := by
  obtain ⟨p, l, e, R, s, m, args, below, meth, c, D, K, bb, off, Z, hx, hb, hml, hown, hK, hI, hR, hof, hfin, rfl⟩ := hG
  subst hq
  intro h1 h2 H locs L hL hW hS
  refine lv_lstore hx hb hd hL.1 (by have := hL.2; simp at this; omega) rfl (fun L' hL' => ?_)
  exact k h1 h2 H locs L' (hL.set2 rl_cat (i := 11) (v := Vj z) hp (by simp) hL') hW hS
theorem gx_iinc11 (hG : Cx own b mL rt isI d a n0 Q G) {x0 x1 x2 x3 x4 x5 x6 x7 x8 x9 x10 : Option Value} {z cc : Int} (hd : decode b pc = .ok (.iinc 11 cc, 3)) (hq : pc + 3 = q) (hp : one1 [x10] 0 = true) (k : G q (x0 :: x1 :: x2 :: x3 :: x4 :: x5 :: x6 :: x7 :: x8 :: x9 :: x10 :: some (Vi (z + cc)) :: ls) st n h) : G pc (x0 :: x1 :: x2 :: x3 :: x4 :: x5 :: x6 :: x7 :: x8 :: x9 :: x10 :: some (Vi z) :: ls) st n h := by
  obtain ⟨p, l, e, R, s, m, args, below, meth, c, D, K, bb, off, Z, hx, hb, hml, hown, hK, hI, hR, hof, hfin, rfl⟩ := hG
  subst hq
  intro h1 h2 H locs L hL hW hS
  obtain ⟨j, hj⟩ := List.getElem?_of_mem (asc_in (f := rl bb off) _ 0 11 (show (x0 :: x1 :: x2 :: x3 :: x4 :: x5 :: x6 :: x7 :: x8 :: x9 :: x10 :: some (Vi z) :: ls : List (Option Value))[11]? = some (some (Vi z)) from rfl))
  rw [Nat.zero_add] at hj
  refine lv_iinc hx hb hd hL.1 hj rfl (by have := hL.2; simp at this; omega) rfl (fun L' hL' => ?_)
  rw [← Int32.ofInt_add] at hL'
  exact k h1 h2 H locs L' (hL.set1 rl_cat (i := 11) (v := Vi (z + cc)) hp (by simp) hL') hW hS
theorem gx_iconst (hG : Cx own b mL rt isI d a n0 Q G) {z : Int} (hd : decode b pc = .ok (.iconst z, 1)) (hq : pc + 1 = q) (k : G q ls (Vi z :: st) n h) : G pc ls st n h := by
  obtain ⟨p, l, e, R, s, m, args, below, meth, c, D, K, bb, off, Z, hx, hb, hml, hown, hK, hI, hR, hof, hfin, rfl⟩ := hG
  subst hq
  intro h1 h2 H locs L hL hW hS
  exact lv_iconst hx hb hd rfl (k h1 h2 H locs L hL hW hS)
theorem gx_bipush (hG : Cx own b mL rt isI d a n0 Q G) {z : Int} (hd : decode b pc = .ok (.bipush z, 2)) (hq : pc + 2 = q) (hz : (Int8.ofInt z).toInt32 = Int32.ofInt z) (k : G q ls (Vi z :: st) n h) : G pc ls st n h := by
  obtain ⟨p, l, e, R, s, m, args, below, meth, c, D, K, bb, off, Z, hx, hb, hml, hown, hK, hI, hR, hof, hfin, rfl⟩ := hG
  subst hq
  intro h1 h2 H locs L hL hW hS
  refine lv_bipush hx hb hd hz (k h1 h2 H locs L hL hW hS)
theorem gx_sipush (hG : Cx own b mL rt isI d a n0 Q G) {z : Int} (hd : decode b pc = .ok (.sipush z, 3)) (hq : pc + 3 = q) (hz : (Int16.ofInt z).toInt32 = Int32.ofInt z) (k : G q ls (Vi z :: st) n h) : G pc ls st n h := by
  obtain ⟨p, l, e, R, s, m, args, below, meth, c, D, K, bb, off, Z, hx, hb, hml, hown, hK, hI, hR, hof, hfin, rfl⟩ := hG
  subst hq
  intro h1 h2 H locs L hL hW hS
  refine lv_sipush hx hb hd hz (k h1 h2 H locs L hL hW hS)
theorem gx_lconst (hG : Cx own b mL rt isI d a n0 Q G) {f : Fin 2} (z : Int) (hd : decode b pc = .ok (.lconst f, 1)) (hq : pc + 1 = q) (hz : Int64.ofNat (f : Nat) = Int64.ofInt z) (k : G q ls (Vj z :: st) n h) : G pc ls st n h := by
  obtain ⟨p, l, e, R, s, m, args, below, meth, c, D, K, bb, off, Z, hx, hb, hml, hown, hK, hI, hR, hof, hfin, rfl⟩ := hG
  subst hq
  intro h1 h2 H locs L hL hW hS
  refine lv_lconst hx hb hd hz (k h1 h2 H locs L hL hW hS)
theorem gx_ldc (hG : Cx own b mL rt isI d a n0 Q G) {v : Int32} {idx : Nat} (z : Int) (hc : Cond.constant own idx v ∈ lw_tbl) (hd : decode b pc = .ok (.ldc idx, 2)) (hq : pc + 2 = q) (hz : v = Int32.ofInt z) (k : G q ls (Vi z :: st) n h) : G pc ls st n h := by
  obtain ⟨p, l, e, R, s, m, args, below, meth, c, D, K, bb, off, Z, hx, hb, hml, hown, hK, hI, hR, hof, hfin, rfl⟩ := hG
  subst hq
  intro h1 h2 H locs L hL hW hS
  subst hz
  exact lv_ldc hx hb hown (hK.2.2 _ _ (gtb_in hc rfl)) hd (k h1 h2 H locs L hL hW hS)
theorem gx_ldc2 (hG : Cx own b mL rt isI d a n0 Q G) {v : Int64} {idx : Nat} (z : Int) (hc : Cond.constantLong own idx v ∈ lw_tbl) (hd : decode b pc = .ok (.ldc2_w idx, 3)) (hq : pc + 3 = q) (hz : v = Int64.ofInt z) (k : G q ls (Vj z :: st) n h) : G pc ls st n h := by
  obtain ⟨p, l, e, R, s, m, args, below, meth, c, D, K, bb, off, Z, hx, hb, hml, hown, hK, hI, hR, hof, hfin, rfl⟩ := hG
  subst hq
  intro h1 h2 H locs L hL hW hS
  subst hz
  exact lv_ldc2 hx hb hown (hK.2.2 _ _ (gtb_in hc rfl)) hd (k h1 h2 H locs L hL hW hS)
theorem gx_iadd (hG : Cx own b mL rt isI d a n0 Q G) {x y : Int} (hd : decode b pc = .ok (.iadd, 1)) (hq : pc + 1 = q) (k : G q ls (Vi (x + y) :: st) n h) : G pc ls (Vi y :: Vi x :: st) n h := by
  obtain ⟨p, l, e, R, s, m, args, below, meth, c, D, K, bb, off, Z, hx, hb, hml, hown, hK, hI, hR, hof, hfin, rfl⟩ := hG
  subst hq
  intro h1 h2 H locs L hL hW hS
  refine lv_iadd hx hb hd ?_
  rw [← Int32.ofInt_add]
  exact k h1 h2 H locs L hL hW hS
theorem gx_ladd (hG : Cx own b mL rt isI d a n0 Q G) {x y : Int} (hd : decode b pc = .ok (.ladd, 1)) (hq : pc + 1 = q) (k : G q ls (Vj (x + y) :: st) n h) : G pc ls (Vj y :: Vj x :: st) n h := by
  obtain ⟨p, l, e, R, s, m, args, below, meth, c, D, K, bb, off, Z, hx, hb, hml, hown, hK, hI, hR, hof, hfin, rfl⟩ := hG
  subst hq
  intro h1 h2 H locs L hL hW hS
  refine lv_ladd hx hb hd ?_
  rw [← Int64.ofInt_add]
  exact k h1 h2 H locs L hL hW hS
theorem gx_isub (hG : Cx own b mL rt isI d a n0 Q G) {x y : Int} (hd : decode b pc = .ok (.isub, 1)) (hq : pc + 1 = q) (k : G q ls (Vi (x - y) :: st) n h) : G pc ls (Vi y :: Vi x :: st) n h := by
  obtain ⟨p, l, e, R, s, m, args, below, meth, c, D, K, bb, off, Z, hx, hb, hml, hown, hK, hI, hR, hof, hfin, rfl⟩ := hG
  subst hq
  intro h1 h2 H locs L hL hW hS
  refine lv_isub hx hb hd ?_
  rw [← Int32.ofInt_sub]
  exact k h1 h2 H locs L hL hW hS
theorem gx_lsub (hG : Cx own b mL rt isI d a n0 Q G) {x y : Int} (hd : decode b pc = .ok (.lsub, 1)) (hq : pc + 1 = q) (k : G q ls (Vj (x - y) :: st) n h) : G pc ls (Vj y :: Vj x :: st) n h := by
  obtain ⟨p, l, e, R, s, m, args, below, meth, c, D, K, bb, off, Z, hx, hb, hml, hown, hK, hI, hR, hof, hfin, rfl⟩ := hG
  subst hq
  intro h1 h2 H locs L hL hW hS
  refine lv_lsub hx hb hd ?_
  rw [← Int64.ofInt_sub]
  exact k h1 h2 H locs L hL hW hS
theorem gx_imul (hG : Cx own b mL rt isI d a n0 Q G) {x y : Int} (hd : decode b pc = .ok (.imul, 1)) (hq : pc + 1 = q) (k : G q ls (Vi (x * y) :: st) n h) : G pc ls (Vi y :: Vi x :: st) n h := by
  obtain ⟨p, l, e, R, s, m, args, below, meth, c, D, K, bb, off, Z, hx, hb, hml, hown, hK, hI, hR, hof, hfin, rfl⟩ := hG
  subst hq
  intro h1 h2 H locs L hL hW hS
  refine lv_imul hx hb hd ?_
  rw [← Int32.ofInt_mul]
  exact k h1 h2 H locs L hL hW hS
theorem gx_lmul (hG : Cx own b mL rt isI d a n0 Q G) {x y : Int} (hd : decode b pc = .ok (.lmul, 1)) (hq : pc + 1 = q) (k : G q ls (Vj (x * y) :: st) n h) : G pc ls (Vj y :: Vj x :: st) n h := by
  obtain ⟨p, l, e, R, s, m, args, below, meth, c, D, K, bb, off, Z, hx, hb, hml, hown, hK, hI, hR, hof, hfin, rfl⟩ := hG
  subst hq
  intro h1 h2 H locs L hL hW hS
  refine lv_lmul hx hb hd ?_
  rw [← Int64.ofInt_mul]
  exact k h1 h2 H locs L hL hW hS
theorem gx_idiv (hG : Cx own b mL rt isI d a n0 Q G) {x y : Int} (hd : decode b pc = .ok (.idiv, 1)) (hq : pc + 1 = q) (hx0 : 0 ≤ x) (hx1 : x ≤ 2147483647) (hy0 : 0 < y) (hy1 : y ≤ 2147483647) (k : G q ls (Vi (x / y) :: st) n h) : G pc ls (Vi y :: Vi x :: st) n h := by
  obtain ⟨p, l, e, R, s, m, args, below, meth, c, D, K, bb, off, Z, hx, hb, hml, hown, hK, hI, hR, hof, hfin, rfl⟩ := hG
  subst hq
  intro h1 h2 H locs L hL hW hS
  refine lv_idiv hx hb hd (by rw [← i3_zero, i3_eq ⟨by omega, by omega⟩ ⟨by omega, by omega⟩]; omega) ?_
  rw [i3_divN hx0 hx1 hy0 hy1]
  exact k h1 h2 H locs L hL hW hS
theorem gx_irem (hG : Cx own b mL rt isI d a n0 Q G) {x y : Int} (hd : decode b pc = .ok (.irem, 1)) (hq : pc + 1 = q) (hx0 : 0 ≤ x) (hx1 : x ≤ 2147483647) (hy0 : 0 < y) (hy1 : y ≤ 2147483647) (k : G q ls (Vi (x % y) :: st) n h) : G pc ls (Vi y :: Vi x :: st) n h := by
  obtain ⟨p, l, e, R, s, m, args, below, meth, c, D, K, bb, off, Z, hx, hb, hml, hown, hK, hI, hR, hof, hfin, rfl⟩ := hG
  subst hq
  intro h1 h2 H locs L hL hW hS
  refine lv_irem hx hb hd (by rw [← i3_zero, i3_eq ⟨by omega, by omega⟩ ⟨by omega, by omega⟩]; omega) ?_
  rw [i3_divN hx0 hx1 hy0 hy1, ← Int32.ofInt_mul, ← Int32.ofInt_sub]
  rw [show x - x / y * y = x % y by rw [Int.mul_comm]; have := Int.mul_ediv_add_emod x y; omega]
  exact k h1 h2 H locs L hL hW hS
theorem gx_lrem (hG : Cx own b mL rt isI d a n0 Q G) {x y : Int} (hd : decode b pc = .ok (.lrem, 1)) (hq : pc + 1 = q) (hx0 : 0 ≤ x) (hx1 : x ≤ 9223372036854775807) (hy0 : 0 < y) (hy1 : y ≤ 9223372036854775807) (k : G q ls (Vj (x % y) :: st) n h) : G pc ls (Vj y :: Vj x :: st) n h := by
  obtain ⟨p, l, e, R, s, m, args, below, meth, c, D, K, bb, off, Z, hx, hb, hml, hown, hK, hI, hR, hof, hfin, rfl⟩ := hG
  subst hq
  intro h1 h2 H locs L hL hW hS
  refine lv_lrem hx hb hd (by rw [← i6_zero, i6_eq ⟨by omega, by omega⟩ ⟨by omega, by omega⟩]; omega) ?_
  rw [i6_divT (by omega) hx1 hy0 hy1, Int.tdiv_eq_ediv_of_nonneg hx0, ← Int64.ofInt_mul, ← Int64.ofInt_sub]
  rw [show x - x / y * y = x % y by rw [Int.mul_comm]; have := Int.mul_ediv_add_emod x y; omega]
  exact k h1 h2 H locs L hL hW hS
theorem gx_ldiv (hG : Cx own b mL rt isI d a n0 Q G) {x y : Int} (hd : decode b pc = .ok (.ldiv, 1)) (hq : pc + 1 = q) (hx0 : -9223372036854775807 ≤ x) (hx1 : x ≤ 9223372036854775807) (hy0 : 0 < y) (hy1 : y ≤ 9223372036854775807) (k : G q ls (Vj (x.tdiv y) :: st) n h) : G pc ls (Vj y :: Vj x :: st) n h := by
  obtain ⟨p, l, e, R, s, m, args, below, meth, c, D, K, bb, off, Z, hx, hb, hml, hown, hK, hI, hR, hof, hfin, rfl⟩ := hG
  subst hq
  intro h1 h2 H locs L hL hW hS
  refine lv_ldiv hx hb hd (by rw [← i6_zero, i6_eq ⟨by omega, by omega⟩ ⟨by omega, by omega⟩]; omega) ?_
  rw [i6_divT hx0 hx1 hy0 hy1]
  exact k h1 h2 H locs L hL hW hS
theorem gx_iand (hG : Cx own b mL rt isI d a n0 Q G) {x y : Int} (z : Int) (hd : decode b pc = .ok (.iand, 1)) (hq : pc + 1 = q) (hz : Int32.ofInt x &&& Int32.ofInt y = Int32.ofInt z) (k : G q ls (Vi z :: st) n h) : G pc ls (Vi y :: Vi x :: st) n h := by
  obtain ⟨p, l, e, R, s, m, args, below, meth, c, D, K, bb, off, Z, hx, hb, hml, hown, hK, hI, hR, hof, hfin, rfl⟩ := hG
  subst hq
  intro h1 h2 H locs L hL hW hS
  refine lv_iand hx hb hd ?_
  rw [hz]
  exact k h1 h2 H locs L hL hW hS
theorem gx_ior (hG : Cx own b mL rt isI d a n0 Q G) {x y : Int} (z : Int) (hd : decode b pc = .ok (.ior, 1)) (hq : pc + 1 = q) (hz : Int32.ofInt x ||| Int32.ofInt y = Int32.ofInt z) (k : G q ls (Vi z :: st) n h) : G pc ls (Vi y :: Vi x :: st) n h := by
  obtain ⟨p, l, e, R, s, m, args, below, meth, c, D, K, bb, off, Z, hx, hb, hml, hown, hK, hI, hR, hof, hfin, rfl⟩ := hG
  subst hq
  intro h1 h2 H locs L hL hW hS
  refine lv_ior hx hb hd ?_
  rw [hz]
  exact k h1 h2 H locs L hL hW hS
theorem gx_ixor (hG : Cx own b mL rt isI d a n0 Q G) {x y : Int} (z : Int) (hd : decode b pc = .ok (.ixor, 1)) (hq : pc + 1 = q) (hz : Int32.ofInt x ^^^ Int32.ofInt y = Int32.ofInt z) (k : G q ls (Vi z :: st) n h) : G pc ls (Vi y :: Vi x :: st) n h := by
  obtain ⟨p, l, e, R, s, m, args, below, meth, c, D, K, bb, off, Z, hx, hb, hml, hown, hK, hI, hR, hof, hfin, rfl⟩ := hG
  subst hq
  intro h1 h2 H locs L hL hW hS
  refine lv_ixor hx hb hd ?_
  rw [hz]
  exact k h1 h2 H locs L hL hW hS
theorem gx_ishl (hG : Cx own b mL rt isI d a n0 Q G) {x y : Int} (z : Int) (hd : decode b pc = .ok (.ishl, 1)) (hq : pc + 1 = q) (hz : Int32.ofInt x <<< (Int32.ofInt y &&& 31) = Int32.ofInt z) (k : G q ls (Vi z :: st) n h) : G pc ls (Vi y :: Vi x :: st) n h := by
  obtain ⟨p, l, e, R, s, m, args, below, meth, c, D, K, bb, off, Z, hx, hb, hml, hown, hK, hI, hR, hof, hfin, rfl⟩ := hG
  subst hq
  intro h1 h2 H locs L hL hW hS
  refine lv_ishl hx hb hd ?_
  rw [hz]
  exact k h1 h2 H locs L hL hW hS
theorem gx_ishr (hG : Cx own b mL rt isI d a n0 Q G) {x y : Int} (z : Int) (hd : decode b pc = .ok (.ishr, 1)) (hq : pc + 1 = q) (hz : Int32.ofInt x >>> (Int32.ofInt y &&& 31) = Int32.ofInt z) (k : G q ls (Vi z :: st) n h) : G pc ls (Vi y :: Vi x :: st) n h := by
  obtain ⟨p, l, e, R, s, m, args, below, meth, c, D, K, bb, off, Z, hx, hb, hml, hown, hK, hI, hR, hof, hfin, rfl⟩ := hG
  subst hq
  intro h1 h2 H locs L hL hW hS
  refine lv_ishr hx hb hd ?_
  rw [hz]
  exact k h1 h2 H locs L hL hW hS
theorem gx_iushr (hG : Cx own b mL rt isI d a n0 Q G) {x y : Int} (z : Int) (hd : decode b pc = .ok (.iushr, 1)) (hq : pc + 1 = q) (hz : ((Int32.ofInt x).toUInt32 >>> ((Int32.ofInt y).toUInt32 &&& Int32.toUInt32 31)).toInt32 = Int32.ofInt z) (k : G q ls (Vi z :: st) n h) : G pc ls (Vi y :: Vi x :: st) n h := by
  obtain ⟨p, l, e, R, s, m, args, below, meth, c, D, K, bb, off, Z, hx, hb, hml, hown, hK, hI, hR, hof, hfin, rfl⟩ := hG
  subst hq
  intro h1 h2 H locs L hL hW hS
  exact lv_iushr hx hb hd hz (k h1 h2 H locs L hL hW hS)
theorem gx_lushr (hG : Cx own b mL rt isI d a n0 Q G) {x y : Int} (z : Int) (hd : decode b pc = .ok (.lushr, 1)) (hq : pc + 1 = q) (hz : ((Int64.ofInt x).toUInt64 >>> ((Int32.ofInt y).toInt64.toUInt64 &&& Int64.toUInt64 63)).toInt64 = Int64.ofInt z) (k : G q ls (Vj z :: st) n h) : G pc ls (Vi y :: Vj x :: st) n h := by
  obtain ⟨p, l, e, R, s, m, args, below, meth, c, D, K, bb, off, Z, hx, hb, hml, hown, hK, hI, hR, hof, hfin, rfl⟩ := hG
  subst hq
  intro h1 h2 H locs L hL hW hS
  exact lv_lushr hx hb hd hz (k h1 h2 H locs L hL hW hS)
theorem gx_land (hG : Cx own b mL rt isI d a n0 Q G) {x y : Int} (z : Int) (hd : decode b pc = .ok (.land, 1)) (hq : pc + 1 = q) (hz : Int64.ofInt x &&& Int64.ofInt y = Int64.ofInt z) (k : G q ls (Vj z :: st) n h) : G pc ls (Vj y :: Vj x :: st) n h := by
  obtain ⟨p, l, e, R, s, m, args, below, meth, c, D, K, bb, off, Z, hx, hb, hml, hown, hK, hI, hR, hof, hfin, rfl⟩ := hG
  subst hq
  intro h1 h2 H locs L hL hW hS
  refine lv_land hx hb hd ?_
  rw [hz]
  exact k h1 h2 H locs L hL hW hS
theorem gx_lor (hG : Cx own b mL rt isI d a n0 Q G) {x y : Int} (z : Int) (hd : decode b pc = .ok (.lor, 1)) (hq : pc + 1 = q) (hz : Int64.ofInt x ||| Int64.ofInt y = Int64.ofInt z) (k : G q ls (Vj z :: st) n h) : G pc ls (Vj y :: Vj x :: st) n h := by
  obtain ⟨p, l, e, R, s, m, args, below, meth, c, D, K, bb, off, Z, hx, hb, hml, hown, hK, hI, hR, hof, hfin, rfl⟩ := hG
  subst hq
  intro h1 h2 H locs L hL hW hS
  refine lv_lor hx hb hd ?_
  rw [hz]
  exact k h1 h2 H locs L hL hW hS
theorem gx_lxor (hG : Cx own b mL rt isI d a n0 Q G) {x y : Int} (z : Int) (hd : decode b pc = .ok (.lxor, 1)) (hq : pc + 1 = q) (hz : Int64.ofInt x ^^^ Int64.ofInt y = Int64.ofInt z) (k : G q ls (Vj z :: st) n h) : G pc ls (Vj y :: Vj x :: st) n h := by
  obtain ⟨p, l, e, R, s, m, args, below, meth, c, D, K, bb, off, Z, hx, hb, hml, hown, hK, hI, hR, hof, hfin, rfl⟩ := hG
  subst hq
  intro h1 h2 H locs L hL hW hS
  refine lv_lxor hx hb hd ?_
  rw [hz]
  exact k h1 h2 H locs L hL hW hS
theorem gx_lshl (hG : Cx own b mL rt isI d a n0 Q G) {x y : Int} (z : Int) (hd : decode b pc = .ok (.lshl, 1)) (hq : pc + 1 = q) (hz : Int64.ofInt x <<< ((Int32.ofInt y).toInt64 &&& 63) = Int64.ofInt z) (k : G q ls (Vj z :: st) n h) : G pc ls (Vi y :: Vj x :: st) n h := by
  obtain ⟨p, l, e, R, s, m, args, below, meth, c, D, K, bb, off, Z, hx, hb, hml, hown, hK, hI, hR, hof, hfin, rfl⟩ := hG
  subst hq
  intro h1 h2 H locs L hL hW hS
  exact lv_lshl hx hb hd hz (k h1 h2 H locs L hL hW hS)
theorem gx_lshr (hG : Cx own b mL rt isI d a n0 Q G) {x y : Int} (z : Int) (hd : decode b pc = .ok (.lshr, 1)) (hq : pc + 1 = q) (hz : Int64.ofInt x >>> ((Int32.ofInt y).toInt64 &&& 63) = Int64.ofInt z) (k : G q ls (Vj z :: st) n h) : G pc ls (Vi y :: Vj x :: st) n h := by
  obtain ⟨p, l, e, R, s, m, args, below, meth, c, D, K, bb, off, Z, hx, hb, hml, hown, hK, hI, hR, hof, hfin, rfl⟩ := hG
  subst hq
  intro h1 h2 H locs L hL hW hS
  exact lv_lshr hx hb hd hz (k h1 h2 H locs L hL hW hS)
theorem gx_i2l (hG : Cx own b mL rt isI d a n0 Q G) {x : Int} (hd : decode b pc = .ok (.i2l, 1)) (hq : pc + 1 = q) (hr : R3 x) (k : G q ls (Vj x :: st) n h) : G pc ls (Vi x :: st) n h := by
  obtain ⟨p, l, e, R, s, m, args, below, meth, c, D, K, bb, off, Z, hx, hb, hml, hown, hK, hI, hR, hof, hfin, rfl⟩ := hG
  subst hq
  intro h1 h2 H locs L hL hW hS
  refine lv_i2l hx hb hd ?_ (k h1 h2 H locs L hL hW hS)
  rw [← Int64.toInt_inj, Int32.toInt_toInt64, i3_toInt hr, i6_toInt ⟨by omega, by omega⟩]
theorem gx_l2i (hG : Cx own b mL rt isI d a n0 Q G) {x : Int} (hd : decode b pc = .ok (.l2i, 1)) (hq : pc + 1 = q) (k : G q ls (Vi x :: st) n h) : G pc ls (Vj x :: st) n h := by
  obtain ⟨p, l, e, R, s, m, args, below, meth, c, D, K, bb, off, Z, hx, hb, hml, hown, hK, hI, hR, hof, hfin, rfl⟩ := hG
  subst hq
  intro h1 h2 H locs L hL hW hS
  refine lv_l2i hx hb hd ?_ (k h1 h2 H locs L hL hW hS)
  exact i6_toI3 x
theorem gx_i2b (hG : Cx own b mL rt isI d a n0 Q G) {x : Int} (z : Int) (hd : decode b pc = .ok (.i2b, 1)) (hq : pc + 1 = q) (hz : (Int32.ofInt x).toInt8.toInt32 = Int32.ofInt z) (k : G q ls (Vi z :: st) n h) : G pc ls (Vi x :: st) n h := by
  obtain ⟨p, l, e, R, s, m, args, below, meth, c, D, K, bb, off, Z, hx, hb, hml, hown, hK, hI, hR, hof, hfin, rfl⟩ := hG
  subst hq
  intro h1 h2 H locs L hL hW hS
  exact lv_i2b hx hb hd hz (k h1 h2 H locs L hL hW hS)
theorem gx_lcmp (hG : Cx own b mL rt isI d a n0 Q G) {x y : Int} (hd : decode b pc = .ok (.lcmp, 1)) (hq : pc + 1 = q) (hrx : R6 x) (hry : R6 y) (k : G q ls (Vi (cmp3 x y) :: st) n h) : G pc ls (Vj y :: Vj x :: st) n h := by
  obtain ⟨p, l, e, R, s, m, args, below, meth, c, D, K, bb, off, Z, hx, hb, hml, hown, hK, hI, hR, hof, hfin, rfl⟩ := hG
  subst hq
  intro h1 h2 H locs L hL hW hS
  refine W.lcmp hx hb hd ?_
  rw [lg_cmp3 hrx hry]
  exact k h1 h2 H locs L hL hW hS
theorem gx_dupi (hG : Cx own b mL rt isI d a n0 Q G) {x : Int} (hd : decode b pc = .ok (.dup, 1)) (hq : pc + 1 = q) (k : G q ls (Vi x :: Vi x :: st) n h) : G pc ls (Vi x :: st) n h := by
  obtain ⟨p, l, e, R, s, m, args, below, meth, c, D, K, bb, off, Z, hx, hb, hml, hown, hK, hI, hR, hof, hfin, rfl⟩ := hG
  subst hq
  intro h1 h2 H locs L hL hW hS
  exact lv_dup hx hb hd rfl (k h1 h2 H locs L hL hW hS)
theorem gx_dupa (hG : Cx own b mL rt isI d a n0 Q G) {x : Int} (hd : decode b pc = .ok (.dup, 1)) (hq : pc + 1 = q) (k : G q ls (Vr x :: Vr x :: st) n h) : G pc ls (Vr x :: st) n h := by
  obtain ⟨p, l, e, R, s, m, args, below, meth, c, D, K, bb, off, Z, hx, hb, hml, hown, hK, hI, hR, hof, hfin, rfl⟩ := hG
  subst hq
  intro h1 h2 H locs L hL hW hS
  exact lv_dup hx hb hd (by rw [rl_cat]; rfl) (k h1 h2 H locs L hL hW hS)
theorem gx_dup2 (hG : Cx own b mL rt isI d a n0 Q G) {x y : Int} (hd : decode b pc = .ok (.dup2, 1)) (hq : pc + 1 = q) (k : G q ls (Vi x :: Vr y :: Vi x :: Vr y :: st) n h) : G pc ls (Vi x :: Vr y :: st) n h := by
  obtain ⟨p, l, e, R, s, m, args, below, meth, c, D, K, bb, off, Z, hx, hb, hml, hown, hK, hI, hR, hof, hfin, rfl⟩ := hG
  subst hq
  intro h1 h2 H locs L hL hW hS
  exact lv_dup2_11 hx hb hd rfl (by rw [rl_cat]; rfl) (k h1 h2 H locs L hL hW hS)
theorem gx_popi (hG : Cx own b mL rt isI d a n0 Q G) {x : Int} (hd : decode b pc = .ok (.pop, 1)) (hq : pc + 1 = q) (k : G q ls st n h) : G pc ls (Vi x :: st) n h := by
  obtain ⟨p, l, e, R, s, m, args, below, meth, c, D, K, bb, off, Z, hx, hb, hml, hown, hK, hI, hR, hof, hfin, rfl⟩ := hG
  subst hq
  intro h1 h2 H locs L hL hW hS
  exact lv_pop hx hb hd rfl (k h1 h2 H locs L hL hW hS)
theorem gx_icmp_eq (hG : Cx own b mL rt isI d a n0 Q G) {x y o : Int} (hd : decode b pc = .ok (.if_icmp .eq o, 3)) (ht : (pc : Int) + o = (tgt : Int)) (hq : pc + 3 = q) (hrx : R3 x) (hry : R3 y) (kt : x = y → G tgt ls st n h) (kf : x ≠ y → G q ls st n h) : G pc ls (Vi y :: Vi x :: st) n h := by
  obtain ⟨p, l, e, R, s, m, args, below, meth, c, D, K, bb, off, Z, hx, hb, hml, hown, hK, hI, hR, hof, hfin, rfl⟩ := hG
  subst hq
  intro h1 h2 H locs L hL hW hS
  refine lv_icmp_eq hx hb hd ht (fun cc => kt ?_ h1 h2 H locs L hL hW hS) (fun cc => kf ?_ h1 h2 H locs L hL hW hS)
  · have e := i3_eq hrx hry
    exact e.mp cc
  · have e := i3_eq hrx hry
    exact fun z => cc (e.mpr z)
theorem gx_if_eq (hG : Cx own b mL rt isI d a n0 Q G) {x o : Int} (hd : decode b pc = .ok (.ifCond .eq o, 3)) (ht : (pc : Int) + o = (tgt : Int)) (hq : pc + 3 = q) (hrx : R3 x) (kt : x = 0 → G tgt ls st n h) (kf : x ≠ 0 → G q ls st n h) : G pc ls (Vi x :: st) n h := by
  obtain ⟨p, l, e, R, s, m, args, below, meth, c, D, K, bb, off, Z, hx, hb, hml, hown, hK, hI, hR, hof, hfin, rfl⟩ := hG
  subst hq
  intro h1 h2 H locs L hL hW hS
  have hry : R3 0 := by decide
  refine lv_if_eq hx hb hd ht (fun cc => kt ?_ h1 h2 H locs L hL hW hS) (fun cc => kf ?_ h1 h2 H locs L hL hW hS)
  · have e := i3_eq hrx hry
    rw [i3_zero] at e
    exact e.mp cc
  · have e := i3_eq hrx hry
    rw [i3_zero] at e
    exact fun z => cc (e.mpr z)
theorem gx_icmp_ne (hG : Cx own b mL rt isI d a n0 Q G) {x y o : Int} (hd : decode b pc = .ok (.if_icmp .ne o, 3)) (ht : (pc : Int) + o = (tgt : Int)) (hq : pc + 3 = q) (hrx : R3 x) (hry : R3 y) (kt : x ≠ y → G tgt ls st n h) (kf : x = y → G q ls st n h) : G pc ls (Vi y :: Vi x :: st) n h := by
  obtain ⟨p, l, e, R, s, m, args, below, meth, c, D, K, bb, off, Z, hx, hb, hml, hown, hK, hI, hR, hof, hfin, rfl⟩ := hG
  subst hq
  intro h1 h2 H locs L hL hW hS
  refine lv_icmp_ne hx hb hd ht (fun cc => kt ?_ h1 h2 H locs L hL hW hS) (fun cc => kf ?_ h1 h2 H locs L hL hW hS)
  · have e := i3_eq hrx hry
    exact fun z => cc (e.mpr z)
  · have e := i3_eq hrx hry
    exact e.mp cc
theorem gx_if_ne (hG : Cx own b mL rt isI d a n0 Q G) {x o : Int} (hd : decode b pc = .ok (.ifCond .ne o, 3)) (ht : (pc : Int) + o = (tgt : Int)) (hq : pc + 3 = q) (hrx : R3 x) (kt : x ≠ 0 → G tgt ls st n h) (kf : x = 0 → G q ls st n h) : G pc ls (Vi x :: st) n h := by
  obtain ⟨p, l, e, R, s, m, args, below, meth, c, D, K, bb, off, Z, hx, hb, hml, hown, hK, hI, hR, hof, hfin, rfl⟩ := hG
  subst hq
  intro h1 h2 H locs L hL hW hS
  have hry : R3 0 := by decide
  refine lv_if_ne hx hb hd ht (fun cc => kt ?_ h1 h2 H locs L hL hW hS) (fun cc => kf ?_ h1 h2 H locs L hL hW hS)
  · have e := i3_eq hrx hry
    rw [i3_zero] at e
    exact fun z => cc (e.mpr z)
  · have e := i3_eq hrx hry
    rw [i3_zero] at e
    exact e.mp cc
theorem gx_icmp_lt (hG : Cx own b mL rt isI d a n0 Q G) {x y o : Int} (hd : decode b pc = .ok (.if_icmp .lt o, 3)) (ht : (pc : Int) + o = (tgt : Int)) (hq : pc + 3 = q) (hrx : R3 x) (hry : R3 y) (kt : x < y → G tgt ls st n h) (kf : y ≤ x → G q ls st n h) : G pc ls (Vi y :: Vi x :: st) n h := by
  obtain ⟨p, l, e, R, s, m, args, below, meth, c, D, K, bb, off, Z, hx, hb, hml, hown, hK, hI, hR, hof, hfin, rfl⟩ := hG
  subst hq
  intro h1 h2 H locs L hL hW hS
  refine lv_icmp_lt hx hb hd ht (fun cc => kt ?_ h1 h2 H locs L hL hW hS) (fun cc => kf ?_ h1 h2 H locs L hL hW hS)
  · have e := i3_lt hrx hry
    exact e.mp cc
  · have e := i3_lt hrx hry
    have c2 : ¬ (x < y) := fun z => cc (e.mpr z)
    omega
theorem gx_if_lt (hG : Cx own b mL rt isI d a n0 Q G) {x o : Int} (hd : decode b pc = .ok (.ifCond .lt o, 3)) (ht : (pc : Int) + o = (tgt : Int)) (hq : pc + 3 = q) (hrx : R3 x) (kt : x < 0 → G tgt ls st n h) (kf : 0 ≤ x → G q ls st n h) : G pc ls (Vi x :: st) n h := by
  obtain ⟨p, l, e, R, s, m, args, below, meth, c, D, K, bb, off, Z, hx, hb, hml, hown, hK, hI, hR, hof, hfin, rfl⟩ := hG
  subst hq
  intro h1 h2 H locs L hL hW hS
  have hry : R3 0 := by decide
  refine lv_if_lt hx hb hd ht (fun cc => kt ?_ h1 h2 H locs L hL hW hS) (fun cc => kf ?_ h1 h2 H locs L hL hW hS)
  · have e := i3_lt hrx hry
    rw [i3_zero] at e
    exact e.mp cc
  · have e := i3_lt hrx hry
    rw [i3_zero] at e
    have c2 : ¬ (x < 0) := fun z => cc (e.mpr z)
    omega
theorem gx_icmp_ge (hG : Cx own b mL rt isI d a n0 Q G) {x y o : Int} (hd : decode b pc = .ok (.if_icmp .ge o, 3)) (ht : (pc : Int) + o = (tgt : Int)) (hq : pc + 3 = q) (hrx : R3 x) (hry : R3 y) (kt : y ≤ x → G tgt ls st n h) (kf : x < y → G q ls st n h) : G pc ls (Vi y :: Vi x :: st) n h := by
  obtain ⟨p, l, e, R, s, m, args, below, meth, c, D, K, bb, off, Z, hx, hb, hml, hown, hK, hI, hR, hof, hfin, rfl⟩ := hG
  subst hq
  intro h1 h2 H locs L hL hW hS
  refine lv_icmp_ge hx hb hd ht (fun cc => kt ?_ h1 h2 H locs L hL hW hS) (fun cc => kf ?_ h1 h2 H locs L hL hW hS)
  · have e := i3_le hry hrx
    exact e.mp cc
  · have e := i3_le hry hrx
    have c2 : ¬ (y ≤ x) := fun z => cc (e.mpr z)
    omega
theorem gx_if_ge (hG : Cx own b mL rt isI d a n0 Q G) {x o : Int} (hd : decode b pc = .ok (.ifCond .ge o, 3)) (ht : (pc : Int) + o = (tgt : Int)) (hq : pc + 3 = q) (hrx : R3 x) (kt : 0 ≤ x → G tgt ls st n h) (kf : x < 0 → G q ls st n h) : G pc ls (Vi x :: st) n h := by
  obtain ⟨p, l, e, R, s, m, args, below, meth, c, D, K, bb, off, Z, hx, hb, hml, hown, hK, hI, hR, hof, hfin, rfl⟩ := hG
  subst hq
  intro h1 h2 H locs L hL hW hS
  have hry : R3 0 := by decide
  refine lv_if_ge hx hb hd ht (fun cc => kt ?_ h1 h2 H locs L hL hW hS) (fun cc => kf ?_ h1 h2 H locs L hL hW hS)
  · have e := i3_le hry hrx
    rw [i3_zero] at e
    exact e.mp cc
  · have e := i3_le hry hrx
    rw [i3_zero] at e
    have c2 : ¬ (0 ≤ x) := fun z => cc (e.mpr z)
    omega
theorem gx_icmp_gt (hG : Cx own b mL rt isI d a n0 Q G) {x y o : Int} (hd : decode b pc = .ok (.if_icmp .gt o, 3)) (ht : (pc : Int) + o = (tgt : Int)) (hq : pc + 3 = q) (hrx : R3 x) (hry : R3 y) (kt : y < x → G tgt ls st n h) (kf : x ≤ y → G q ls st n h) : G pc ls (Vi y :: Vi x :: st) n h := by
  obtain ⟨p, l, e, R, s, m, args, below, meth, c, D, K, bb, off, Z, hx, hb, hml, hown, hK, hI, hR, hof, hfin, rfl⟩ := hG
  subst hq
  intro h1 h2 H locs L hL hW hS
  refine lv_icmp_gt hx hb hd ht (fun cc => kt ?_ h1 h2 H locs L hL hW hS) (fun cc => kf ?_ h1 h2 H locs L hL hW hS)
  · have e := i3_lt hry hrx
    exact e.mp cc
  · have e := i3_lt hry hrx
    have c2 : ¬ (y < x) := fun z => cc (e.mpr z)
    omega
theorem gx_if_gt (hG : Cx own b mL rt isI d a n0 Q G) {x o : Int} (hd : decode b pc = .ok (.ifCond .gt o, 3)) (ht : (pc : Int) + o = (tgt : Int)) (hq : pc + 3 = q) (hrx : R3 x) (kt : 0 < x → G tgt ls st n h) (kf : x ≤ 0 → G q ls st n h) : G pc ls (Vi x :: st) n h := by
  obtain ⟨p, l, e, R, s, m, args, below, meth, c, D, K, bb, off, Z, hx, hb, hml, hown, hK, hI, hR, hof, hfin, rfl⟩ := hG
  subst hq
  intro h1 h2 H locs L hL hW hS
  have hry : R3 0 := by decide
  refine lv_if_gt hx hb hd ht (fun cc => kt ?_ h1 h2 H locs L hL hW hS) (fun cc => kf ?_ h1 h2 H locs L hL hW hS)
  · have e := i3_lt hry hrx
    rw [i3_zero] at e
    exact e.mp cc
  · have e := i3_lt hry hrx
    rw [i3_zero] at e
    have c2 : ¬ (0 < x) := fun z => cc (e.mpr z)
    omega
theorem gx_icmp_le (hG : Cx own b mL rt isI d a n0 Q G) {x y o : Int} (hd : decode b pc = .ok (.if_icmp .le o, 3)) (ht : (pc : Int) + o = (tgt : Int)) (hq : pc + 3 = q) (hrx : R3 x) (hry : R3 y) (kt : x ≤ y → G tgt ls st n h) (kf : y < x → G q ls st n h) : G pc ls (Vi y :: Vi x :: st) n h := by
  obtain ⟨p, l, e, R, s, m, args, below, meth, c, D, K, bb, off, Z, hx, hb, hml, hown, hK, hI, hR, hof, hfin, rfl⟩ := hG
  subst hq
  intro h1 h2 H locs L hL hW hS
  refine lv_icmp_le hx hb hd ht (fun cc => kt ?_ h1 h2 H locs L hL hW hS) (fun cc => kf ?_ h1 h2 H locs L hL hW hS)
  · have e := i3_le hrx hry
    exact e.mp cc
  · have e := i3_le hrx hry
    have c2 : ¬ (x ≤ y) := fun z => cc (e.mpr z)
    omega
theorem gx_if_le (hG : Cx own b mL rt isI d a n0 Q G) {x o : Int} (hd : decode b pc = .ok (.ifCond .le o, 3)) (ht : (pc : Int) + o = (tgt : Int)) (hq : pc + 3 = q) (hrx : R3 x) (kt : x ≤ 0 → G tgt ls st n h) (kf : 0 < x → G q ls st n h) : G pc ls (Vi x :: st) n h := by
  obtain ⟨p, l, e, R, s, m, args, below, meth, c, D, K, bb, off, Z, hx, hb, hml, hown, hK, hI, hR, hof, hfin, rfl⟩ := hG
  subst hq
  intro h1 h2 H locs L hL hW hS
  have hry : R3 0 := by decide
  refine lv_if_le hx hb hd ht (fun cc => kt ?_ h1 h2 H locs L hL hW hS) (fun cc => kf ?_ h1 h2 H locs L hL hW hS)
  · have e := i3_le hrx hry
    rw [i3_zero] at e
    exact e.mp cc
  · have e := i3_le hrx hry
    rw [i3_zero] at e
    have c2 : ¬ (x ≤ 0) := fun z => cc (e.mpr z)
    omega
theorem gx_goto (hG : Cx own b mL rt isI d a n0 Q G) {o : Int} (hd : decode b pc = .ok (.goto o, 3)) (ht : (pc : Int) + o = (tgt : Int)) (k : G tgt ls st n h) : G pc ls st n h := by
  obtain ⟨p, l, e, R, s, m, args, below, meth, c, D, K, bb, off, Z, hx, hb, hml, hown, hK, hI, hR, hof, hfin, rfl⟩ := hG
  intro h1 h2 H locs L hL hW hS
  exact lv_goto hx hb hd ht (k h1 h2 H locs L hL hW hS)
theorem gx_tsw (hG : Cx own b mL rt isI d a n0 Q G) {x lo hi df : Int} {offs : Array Int} {len : Nat} (hd : decode b pc = .ok (.tableswitch df lo hi offs, len)) (hrx : R3 x) (hsz : (offs.size : Int) = hi - lo + 1) (ht : (pc : Int) + df = (tgt : Int)) (kd : x < lo ∨ hi < x → G tgt ls st n h)
    (kk : ∀ (i : Nat) (o : Int), offs[i]? = some o → x = lo + i → ∃ t : Nat, (pc : Int) + o = (t : Int) ∧ G t ls st n h) : G pc ls (Vi x :: st) n h := by
  obtain ⟨p, l, e, R, s, m, args, below, meth, c, D, K, bb, off, Z, hx, hb, hml, hown, hK, hI, hR, hof, hfin, rfl⟩ := hG
  intro h1 h2 H locs L hL hW hS
  by_cases hc : x < lo ∨ hi < x
  · exact lv_tableOut hx hb hd (by rw [i3_toInt hrx]; exact hc) ht (kd hc h1 h2 H locs L hL hW hS)
  · have hl : (x - lo).toNat < offs.size := by omega
    obtain ⟨t, ht2, kt⟩ := kk (x - lo).toNat offs[(x - lo).toNat] (Array.getElem?_eq_getElem hl) (by omega)
    exact lv_tableIn hx hb hd (by rw [i3_toInt hrx]; omega) (by rw [i3_toInt hrx]; omega) (by rw [i3_toInt hrx]; exact Array.getElem?_eq_getElem hl) ht2 (kt h1 h2 H locs L hL hW hS)
theorem gx_ireturn (hG : Cx own b mL rt isI d a n0 Q G) {z : Int} (hd : decode b pc = .ok (.ireturn, 1)) (hrt : rt = some .int) (hn : n = n0 + a) (hQ : Q (some (Vi z)) h) : G pc ls [Vi z] n h := by
  obtain ⟨p, l, e, R, s, m, args, below, meth, c, D, K, bb, off, Z, hx, hb, hml, hown, hK, hI, hR, hof, hfin, rfl⟩ := hG
  intro h1 h2 H locs L hL hW hS
  have e1 : n - n0 = a := by omega
  rw [e1]
  exact hfin .ireturn (some (Vi z)) pc L h H locs (Or.inl ⟨hrt, rfl, z, rfl⟩) hd hQ (hn ▸ hW) hS
theorem gx_zreturn (hG : Cx own b mL rt isI d a n0 Q G) {z : Int} (hd : decode b pc = .ok (.ireturn, 1)) (hrt : rt = some .boolean) (hn : n = n0 + a) (hz : z = 0 ∨ z = 1) (hQ : Q (some (Vi z)) h) : G pc ls [Vi z] n h := by
  obtain ⟨p, l, e, R, s, m, args, below, meth, c, D, K, bb, off, Z, hx, hb, hml, hown, hK, hI, hR, hof, hfin, rfl⟩ := hG
  intro h1 h2 H locs L hL hW hS
  have e1 : n - n0 = a := by omega
  rw [e1]
  exact hfin .ireturn (some (Vi z)) pc L h H locs (Or.inr (Or.inl ⟨hrt, rfl, z, hz, rfl⟩)) hd hQ (hn ▸ hW) hS
theorem gx_lreturn (hG : Cx own b mL rt isI d a n0 Q G) {z : Int} (hd : decode b pc = .ok (.lreturn, 1)) (hrt : rt = some .long) (hn : n = n0 + a) (hQ : Q (some (Vj z)) h) : G pc ls [Vj z] n h := by
  obtain ⟨p, l, e, R, s, m, args, below, meth, c, D, K, bb, off, Z, hx, hb, hml, hown, hK, hI, hR, hof, hfin, rfl⟩ := hG
  intro h1 h2 H locs L hL hW hS
  have e1 : n - n0 = a := by omega
  rw [e1]
  exact hfin .lreturn (some (Vj z)) pc L h H locs (Or.inr (Or.inr (Or.inl ⟨hrt, rfl, z, rfl⟩))) hd hQ (hn ▸ hW) hS
theorem gx_return (hG : Cx own b mL rt isI d a n0 Q G) (hd : decode b pc = .ok (.return_, 1)) (hrt : rt = none) (hn : n = n0 + a) (hQ : Q (none) h) : G pc ls [] n h := by
  obtain ⟨p, l, e, R, s, m, args, below, meth, c, D, K, bb, off, Z, hx, hb, hml, hown, hK, hI, hR, hof, hfin, rfl⟩ := hG
  intro h1 h2 H locs L hL hW hS
  have e1 : n - n0 = a := by omega
  rw [e1]
  exact hfin .return_ (none) pc L h H locs (Or.inr (Or.inr (Or.inr (Or.inl ⟨hrt, rfl, rfl⟩)))) hd hQ (hn ▸ hW) hS
theorem gx_areturn (hG : Cx own b mL rt isI d a n0 Q G) {z : Int} (hd : decode b pc = .ok (.areturn, 1)) (hrt : ∃ C, rt = some (.object C)) (hn : n = n0 + a) (hQ : Q (some (Vr z)) h) : G pc ls [Vr z] n h := by
  obtain ⟨p, l, e, R, s, m, args, below, meth, c, D, K, bb, off, Z, hx, hb, hml, hown, hK, hI, hR, hof, hfin, rfl⟩ := hG
  intro h1 h2 H locs L hL hW hS
  have e1 : n - n0 = a := by omega
  rw [e1]
  exact hfin .areturn (some (Vr z)) pc L h H locs (Or.inr (Or.inr (Or.inr (Or.inr ⟨hrt, rfl, z, rfl⟩)))) hd hQ (hn ▸ hW) hS
end GX
end
section
/-! part 05: fields, arrays, calls, new cells, over the layer of part 03 -/
theorem Wd.at {bb off : Nat} {D : va_G} {K : Nat → ClassId} {n : Nat} {h : AH} {H : Heap} {x : Int} {c : AE} (hW : Wd bb off D K n h H) (hc : h x = some c) : 0 ≤ x ∧ (wld bb off K n h)[x.toNat]? = some (x.toNat + off, cnv bb off K (some c)) ∧ ∃ k : Nat, k < n ∧ x = k := by
  obtain ⟨h0, h1⟩ := hW.2.2.lt hc
  obtain ⟨k, rfl⟩ := Int.eq_ofNat_of_zero_le h0
  have hk : k < n := by omega
  refine ⟨h0, ?_, k, hk, rfl⟩
  rw [show ((k : Int)).toNat = k from rfl, wld_get hk, hc]
theorem Wd.put {bb off : Nat} {D : va_G} {K : Nat → ClassId} {n : Nat} {h : AH} {H H1 : Heap} {x : Int} {c c1 : AE} (hW : Wd bb off D K n h H) (hc : h x = some c) (hz : H1.size = H.size) (hP : va_P D clsL ((wld bb off K n h).set x.toNat (x.toNat + off, cnv bb off K (some c1))) H1) : Wd bb off D K n (hset h x (some c1)) H1 := by
  obtain ⟨h0, -, k, hk, rfl⟩ := hW.at hc
  rw [show ((k : Int)).toNat = k from rfl, wld_set hk rfl] at hP
  exact ⟨hz.trans hW.1, hP, hW.2.2.set hc⟩
/-- the heap's size from the frame -/
theorem va_S.le {A : Nat → Prop} {H0 H : Heap} {locs : List Loc} (h : va_S A H0 H locs) : H0.size ≤ H.size := h.1
def Fld (own : String) (idx ci k : Nat) (ty : FieldType) (fin wr : Bool) : Prop :=
  ∃ (C : String) (T : u_T) (N : Nat) (tys : Nat → FieldType), clsL[ci]? = some (C, T, N) ∧ k < N ∧ (∀ w ∈ u_ws C T N, w ∈ lw_tbl) ∧ (∀ j, j < N → parseFieldDescriptor (T j).2.2.1 = some (tys j)) ∧ (∀ a, a < N → ∀ b, b < N → a ≠ b → (T a).2.1 ≠ (T b).2.1) ∧ tys k = ty ∧ (T k).2.2.2 = fin ∧ (wr = true → fin = true → (T k).1 = own) ∧ Cond.fieldLink own idx (T k).1 (T k).2.1 (T k).2.2.1 ∈ lw_tbl
theorem gtb_us {C : String} {T : u_T} {N : Nat} (h : ∀ w ∈ u_ws C T N, w ∈ lw_tbl) : ∀ w ∈ u_ws C T N, w ∈ gtb := fun w hw => gtb_in (h w hw) (by
  obtain ⟨k, -, rfl⟩ := List.mem_map.mp hw
  unfold u_lay
  split <;> rfl)
def vfit (ty : FieldType) (v : Value) : Prop := ∀ bb off : Nat, narrow ty (rl bb off v) = rl bb off v ∧ fits ty (rl bb off v) = true
theorem vfit_i {z : Int} : vfit .int (Vi z) := fun _ _ => ⟨rfl, rfl⟩
theorem vfit_l {z : Int} : vfit .long (Vj z) := fun _ _ => ⟨rfl, rfl⟩
theorem vfit_z0 : vfit .boolean (Vi 0) := fun _ _ => ⟨rfl, rfl⟩
theorem vfit_z1 : vfit .boolean (Vi 1) := fun _ _ => ⟨rfl, rfl⟩
theorem vfit_z {z : Int} (h : z = 0 ∨ z = 1) : vfit .boolean (Vi z) := by rcases h with rfl | rfl; exact vfit_z0; exact vfit_z1
theorem vfit_o {C : String} {a : Int} : vfit (.object C) (Vr a) := fun bb off => by obtain ⟨x, hx⟩ := rl_ref bb off a; rw [hx]; exact ⟨rfl, rfl⟩
theorem vfit_a {t : FieldType} {a : Int} : vfit (.array t) (Vr a) := fun bb off => by obtain ⟨x, hx⟩ := rl_ref bb off a; rw [hx]; exact ⟨rfl, rfl⟩
section GH
variable {own : String} {b : ByteArray} {mL : Nat} {rt : Option FieldType} {isI : Bool} {d a n0 : Nat} {Q : Option Value → AH → Prop} {G : Nat → List (Option Value) → List Value → Nat → AH → Prop}
variable {pc q tgt : Nat} {st : List Value} {ls : List (Option Value)} {n : Nat} {h : AH}
theorem gx_get (hG : Cx own b mL rt isI d a n0 Q G) {idx ci k : Nat} {ty : FieldType} {fin wr : Bool} (hF : Fld own idx ci k ty fin wr) {x : Int} {fs : List Value} {v : Value} (hc : h x = cO ci fs) (hv : fs[k]? = some v) (hd : decode b pc = .ok (.getfield idx, 3)) (hq : pc + 3 = q) (kk : G q ls (v :: st) n h) : G pc ls (Vr x :: st) n h := by
  obtain ⟨p, l, e, R, s, m, args, below, meth, c, D, K, bb, off, Z, hx, hb, hml, hown, hK, hI, hR, hof, hfin, rfl⟩ := hG
  subst hq
  intro h1 h2 H locs L hL hW hS
  obtain ⟨C, T, N, tys, f1, f2, f3, f4, f5, rfl, f7, f8, f9⟩ := hF
  obtain ⟨h0, he, -⟩ := hW.at hc
  rw [List.map_cons, rl_r h0]
  exact va_get (D := D) (v := rl bb off v) hx hb (fun w hw => hK.2.2 _ w hw) (gtb_us f3) hown hK.1 hW.2.1 x.toNat he f1 k f2 (hK.2.2 _ _ (gtb_in f9 rfl)) (fun _ h9 => h9) (by rw [List.getElem?_map, hv]; rfl) hd (kk h1 h2 H locs L hL hW hS)
/-- a cell is written -/
theorem Wd.write {bb off : Nat} {D : va_G} {K : Nat → ClassId} {n : Nat} {h : AH} {H H1 : Heap} {x : Int} {c c1 : AE} (hW : Wd bb off D K n h H) (hc : h x = some c) (hz : H1.size = H.size) (he : va_at D clsL (x.toNat + off, cnv bb off K (some c1)) H1) (oq : ∀ q : Nat, q ≠ x.toNat + off → H1[q]? = H[q]?) : Wd bb off D K n (hset h x (some c1)) H1 := by
  obtain ⟨-, h1, -⟩ := hW.at hc
  exact hW.put hc hz (hW.2.1.set wld_D h1 he oq)
theorem gx_put (hG : Cx own b mL rt isI d a n0 Q G) {idx ci k : Nat} {ty : FieldType} {fin : Bool} (hF : Fld own idx ci k ty fin true) {x : Int} {fs : List Value} {v : Value} (hc : h x = cO ci fs) (hk : k < fs.length) (hv : vfit ty v) (hfi : fin = false ∨ isI = true) (hd : decode b pc = .ok (.putfield idx, 3)) (hq : pc + 3 = q) (kk : G q ls st n (hset h x (cO ci (fs.set k v)))) : G pc ls (v :: Vr x :: st) n h := by
  obtain ⟨p, l, e, R, s, m, args, below, meth, c, D, K, bb, off, Z, hx, hb, hml, hown, hK, hI, hR, hof, hfin, rfl⟩ := hG
  subst hq
  intro h1 h2 H locs L hL hW hS
  obtain ⟨C, T, N, tys, f1, f2, f3, f4, f5, rfl, f7, f8, f9⟩ := hF
  obtain ⟨h0, he, -⟩ := hW.at hc
  rw [List.map_cons, List.map_cons, rl_r h0]
  have hts : ∀ w ∈ gtb, w.before args s = true := fun w hw => hK.2.2 _ w hw
  have hin := gtb_us f3
  have hap := va_apart (own := own) hts hin tys f4 f5 hK.1 f1
  obtain ⟨r, g1, cell, q1, q2, q3, q4⟩ := hW.2.1 _ _ he
  have hr : r = (C, T, N) := Option.some.inj (g1.symm.trans f1)
  subst hr
  obtain ⟨hSl, hfc, kC, hkC, hkind⟩ := hK.1.1 ci _ f1
  obtain ⟨cf, kf, fi, f, hi, hsl⟩ := hSl k f2
  have hlay := hts _ (hin _ (u_in_lay f2))
  have hst := (u_facts hfc hkC (u_lays hts hin f2) hi).1
  have hlen : k < (fs.map (rl bb off)).length := by simpa using hk
  have e0 : (fs.map (rl bb off)).set k (rl bb off v) = (fs.set k v).map (rl bb off) := (List.map_set).symm
  have after : ∀ H' : Heap, H'[x.toNat + off]? = some (cell.setSlot f.slot (rl bb off v)) → H'.size = H.size → (∀ q, q ≠ x.toNat + off → H'[q]? = H[q]?) → W p l e R s m args below meth c H' (locs ++ [⟨x.toNat + off, f.slot⟩]) (n - n0) (16500 * (n - n0)) Z (F0 m (pc + 3) L (st.map (rl bb off))) := by
    intro H' e1 e2 e3
    have hA : off ≤ x.toNat + off := by omega
    refine kk h1 h2 H' _ L hL (hW.write hc e2 ?_ e3) (hS.put e2 e3 hA)
    rw [hsl] at e1
    show va_at D clsL (x.toNat + off, .inr (ci, (fs.set k v).map (rl bb off))) H'
    rw [← e0]
    exact ⟨_, f1, t_OB.to (V := updV (vp_V (fs.map (rl bb off))) k (rl bb off v)) ⟨_, e1, q2, q3, t_set q4 hap f2 _⟩ (fun j _ => vp_updV_set hlen _ j)⟩
  unfold u_lay at hlay
  cases hfv : (T k).2.2.2 with
  | false =>
    rw [hfv, if_neg (by decide)] at hlay
    have h6 := u_store hfc hkC hkind hlay hi (f4 k f2) (hv bb off).1 (hv bb off).2
    exact W.putK hx hb (f := f) ⟨hown, hK.2.2 _ _ (gtb_in f9 rfl), ⟨_, _, _, hi⟩, hst⟩ (by rw [q2]; exact h6) q1 q3 (by rw [hsl]; exact k2_hasslot (q4 k f2)) rfl rfl hd after
  | true =>
    rw [if_pos hfv] at hlay
    have hfe : fin = true := by rw [← f7, hfv]
    have hin2 : meth.name = "<init>" := hI (by
      rcases hfi with z | z
      · rw [hfe] at z; cases z
      · exact z)
    have hcf : m.cls = cf := by
      obtain ⟨_, _, c', _, _, _, -, -, hf', -, -, -, hown2, -⟩ := Cond.laysFinal_spec hlay
      have e1 : c' = cf := by have := hi.symm.trans hf'; simp at this; exact this.1.symm
      rw [f8 rfl hfe] at hown2
      rw [← e1]; exact Option.some.inj (hown.symm.trans hown2)
    have h6 := u_fits hfc hkC hkind (Or.inr hlay) hi (f4 k f2) (hv bb off).1 (hv bb off).2
    exact W.putFinK hx hb hown (hK.2.2 _ _ (gtb_in f9 rfl)) hi hst hcf hin2 (by rw [q2]; exact h6) q1 q3 (by rw [hsl]; exact k2_hasslot (q4 k f2)) rfl rfl hd after
/-! arrays -/
theorem arr_at {bb off : Nat} {D : va_G} {K : Nat → ClassId} {n : Nat} {h : AH} {H : Heap} {x : Int} {t N : Nat} {F : Int → Int} (hW : Wd bb off D K n h H) (hc : h x = cA t N F) : H[x.toNat + off]? = some (vp_cell (K t) (N, cnt off t F)) := by
  obtain ⟨h0, he, -⟩ := hW.at hc
  exact hW.2.1 _ _ he
theorem arr0 {c : ClassId} {off N : Nat} {F : Int → Int} : vp_cell c (N, cnt off 0 F) = arrV c N (fun j : Nat => .int (Int32.ofInt (F j))) := rfl
theorem arr1 {c : ClassId} {off N : Nat} {F : Int → Int} : vp_cell c (N, cnt off 1 F) = arrV c N (fun j : Nat => .long (Int64.ofInt (F j))) := rfl
theorem arr2 {c : ClassId} {off N : Nat} {F : Int → Int} : vp_cell c (N, cnt off 2 F) = arrV c N (fun j : Nat => .int (Int32.ofInt (F j))) := rfl
theorem arr3 {c : ClassId} {off N : Nat} {F : Int → Int} : vp_cell c (N, cnt off 3 F) = arrV c N (fun j : Nat => .int (Int32.ofInt (F j))) := rfl
theorem arr_up {c : ClassId} {N k : Nat} {F : Int → Int} {i z : Int} {g : Int → Value} (hk : (k : Int) = i) : (arrV c N (fun j : Nat => g (F j))).setSlot k (g z) = arrV c N (fun j : Nat => g (up F i z j)) := by
  rw [arrV_store]
  congr 1
  funext j
  unfold updV up
  by_cases e : j = k
  · subst e
    rw [if_pos rfl, if_pos hk]
  · rw [if_neg e, if_neg (by omega)]
theorem gx_iald (hG : Cx own b mL rt isI d a n0 Q G) {x i : Int} {N : Nat} {F : Int → Int} (hc : h x = cA 0 N F) (hi0 : 0 ≤ i) (hi1 : i < N) (hN : N ≤ 2147483647) (hd : decode b pc = .ok (.iaload, 1)) (hq : pc + 1 = q) (kk : G q ls (Vi (F i) :: st) n h) : G pc ls (Vi i :: Vr x :: st) n h := by
  obtain ⟨p, l, e, R, s, m, args, below, meth, c, D, K, bb, off, Z, hx, hb, hml, hown, hK, hI, hR, hof, hfin, rfl⟩ := hG
  subst hq
  intro h1 h2 H locs L hL hW hS
  obtain ⟨h0, he, -⟩ := hW.at hc
  rw [List.map_cons, List.map_cons, rl_r h0]
  refine va_iald (cA := K 0) (n := N) (f := fun j : Nat => Int32.ofInt (F j)) hx hb hK.1 hW.2.1 x.toNat 0 he (tysL_get (by decide)) (i3_in hi0 hi1 hN) hd ?_
  have e1 := i3_clamp hi0 (by omega)
  simp only [e1]
  exact kk h1 h2 H locs L hL hW hS
theorem gx_lald (hG : Cx own b mL rt isI d a n0 Q G) {x i : Int} {N : Nat} {F : Int → Int} (hc : h x = cA 1 N F) (hi0 : 0 ≤ i) (hi1 : i < N) (hN : N ≤ 2147483647) (hd : decode b pc = .ok (.laload, 1)) (hq : pc + 1 = q) (kk : G q ls (Vj (F i) :: st) n h) : G pc ls (Vi i :: Vr x :: st) n h := by
  obtain ⟨p, l, e, R, s, m, args, below, meth, c, D, K, bb, off, Z, hx, hb, hml, hown, hK, hI, hR, hof, hfin, rfl⟩ := hG
  subst hq
  intro h1 h2 H locs L hL hW hS
  obtain ⟨h0, he, -⟩ := hW.at hc
  rw [List.map_cons, List.map_cons, rl_r h0]
  refine va_lald (cA := K 1) (n := N) (f := fun j : Nat => Int64.ofInt (F j)) hx hb hK.1 hW.2.1 x.toNat 1 he (tysL_get (by decide)) (i3_in hi0 hi1 hN) hd ?_
  have e1 := i3_clamp hi0 (by omega)
  simp only [e1]
  exact kk h1 h2 H locs L hL hW hS
theorem gx_bald (hG : Cx own b mL rt isI d a n0 Q G) {x i : Int} {N : Nat} {F : Int → Int} (hc : h x = cA 2 N F) (hi0 : 0 ≤ i) (hi1 : i < N) (hN : N ≤ 2147483647) (hd : decode b pc = .ok (.baload, 1)) (hq : pc + 1 = q) (kk : G q ls (Vi (F i) :: st) n h) : G pc ls (Vi i :: Vr x :: st) n h := by
  obtain ⟨p, l, e, R, s, m, args, below, meth, c, D, K, bb, off, Z, hx, hb, hml, hown, hK, hI, hR, hof, hfin, rfl⟩ := hG
  subst hq
  intro h1 h2 H locs L hL hW hS
  obtain ⟨h0, he, -⟩ := hW.at hc
  rw [List.map_cons, List.map_cons, rl_r h0]
  refine va_bald (cA := K 2) (n := N) (f := fun j : Nat => Int32.ofInt (F j)) hx hb hK.1 hW.2.1 x.toNat 2 he (tysL_get (by decide)) (i3_in hi0 hi1 hN) hd ?_
  have e1 := i3_clamp hi0 (by omega)
  simp only [e1]
  exact kk h1 h2 H locs L hL hW hS
theorem gx_zald (hG : Cx own b mL rt isI d a n0 Q G) {x i : Int} {N : Nat} {F : Int → Int} (hc : h x = cA 3 N F) (hi0 : 0 ≤ i) (hi1 : i < N) (hN : N ≤ 2147483647) (hd : decode b pc = .ok (.baload, 1)) (hq : pc + 1 = q) (kk : G q ls (Vi (F i) :: st) n h) : G pc ls (Vi i :: Vr x :: st) n h := by
  obtain ⟨p, l, e, R, s, m, args, below, meth, c, D, K, bb, off, Z, hx, hb, hml, hown, hK, hI, hR, hof, hfin, rfl⟩ := hG
  subst hq
  intro h1 h2 H locs L hL hW hS
  obtain ⟨h0, he, -⟩ := hW.at hc
  rw [List.map_cons, List.map_cons, rl_r h0]
  refine va_zald (cA := K 3) (n := N) (f := fun j : Nat => Int32.ofInt (F j)) hx hb hK.1 hW.2.1 x.toNat 3 he (tysL_get (by decide)) (i3_in hi0 hi1 hN) hd ?_
  have e1 := i3_clamp hi0 (by omega)
  simp only [e1]
  exact kk h1 h2 H locs L hL hW hS
theorem gx_aald (hG : Cx own b mL rt isI d a n0 Q G) {x i : Int} {t N : Nat} {F : Int → Int} (hc : h x = cA t N F) (ht : 4 ≤ t ∧ t < 8) (hi0 : 0 ≤ i) (hi1 : i < N) (hN : N ≤ 2147483647) (hv : 0 ≤ F i) (hd : decode b pc = .ok (.aaload, 1)) (hq : pc + 1 = q) (kk : G q ls (Vr (F i) :: st) n h) : G pc ls (Vi i :: Vr x :: st) n h := by
  obtain ⟨p, l, e, R, s, m, args, below, meth, c, D, K, bb, off, Z, hx, hb, hml, hown, hK, hI, hR, hof, hfin, rfl⟩ := hG
  subst hq
  intro h1 h2 H locs L hL hW hS
  obtain ⟨h0, he, -⟩ := hW.at hc
  rw [List.map_cons, List.map_cons, rl_r h0]
  have hcell := arr_at hW hc
  have hcn : cnt off t F = .inr (.inr (.inr (.inr (fun j : Nat => if F j < 0 then none else some ((F j).toNat + off))))) := by
    unfold cnt
    rw [if_neg (by omega), if_neg (by omega)]
  rw [hcn] at hcell
  have e1 := i3_clamp hi0 (by omega)
  have hlt : (Int32.ofInt i).toNatClampNeg < N := by omega
  refine W.aald (v := .ref ((F i).toNat + off)) (ty := tyC t) hx hb hcell ((hK.1.2 t _ (tysL_get ht.2)).1 N (fun j => va_rf _)) ?_ (fun q => by cases q) (by show ¬ (_ ∨ (arrV _ _ _).slots.size ≤ _); rw [arrV_size]; exact i3_in hi0 hi1 hN) ?_ rfl rfl hd ?_
  · rcases (show t = 4 ∨ t = 5 ∨ t = 6 ∨ t = 7 by omega) with rfl | rfl | rfl | rfl <;> rfl
  · show (arrV _ _ _).slots[_]? = _
    rw [arrV_read _ _ hlt]
    simp only [e1]
    rw [if_neg (by omega)]
    rfl
  · have key := kk h1 h2 H locs L hL hW hS
    rw [List.map_cons, rl_r hv] at key
    exact key
theorem gx_iast (hG : Cx own b mL rt isI d a n0 Q G) {x i z : Int} {N : Nat} {F : Int → Int} (hc : h x = cA 0 N F) (hi0 : 0 ≤ i) (hi1 : i < N) (hN : N ≤ 2147483647) (hd : decode b pc = .ok (.iastore, 1)) (hq : pc + 1 = q) (kk : G q ls st n (hset h x (cA 0 N (up F i z)))) : G pc ls (Vi z :: Vi i :: Vr x :: st) n h := by
  obtain ⟨p, l, e, R, s, m, args, below, meth, c, D, K, bb, off, Z, hx, hb, hml, hown, hK, hI, hR, hof, hfin, rfl⟩ := hG
  subst hq
  intro h1 h2 H locs L hL hW hS
  obtain ⟨h0, he, -⟩ := hW.at hc
  rw [List.map_cons, List.map_cons, List.map_cons, rl_r h0]
  refine W.iast hx hb (hW.2.1 _ _ he) ((hK.1.2 0 _ (tysL_get (by decide))).1 N (fun j => Value.int _)) (fun q => by cases q) (by show ¬ (_ ∨ (arrV _ _ _).slots.size ≤ _); rw [arrV_size]; exact i3_in hi0 hi1 hN) rfl rfl hd fun H1 e1 z1 oq => ?_
  have hA : off ≤ x.toNat + off := by omega
  refine kk h1 h2 H1 _ L hL (hW.write hc z1 ?_ oq) (hS.put z1 oq hA)
  show H1[x.toNat + off]? = some (vp_cell (K 0) (N, cnt off 0 (up F i z)))
  rw [e1]
  exact congrArg some (arr_up (g := fun w => .int (Int32.ofInt w)) (i3_clamp hi0 (by omega)))
theorem gx_last (hG : Cx own b mL rt isI d a n0 Q G) {x i z : Int} {N : Nat} {F : Int → Int} (hc : h x = cA 1 N F) (hi0 : 0 ≤ i) (hi1 : i < N) (hN : N ≤ 2147483647) (hd : decode b pc = .ok (.lastore, 1)) (hq : pc + 1 = q) (kk : G q ls st n (hset h x (cA 1 N (up F i z)))) : G pc ls (Vj z :: Vi i :: Vr x :: st) n h := by
  obtain ⟨p, l, e, R, s, m, args, below, meth, c, D, K, bb, off, Z, hx, hb, hml, hown, hK, hI, hR, hof, hfin, rfl⟩ := hG
  subst hq
  intro h1 h2 H locs L hL hW hS
  obtain ⟨h0, he, -⟩ := hW.at hc
  rw [List.map_cons, List.map_cons, List.map_cons, rl_r h0]
  refine W.last hx hb (hW.2.1 _ _ he) ((hK.1.2 1 _ (tysL_get (by decide))).1 N (fun j => Value.long _)) (fun q => by cases q) (by show ¬ (_ ∨ (arrV _ _ _).slots.size ≤ _); rw [arrV_size]; exact i3_in hi0 hi1 hN) rfl rfl hd fun H1 e1 z1 oq => ?_
  have hA : off ≤ x.toNat + off := by omega
  refine kk h1 h2 H1 _ L hL (hW.write hc z1 ?_ oq) (hS.put z1 oq hA)
  show H1[x.toNat + off]? = some (vp_cell (K 1) (N, cnt off 1 (up F i z)))
  rw [e1]
  exact congrArg some (arr_up (g := fun w => .long (Int64.ofInt w)) (i3_clamp hi0 (by omega)))
theorem gx_bast (hG : Cx own b mL rt isI d a n0 Q G) {x i z : Int} {N : Nat} {F : Int → Int} (hc : h x = cA 2 N F) (hi0 : 0 ≤ i) (hi1 : i < N) (hN : N ≤ 2147483647) (hz : narrow .byte (.int (Int32.ofInt z)) = .int (Int32.ofInt z)) (hd : decode b pc = .ok (.bastore, 1)) (hq : pc + 1 = q) (kk : G q ls st n (hset h x (cA 2 N (up F i z)))) : G pc ls (Vi z :: Vi i :: Vr x :: st) n h := by
  obtain ⟨p, l, e, R, s, m, args, below, meth, c, D, K, bb, off, Z, hx, hb, hml, hown, hK, hI, hR, hof, hfin, rfl⟩ := hG
  subst hq
  intro h1 h2 H locs L hL hW hS
  obtain ⟨h0, he, -⟩ := hW.at hc
  rw [List.map_cons, List.map_cons, List.map_cons, rl_r h0]
  refine W.bast hx hb (hW.2.1 _ _ he) ((hK.1.2 2 _ (tysL_get (by decide))).1 N (fun j => Value.int _)) (fun q => by cases q) (by show ¬ (_ ∨ (arrV _ _ _).slots.size ≤ _); rw [arrV_size]; exact i3_in hi0 hi1 hN) rfl rfl hd fun H1 e1 z1 oq => ?_
  have hA : off ≤ x.toNat + off := by omega
  refine kk h1 h2 H1 _ L hL (hW.write hc z1 ?_ oq) (hS.put z1 oq hA)
  show H1[x.toNat + off]? = some (vp_cell (K 2) (N, cnt off 2 (up F i z)))
  rw [e1]
  rw [hz]
  exact congrArg some (arr_up (g := fun w => .int (Int32.ofInt w)) (i3_clamp hi0 (by omega)))
theorem gx_zast (hG : Cx own b mL rt isI d a n0 Q G) {x i z : Int} {N : Nat} {F : Int → Int} (hc : h x = cA 3 N F) (hi0 : 0 ≤ i) (hi1 : i < N) (hN : N ≤ 2147483647) (hz : z = 0 ∨ z = 1) (hd : decode b pc = .ok (.bastore, 1)) (hq : pc + 1 = q) (kk : G q ls st n (hset h x (cA 3 N (up F i z)))) : G pc ls (Vi z :: Vi i :: Vr x :: st) n h := by
  obtain ⟨p, l, e, R, s, m, args, below, meth, c, D, K, bb, off, Z, hx, hb, hml, hown, hK, hI, hR, hof, hfin, rfl⟩ := hG
  subst hq
  intro h1 h2 H locs L hL hW hS
  obtain ⟨h0, he, -⟩ := hW.at hc
  rw [List.map_cons, List.map_cons, List.map_cons, rl_r h0]
  refine W.zast hx hb (hW.2.1 _ _ he) ((hK.1.2 3 _ (tysL_get (by decide))).1 N (fun j => Value.int _)) (fun q => by cases q) (by show ¬ (_ ∨ (arrV _ _ _).slots.size ≤ _); rw [arrV_size]; exact i3_in hi0 hi1 hN) rfl rfl hd fun H1 e1 z1 oq => ?_
  have hA : off ≤ x.toNat + off := by omega
  refine kk h1 h2 H1 _ L hL (hW.write hc z1 ?_ oq) (hS.put z1 oq hA)
  show H1[x.toNat + off]? = some (vp_cell (K 3) (N, cnt off 3 (up F i z)))
  rw [e1]
  rw [show narrow .boolean (.int (Int32.ofInt z)) = .int (Int32.ofInt z) by rcases hz with rfl | rfl <;> rfl]
  exact congrArg some (arr_up (g := fun w => .int (Int32.ofInt w)) (i3_clamp hi0 (by omega)))
theorem gx_alen (hG : Cx own b mL rt isI d a n0 Q G) {x : Int} {t N : Nat} {F : Int → Int} (hc : h x = cA t N F) (ht : t < 8) (hd : decode b pc = .ok (.arraylength, 1)) (hq : pc + 1 = q) (kk : G q ls (Vi N :: st) n h) : G pc ls (Vr x :: st) n h := by
  obtain ⟨p, l, e, R, s, m, args, below, meth, c, D, K, bb, off, Z, hx, hb, hml, hown, hK, hI, hR, hof, hfin, rfl⟩ := hG
  subst hq
  intro h1 h2 H locs L hL hW hS
  obtain ⟨h0, he, -⟩ := hW.at hc
  rw [List.map_cons, rl_r h0]
  exact va_alen (v := Int32.ofInt (N : Int)) hx hb hK.1 hW.2.1 x.toNat t he (tysL_get ht) (Int32.ofInt_eq_ofNat (n := N)).symm hd (kk h1 h2 H locs L hL hW hS)
end GH
end
section
/-! part 06: calls -/
theorem EvP_blind {bb off : Nat} {D : va_G} {K : Nat → ClassId} {vs : List Value} {n : Nat} {h : AH} : FrameBlind (EvP bb off D K vs n h) := fun a U g mk hh => ⟨hh.1, hh.2.1, KK.warm (U := U.calling g mk a) (State.WarmedH.refl U) hh.2.2⟩
theorem run_W {p : Program} {l : Launch} {e : Env} {R : Room} {s : State} {m : MethodId} {args avs : Array Value} {below : List Frame} {meth : Method} {c : Code} {D : va_G} {K : Nat → ClassId} {bb off a' n' : Nat} {Z : State → Prop} {H : Heap} {locs : List Loc} {cells slots pc : Nat} {L : Array Slot} {rest st0 : List Value} {Q' : Option Value → AH → Prop}
    (hr : va_Run p l e R s m args below meth c H locs cells slots a' (16500 * a') (F0 m pc L st0) rest (EvQ bb off D K n' Q' avs) (fun q => off ≤ q)) (hof : off ≤ s.heap.size) (hS : va_S (fun q => off ≤ q) s.heap H locs)
    (kk : ∀ (v : Option Value) (h' : AH) (H1 : Heap) (locs1 : List Loc), Q' v h' → Wd bb off D K n' h' H1 → va_S (fun q => off ≤ q) s.heap H1 locs1 → W p l e R s m args below meth c H1 locs1 (cells + a') (slots + 16500 * a') Z (F0 m (pc + 3) L ((v.map (rl bb off)).toList ++ rest))) :
    W p l e R s m args below meth c H locs cells slots Z (F0 m pc L st0) := by
  intro T hT X
  obtain ⟨v, st₀, t, T', L1, h0, X', hL, e1, e2, ⟨⟨v', h', hv, hQ, hW⟩, hz, hk⟩, st⟩ := hr T hT X
  cases hv
  rw [h0] at hz hk
  have hS1 : va_S (fun q => off ≤ q) s.heap T'.heap (locs ++ L1) := by
    refine ⟨Nat.le_trans hS.1 (by rw [e1]; exact hz), fun q g1 g2 => ?_, fun q hq => ?_⟩
    · rw [e1, hk q (Nat.lt_of_lt_of_le g1 hS.1) g2]
      exact hS.2.1 q g1 g2
    · rcases List.mem_append.mp hq with z | z
      · exact hS.2.2 q z
      · exact hL q z
  obtain ⟨t2, a1, b1⟩ := kk v' h' T'.heap (locs ++ L1) hQ (by rw [e1]; exact hW) hS1 T' rfl X'
  exact ⟨t2, st t2 a1, b1⟩
/-- what the tables must say of a call -/
def LkC (y : MethodName) (b' : ByteArray) (mL' : Nat) (rt' : Option FieldType) (np : Nat) : Prop :=
  (y.cls ≠ "java/lang/invoke/MethodHandle" ∧ y.cls ≠ "java/lang/invoke/VarHandle" ∧ (parseMethodDescriptor y.desc).map (fun d => d.parameters.length) = some np) ∧ Cond.code y b' mL' rt' ∈ lw_tbl ∧ Cond.initialized y.cls ∈ lw_tbl ∧ mL' ≤ 21
def LkV (own : String) (idx : Nat) (y : MethodName) : Prop := Cond.methodLink own idx y ∈ lw_tbl ∧ Cond.instanceMethod y ∈ lw_tbl ∧ Cond.selects y.cls y y ∈ lw_tbl
def LkS (own : String) (idx : Nat) (y : MethodName) : Prop := Cond.methodLink own idx y ∈ lw_tbl ∧ Cond.static y ∈ lw_tbl
def LkN (own : String) (idx : Nat) (y : MethodName) (host : String) : Prop := Cond.methodLinkNest own idx y host ∈ lw_tbl
theorem code_good (y : MethodName) (b' : ByteArray) (mL' : Nat) (rt' : Option FieldType) : keptWord (.code y b' mL' rt') = true := rfl
theorem st_cat {bb off : Nat} {st : List Value} (h : (st.map fun v => v.category).sum ≤ 8) : ((st.map (rl bb off)).map fun v => v.category).sum ≤ 8 := by
  rw [List.map_map]
  have e : (fun (v : Value) => v.category) ∘ rl bb off = fun v => v.category := funext fun v => rl_cat v
  rw [e]
  exact h
theorem rl_app {bb off : Nat} {v : Option Value} {st : List Value} : (v.toList ++ st).map (rl bb off) = (v.map (rl bb off)).toList ++ st.map (rl bb off) := by
  cases v <;> rfl
theorem rl_rev {bb off : Nat} {As st : List Value} : (As.reverse ++ st).map (rl bb off) = (As.map (rl bb off)).reverse ++ st.map (rl bb off) := by
  rw [List.map_append, List.map_reverse]
section GC
variable {own : String} {b : ByteArray} {mL : Nat} {rt : Option FieldType} {isI : Bool} {d a n0 : Nat} {Q : Option Value → AH → Prop} {G : Nat → List (Option Value) → List Value → Nat → AH → Prop}
variable {pc q tgt : Nat} {st : List Value} {ls : List (Option Value)} {n : Nat} {h : AH}
theorem ws_ok {s : State} {D : va_G} {K : Nat → ClassId} (hK : KK D K s) {y : MethodName} {b' : ByteArray} {mL' : Nat} {rt' : Option FieldType} (hc : Cond.code y b' mL' rt' ∈ lw_tbl) : ∀ w ∈ ([.code y b' mL' rt'] : List Cond), ∀ (a' : Array Value) (U : State), s.WarmedH U.vm → w.before a' U = true := fun w hw a' U hW => by
  rw [List.mem_singleton.mp hw]
  exact (hK.warm hW).2.2 a' _ (gtb_in hc rfl)
theorem recv_of_Wd {bb off : Nat} {D : va_G} {K : Nat → ClassId} {s : State} (hK : KK D K s) {H : Heap} (hW : Wd bb off D K n h H) {x : Int} {ci : Nat} {fs : List Value} {C : String} (hc : h x = cO ci fs) (hci : (clsL[ci]?).map (fun r => r.1) = some C) : ∃ cell : Cell, H[x.toNat + off]? = some cell ∧ cell.vm.isStatics = false ∧ s.vm.findClass C = some cell.cls := by
  obtain ⟨h0, he, -⟩ := hW.at hc
  obtain ⟨r, hr, hrC⟩ := Option.map_eq_some_iff.mp hci
  rw [← hrC]
  exact va_recv hK.1 hW.2.1 hr he
theorem gx_callV (hG : Cx own b mL rt isI d a n0 Q G) {y : MethodName} {b' : ByteArray} {mL' : Nat} {rt' : Option FieldType} {d' a' np idx ci : Nat} {x : Int} {As fs : List Value} {Q' : Option Value → AH → Prop} (lk : LkV own idx y) (lc : LkC y b' mL' rt' np) (hE : Ev y b' mL' rt' d' a' (Vr x :: As) n h Q') (hrec : h x = cO ci fs) (hci : (clsL[ci]?).map (fun r => r.1) = some y.cls) (hd' : d' < d) (han : n + a' ≤ n0 + a) (hst : (st.map fun v => v.category).sum ≤ 8) (hlen : As.length = np) (hd : decode b pc = .ok (.invokevirtual idx, 3)) (hq : pc + 3 = q)
    (k : ∀ (v : Option Value) (h' : AH), Q' v h' → G q ls (v.toList ++ st) (n + a') h') : G pc ls (As.reverse ++ Vr x :: st) n h := by
  obtain ⟨p, l, e, R, s, m, args, below, meth, c, D, K, bb, off, Z, hx, hb, hml, hown, hK, hI, hR, hof, hfin, rfl⟩ := hG
  subst hq
  intro h1 h2 H locs L hL hW hS
  obtain ⟨h0, -, -⟩ := hW.at hrec
  obtain ⟨c1, c2, c3, c4⟩ := lc
  rw [rl_rev, List.map_cons, rl_r h0]
  refine run_W (D := D) (K := K) (a' := a') (n' := n + a') (va_runV (cc := b) (nL := mL) (n := np) (bytes := b') (maxL := mL') (ret := rt') (C := y.cls) (As := As.map (rl bb off)) (b := x.toNat + off) (rm := roomM d' a') ⟨hx, hb, hml, hown, fun w hw => hK.2.2 _ w hw⟩ (hE l D K bb off) ⟨⟨rfl, rfl, ?_, ?_, ws_ok hK c2, List.mem_singleton.mpr rfl, hK.2.2 _ _ (gtb_in c2 rfl), hK.2.2 _ _ (gtb_in c3 rfl), ⟨c1.1, c1.2.1⟩, ?_, hK.2.2 _ _ (gtb_in lk.1 rfl)⟩, hK.2.2 _ _ (gtb_in lk.2.1 rfl), hK.2.2 _ _ (gtb_in lk.2.2 rfl)⟩ ⟨EvP_blind, recv_of_Wd hK hW hrec hci, fun U hU hWm => ⟨?_, by rw [hU]; exact hW, hK.warm hWm⟩⟩ rfl (by simpa using hlen) hL.1.1 rfl (lv_room (pc := pc) (ls := L) (m := m) (rest := []) (st_cat hst)) hd ⟨?_, ?_⟩) hof hS (fun v h' H1 locs1 hQ hW1 hS1 => ?_)
  · show d' + 1 ≤ R.frames
    omega
  · show 8 + (mL' + 11) + 40 * d' ≤ R.locals
    omega
  · intro sig hs
    have h3 := c1.2.2
    rw [hs] at h3
    exact (Option.some.inj h3).symm
  · show _ = ((Vr x :: As).map (rl bb off)).toArray
    rw [List.map_cons, rl_r h0]
  · omega
  · omega
  · have key := k v h' hQ (by omega) (by omega) H1 locs1 L hL hW1 hS1
    rw [rl_app] at key
    rw [show n - n0 + a' = n + a' - n0 by omega, show 16500 * (n - n0) + 16500 * a' = 16500 * (n + a' - n0) by omega]
    exact key
theorem gx_callS (hG : Cx own b mL rt isI d a n0 Q G) {y : MethodName} {b' : ByteArray} {mL' : Nat} {rt' : Option FieldType} {d' a' np idx : Nat} {As : List Value} {Q' : Option Value → AH → Prop} (lk : LkS own idx y) (lc : LkC y b' mL' rt' np) (hE : Ev y b' mL' rt' d' a' As n h Q') (hd' : d' < d) (han : n + a' ≤ n0 + a) (hst : (st.map fun v => v.category).sum ≤ 8) (hlen : As.length = np) (hd : decode b pc = .ok (.invokestatic idx, 3)) (hq : pc + 3 = q)
    (k : ∀ (v : Option Value) (h' : AH), Q' v h' → G q ls (v.toList ++ st) (n + a') h') : G pc ls (As.reverse ++ st) n h := by
  obtain ⟨p, l, e, R, s, m, args, below, meth, c, D, K, bb, off, Z, hx, hb, hml, hown, hK, hI, hR, hof, hfin, rfl⟩ := hG
  subst hq
  intro h1 h2 H locs L hL hW hS
  obtain ⟨c1, c2, c3, c4⟩ := lc
  rw [rl_rev]
  refine run_W (D := D) (K := K) (a' := a') (n' := n + a') (va_runS (cc := b) (nL := mL) (n := np) (bytes := b') (maxL := mL') (ret := rt') (As := As.map (rl bb off)) (rm := roomM d' a') ⟨hx, hb, hml, hown, fun w hw => hK.2.2 _ w hw⟩ (hE l D K bb off) ⟨⟨rfl, rfl, ?_, ?_, ws_ok hK c2, List.mem_singleton.mpr rfl, hK.2.2 _ _ (gtb_in c2 rfl), hK.2.2 _ _ (gtb_in c3 rfl), ⟨c1.1, c1.2.1⟩, ?_, hK.2.2 _ _ (gtb_in lk.1 rfl)⟩, hK.2.2 _ _ (gtb_in lk.2 rfl)⟩ ⟨EvP_blind, fun U hU hWm => ⟨?_, by rw [hU]; exact hW, hK.warm hWm⟩⟩ rfl (by simpa using hlen) hL.1.1 rfl (lv_room (pc := pc) (ls := L) (m := m) (rest := []) (st_cat hst)) hd ⟨?_, ?_⟩) hof hS (fun v h' H1 locs1 hQ hW1 hS1 => ?_)
  · show d' + 1 ≤ R.frames
    omega
  · show 8 + (mL' + 11) + 40 * d' ≤ R.locals
    omega
  · intro sig hs
    have h3 := c1.2.2
    rw [hs] at h3
    exact (Option.some.inj h3).symm
  · rfl
  · omega
  · omega
  · have key := k v h' hQ (by omega) (by omega) H1 locs1 L hL hW1 hS1
    rw [rl_app] at key
    rw [show n - n0 + a' = n + a' - n0 by omega, show 16500 * (n - n0) + 16500 * a' = 16500 * (n + a' - n0) by omega]
    exact key
theorem gx_callSN (hG : Cx own b mL rt isI d a n0 Q G) {y : MethodName} {b' : ByteArray} {mL' : Nat} {rt' : Option FieldType} {d' a' np idx : Nat} {As : List Value} {Q' : Option Value → AH → Prop} {host : String} (lk : LkN own idx y host) (ls2 : Cond.static y ∈ lw_tbl) (lc : LkC y b' mL' rt' np) (hE : Ev y b' mL' rt' d' a' As n h Q') (hd' : d' < d) (han : n + a' ≤ n0 + a) (hst : (st.map fun v => v.category).sum ≤ 8) (hlen : As.length = np) (hd : decode b pc = .ok (.invokestatic idx, 3)) (hq : pc + 3 = q)
    (k : ∀ (v : Option Value) (h' : AH), Q' v h' → G q ls (v.toList ++ st) (n + a') h') : G pc ls (As.reverse ++ st) n h := by
  obtain ⟨p, l, e, R, s, m, args, below, meth, c, D, K, bb, off, Z, hx, hb, hml, hown, hK, hI, hR, hof, hfin, rfl⟩ := hG
  subst hq
  intro h1 h2 H locs L hL hW hS
  obtain ⟨c1, c2, c3, c4⟩ := lc
  rw [rl_rev]
  refine run_W (D := D) (K := K) (a' := a') (n' := n + a') (va_runSN (cc := b) (nL := mL) (n := np) (bytes := b') (maxL := mL') (ret := rt') (As := As.map (rl bb off)) (rm := roomM d' a') ⟨hx, hb, hml, hown, fun w hw => hK.2.2 _ w hw⟩ (hE l D K bb off) ⟨⟨⟨rfl, rfl, ?_, ?_, ws_ok hK c2, List.mem_singleton.mpr rfl⟩, hK.2.2 _ _ (gtb_in c2 rfl), hK.2.2 _ _ (gtb_in c3 rfl), ⟨c1.1, c1.2.1⟩, ?_, hK.2.2 _ _ (gtb_in lk rfl)⟩, hK.2.2 _ _ (gtb_in ls2 rfl), trivial⟩ ⟨EvP_blind, fun U hU hWm => ⟨?_, by rw [hU]; exact hW, hK.warm hWm⟩⟩ rfl (by simpa using hlen) hL.1.1 rfl (lv_room (pc := pc) (ls := L) (m := m) (rest := []) (st_cat hst)) hd ⟨?_, ?_⟩) hof hS (fun v h' H1 locs1 hQ hW1 hS1 => ?_)
  · show d' + 1 ≤ R.frames
    omega
  · show 8 + (mL' + 11) + 40 * d' ≤ R.locals
    omega
  · intro sig hs
    have h3 := c1.2.2
    rw [hs] at h3
    exact (Option.some.inj h3).symm
  · rfl
  · omega
  · omega
  · have key := k v h' hQ (by omega) (by omega) H1 locs1 L hL hW1 hS1
    rw [rl_app] at key
    rw [show n - n0 + a' = n + a' - n0 by omega, show 16500 * (n - n0) + 16500 * a' = 16500 * (n + a' - n0) by omega]
    exact key
theorem gx_callI (hG : Cx own b mL rt isI d a n0 Q G) {y : MethodName} {b' : ByteArray} {mL' : Nat} {rt' : Option FieldType} {d' a' np idx : Nat} {As : List Value} {Q' : Option Value → AH → Prop} {ci : Nat} {x : Int} {fs : List Value} (lk : Cond.methodLink own idx y ∈ lw_tbl ∧ Cond.instanceMethod y ∈ lw_tbl) (hy1 : y.name = "<init>") (lc : LkC y b' mL' none np) (hE : Ev y b' mL' none d' a' (Vr x :: As) n h Q') (hrec : h x = cO ci fs) (hd' : d' < d) (han : n + a' ≤ n0 + a) (hst : (st.map fun v => v.category).sum ≤ 8) (hlen : As.length = np) (hd : decode b pc = .ok (.invokespecial idx, 3)) (hq : pc + 3 = q)
    (k : ∀ (v : Option Value) (h' : AH), Q' v h' → G q ls (v.toList ++ st) (n + a') h') : G pc ls (As.reverse ++ Vr x :: st) n h := by
  obtain ⟨p, l, e, R, s, m, args, below, meth, c, D, K, bb, off, Z, hx, hb, hml, hown, hK, hI, hR, hof, hfin, rfl⟩ := hG
  subst hq
  intro h1 h2 H locs L hL hW hS
  obtain ⟨h0, -, -⟩ := hW.at hrec
  obtain ⟨c1, c2, c3, c4⟩ := lc
  rw [rl_rev, List.map_cons, rl_r h0]
  refine run_W (D := D) (K := K) (a' := a') (n' := n + a') (va_runI (cc := b) (nL := mL) (n := np) (bytes := b') (maxL := mL') (As := As.map (rl bb off)) (b := x.toNat + off) (rm := roomM d' a') ⟨hx, hb, hml, hown, fun w hw => hK.2.2 _ w hw⟩ (hE l D K bb off) ⟨⟨rfl, rfl, ?_, ?_, ws_ok hK c2, List.mem_singleton.mpr rfl, hK.2.2 _ _ (gtb_in c2 rfl), hK.2.2 _ _ (gtb_in c3 rfl), ⟨c1.1, c1.2.1⟩, ?_, hK.2.2 _ _ (gtb_in lk.1 rfl)⟩, hy1, hK.2.2 _ _ (gtb_in lk.2 rfl)⟩ ⟨EvP_blind, fun U hU hWm => ⟨?_, by rw [hU]; exact hW, hK.warm hWm⟩⟩ rfl (by simpa using hlen) hL.1.1 rfl (lv_room (pc := pc) (ls := L) (m := m) (rest := []) (st_cat hst)) hd ⟨?_, ?_⟩) hof hS (fun v h' H1 locs1 hQ hW1 hS1 => ?_)
  · show d' + 1 ≤ R.frames
    omega
  · show 8 + (mL' + 11) + 40 * d' ≤ R.locals
    omega
  · intro sig hs
    have h3 := c1.2.2
    rw [hs] at h3
    exact (Option.some.inj h3).symm
  · show _ = ((Vr x :: As).map (rl bb off)).toArray
    rw [List.map_cons, rl_r h0]
  · omega
  · omega
  · have key := k v h' hQ (by omega) (by omega) H1 locs1 L hL hW1 hS1
    rw [rl_app] at key
    rw [show n - n0 + a' = n + a' - n0 by omega, show 16500 * (n - n0) + 16500 * a' = 16500 * (n + a' - n0) by omega]
    exact key
theorem gx_callIN (hG : Cx own b mL rt isI d a n0 Q G) {y : MethodName} {b' : ByteArray} {mL' : Nat} {rt' : Option FieldType} {d' a' np idx : Nat} {As : List Value} {Q' : Option Value → AH → Prop} {host : String} {ci : Nat} {x : Int} {fs : List Value} (lk : LkN own idx y host) (li : Cond.instanceMethod y ∈ lw_tbl) (hy1 : y.name = "<init>") (lc : LkC y b' mL' none np) (hE : Ev y b' mL' none d' a' (Vr x :: As) n h Q') (hrec : h x = cO ci fs) (hd' : d' < d) (han : n + a' ≤ n0 + a) (hst : (st.map fun v => v.category).sum ≤ 8) (hlen : As.length = np) (hd : decode b pc = .ok (.invokespecial idx, 3)) (hq : pc + 3 = q)
    (k : ∀ (v : Option Value) (h' : AH), Q' v h' → G q ls (v.toList ++ st) (n + a') h') : G pc ls (As.reverse ++ Vr x :: st) n h := by
  obtain ⟨p, l, e, R, s, m, args, below, meth, c, D, K, bb, off, Z, hx, hb, hml, hown, hK, hI, hR, hof, hfin, rfl⟩ := hG
  subst hq
  intro h1 h2 H locs L hL hW hS
  obtain ⟨h0, -, -⟩ := hW.at hrec
  obtain ⟨c1, c2, c3, c4⟩ := lc
  rw [rl_rev, List.map_cons, rl_r h0]
  refine run_W (D := D) (K := K) (a' := a') (n' := n + a') (va_runIN (cc := b) (nL := mL) (n := np) (bytes := b') (maxL := mL') (As := As.map (rl bb off)) (b := x.toNat + off) (rm := roomM d' a') ⟨hx, hb, hml, hown, fun w hw => hK.2.2 _ w hw⟩ (hE l D K bb off) ⟨⟨⟨rfl, rfl, ?_, ?_, ws_ok hK c2, List.mem_singleton.mpr rfl⟩, hK.2.2 _ _ (gtb_in c2 rfl), hK.2.2 _ _ (gtb_in c3 rfl), ⟨c1.1, c1.2.1⟩, ?_, hK.2.2 _ _ (gtb_in lk rfl)⟩, hy1, hK.2.2 _ _ (gtb_in li rfl)⟩ ⟨EvP_blind, fun U hU hWm => ⟨?_, by rw [hU]; exact hW, hK.warm hWm⟩⟩ rfl (by simpa using hlen) hL.1.1 rfl (lv_room (pc := pc) (ls := L) (m := m) (rest := []) (st_cat hst)) hd ⟨?_, ?_⟩) hof hS (fun v h' H1 locs1 hQ hW1 hS1 => ?_)
  · show d' + 1 ≤ R.frames
    omega
  · show 8 + (mL' + 11) + 40 * d' ≤ R.locals
    omega
  · intro sig hs
    have h3 := c1.2.2
    rw [hs] at h3
    exact (Option.some.inj h3).symm
  · show _ = ((Vr x :: As).map (rl bb off)).toArray
    rw [List.map_cons, rl_r h0]
  · omega
  · omega
  · have key := k v h' hQ (by omega) (by omega) H1 locs1 L hL hW1 hS1
    rw [rl_app] at key
    rw [show n - n0 + a' = n + a' - n0 by omega, show 16500 * (n - n0) + 16500 * a' = 16500 * (n + a' - n0) by omega]
    exact key
/-- an overriding method: the call names x, the receiver's class has y -/
def LkO (own : String) (idx : Nat) (x : MethodName) (C : String) (y : MethodName) (np : Nat) : Prop := (x.cls ≠ "java/lang/invoke/MethodHandle" ∧ x.cls ≠ "java/lang/invoke/VarHandle" ∧ (parseMethodDescriptor x.desc).map (fun d => d.parameters.length) = some np) ∧ Cond.methodLink own idx x ∈ lw_tbl ∧ Cond.sameMethod x.cls x.cls x.name x.desc ∈ lw_tbl ∧ Cond.instanceMethod x ∈ lw_tbl ∧ Cond.selects C x y ∈ lw_tbl ∧ Cond.instanceMethod y ∈ lw_tbl ∧ ∃ b0 m0 r0, Cond.code x b0 m0 r0 ∈ lw_tbl
theorem gx_callO (hG : Cx own b mL rt isI d a n0 Q G) {y : MethodName} {b' : ByteArray} {mL' : Nat} {rt' : Option FieldType} {d' a' np idx : Nat} {As : List Value} {Q' : Option Value → AH → Prop} {xm : MethodName} {C : String} {ci : Nat} {x : Int} {fs : List Value} (lk : LkO own idx xm C y np) (lc : LkC y b' mL' rt' np) (hE : Ev y b' mL' rt' d' a' (Vr x :: As) n h Q') (hrec : h x = cO ci fs) (hci : (clsL[ci]?).map (fun r => r.1) = some C) (hd' : d' < d) (han : n + a' ≤ n0 + a) (hst : (st.map fun v => v.category).sum ≤ 8) (hlen : As.length = np) (hd : decode b pc = .ok (.invokevirtual idx, 3)) (hq : pc + 3 = q)
    (k : ∀ (v : Option Value) (h' : AH), Q' v h' → G q ls (v.toList ++ st) (n + a') h') : G pc ls (As.reverse ++ Vr x :: st) n h := by
  obtain ⟨p, l, e, R, s, m, args, below, meth, c, D, K, bb, off, Z, hx, hb, hml, hown, hK, hI, hR, hof, hfin, rfl⟩ := hG
  subst hq
  intro h1 h2 H locs L hL hW hS
  obtain ⟨h0, -, -⟩ := hW.at hrec
  obtain ⟨c1, c2, c3, c4⟩ := lc
  obtain ⟨o1, o2, o3, o4, o5, o6, b0, m0, r0, o7⟩ := lk
  rw [rl_rev, List.map_cons, rl_r h0]
  refine run_W (D := D) (K := K) (a' := a') (n' := n + a') (va_runU (cc := b) (nL := mL) (n := np) (bytes := b') (maxL := mL') (ret := rt') (x := xm) (owner := xm.cls) (C := C) (As := As.map (rl bb off)) (b := x.toNat + off) (rm := roomM d' a') ⟨hx, hb, hml, hown, fun w hw => hK.2.2 _ w hw⟩ (hE l D K bb off) ⟨⟨rfl, rfl, ?_, ?_, ws_ok hK c2, List.mem_singleton.mpr rfl⟩, hK.2.2 _ _ (gtb_in c2 rfl), hK.2.2 _ _ (gtb_in c3 rfl), ⟨o1.1, o1.2.1⟩, ?_, hK.2.2 _ _ (gtb_in o2 rfl), hK.2.2 _ _ (gtb_in o3 rfl), va_Decl.of (hK.2.2 #[] _ (gtb_in o4 rfl)) (hK.2.2 #[] _ (gtb_in o7 rfl)), hK.2.2 _ _ (gtb_in o5 rfl), hK.2.2 _ _ (gtb_in o6 rfl)⟩ ⟨EvP_blind, recv_of_Wd hK hW hrec hci, fun U hU hWm => ⟨?_, by rw [hU]; exact hW, hK.warm hWm⟩⟩ rfl (by simpa using hlen) hL.1.1 rfl (lv_room (pc := pc) (ls := L) (m := m) (rest := []) (st_cat hst)) hd ⟨?_, ?_⟩) hof hS (fun v h' H1 locs1 hQ hW1 hS1 => ?_)
  · show d' + 1 ≤ R.frames
    omega
  · show 8 + (mL' + 11) + 40 * d' ≤ R.locals
    omega
  · intro sig hs
    have h3 := o1.2.2
    rw [hs] at h3
    exact (Option.some.inj h3).symm
  · show _ = ((Vr x :: As).map (rl bb off)).toArray
    rw [List.map_cons, rl_r h0]
  · omega
  · omega
  · have key := k v h' hQ (by omega) (by omega) H1 locs1 L hL hW1 hS1
    rw [rl_app] at key
    rw [show n - n0 + a' = n + a' - n0 by omega, show 16500 * (n - n0) + 16500 * a' = 16500 * (n + a' - n0) by omega]
    exact key
/-- super.y(..) -/
theorem gx_callSU (hG : Cx own b mL rt isI d a n0 Q G) {y : MethodName} {b' : ByteArray} {mL' : Nat} {rt' : Option FieldType} {d' a' np idx : Nat} {As : List Value} {Q' : Option Value → AH → Prop} {C : String} {ci : Nat} {x : Int} {fs : List Value} (lk : Cond.methodLink own idx y ∈ lw_tbl ∧ Cond.sameMethod y.cls y.cls y.name y.desc ∈ lw_tbl ∧ Cond.superclass own y.cls ∈ lw_tbl ∧ Cond.instanceMethod y ∈ lw_tbl) (hno : y.name ≠ "<init>") (lc : LkC y b' mL' rt' np) (hE : Ev y b' mL' rt' d' a' (Vr x :: As) n h Q') (hrec : h x = cO ci fs) (hci : (clsL[ci]?).map (fun r => r.1) = some C) (hd' : d' < d) (han : n + a' ≤ n0 + a) (hst : (st.map fun v => v.category).sum ≤ 8) (hlen : As.length = np) (hd : decode b pc = .ok (.invokespecial idx, 3)) (hq : pc + 3 = q)
    (k : ∀ (v : Option Value) (h' : AH), Q' v h' → G q ls (v.toList ++ st) (n + a') h') : G pc ls (As.reverse ++ Vr x :: st) n h := by
  obtain ⟨p, l, e, R, s, m, args, below, meth, c, D, K, bb, off, Z, hx, hb, hml, hown, hK, hI, hR, hof, hfin, rfl⟩ := hG
  subst hq
  intro h1 h2 H locs L hL hW hS
  obtain ⟨h0, -, -⟩ := hW.at hrec
  obtain ⟨c1, c2, c3, c4⟩ := lc
  obtain ⟨r, hr, rfl⟩ := Option.map_eq_some_iff.mp hci
  rw [rl_rev, List.map_cons, rl_r h0]
  refine run_W (D := D) (K := K) (a' := a') (n' := n + a') (va_runSU (cc := b) (nL := mL) (n := np) (bytes := b') (maxL := mL') (ret := rt') (C := r.1) (As := As.map (rl bb off)) (b := x.toNat + off) (rm := roomM d' a') (hK.1.1 ci _ hr).2 ⟨hx, hb, hml, hown, fun w hw => hK.2.2 _ w hw⟩ (hE l D K bb off) ⟨⟨rfl, rfl, ?_, ?_, ws_ok hK c2, List.mem_singleton.mpr rfl⟩, hK.2.2 _ _ (gtb_in lk.1 rfl), hK.2.2 _ _ (gtb_in lk.2.1 rfl), hK.2.2 _ _ (gtb_in lk.2.2.1 rfl), hK.2.2 _ _ (gtb_in lk.2.2.2 rfl), hK.2.2 _ _ (gtb_in c3 rfl), hK.2.2 _ _ (gtb_in c2 rfl), hno, ?_⟩ ⟨EvP_blind, recv_of_Wd hK hW hrec hci, fun U hU hWm => ⟨?_, by rw [hU]; exact hW, hK.warm hWm⟩⟩ rfl (by simpa using hlen) hL.1.1 rfl (lv_room (pc := pc) (ls := L) (m := m) (rest := []) (st_cat hst)) hd ⟨?_, ?_⟩) hof hS (fun v h' H1 locs1 hQ hW1 hS1 => ?_)
  · show d' + 1 ≤ R.frames
    omega
  · show 8 + (mL' + 11) + 40 * d' ≤ R.locals
    omega
  · intro sig hs
    have h3 := c1.2.2
    rw [hs] at h3
    exact (Option.some.inj h3).symm
  · show _ = ((Vr x :: As).map (rl bb off)).toArray
    rw [List.map_cons, rl_r h0]
  · omega
  · omega
  · have key := k v h' hQ (by omega) (by omega) H1 locs1 L hL hW1 hS1
    rw [rl_app] at key
    rw [show n - n0 + a' = n + a' - n0 by omega, show 16500 * (n - n0) + 16500 * a' = 16500 * (n + a' - n0) by omega]
    exact key
/-- instanceof: the object's class is below the named one, or is it, or isn't -/
theorem gx_instY (hG : Cx own b mL rt isI d a n0 Q G) {x : Int} {ci idx : Nat} {fs : List Value} {C nm : String} (hl : Cond.classLink own idx nm ∈ lw_tbl) (hca : Cond.castable C nm ∈ lw_tbl) (hrec : h x = cO ci fs) (hci : (clsL[ci]?).map (fun r => r.1) = some C) (hd : decode b pc = .ok (.instanceof idx, 3)) (hq : pc + 3 = q) (k : G q ls (Vi 1 :: st) n h) : G pc ls (Vr x :: st) n h := by
  obtain ⟨p, l, e, R, s, m, args, below, meth, c, D, K, bb, off, Z, hx, hb, hml, hown, hK, hI, hR, hof, hfin, rfl⟩ := hG
  subst hq
  intro h1 h2 H locs L hL hW hS
  obtain ⟨h0, -, -⟩ := hW.at hrec
  rw [List.map_cons, rl_r h0]
  exact va_instY hx hb hown (hK.2.2 _ _ (gtb_in hl rfl)) (hK.2.2 _ _ (gtb_in hca rfl)) (recv_of_Wd hK hW hrec hci) hd (k h1 h2 H locs L hL hW hS)
theorem gx_instS (hG : Cx own b mL rt isI d a n0 Q G) {x : Int} {ci idx : Nat} {fs : List Value} {nm : String} (hl : Cond.classLink own idx nm ∈ lw_tbl) (hrec : h x = cO ci fs) (hci : (clsL[ci]?).map (fun r => r.1) = some nm) (hd : decode b pc = .ok (.instanceof idx, 3)) (hq : pc + 3 = q) (k : G q ls (Vi 1 :: st) n h) : G pc ls (Vr x :: st) n h := by
  obtain ⟨p, l, e, R, s, m, args, below, meth, c, D, K, bb, off, Z, hx, hb, hml, hown, hK, hI, hR, hof, hfin, rfl⟩ := hG
  subst hq
  intro h1 h2 H locs L hL hW hS
  obtain ⟨h0, -, -⟩ := hW.at hrec
  rw [List.map_cons, rl_r h0]
  obtain ⟨r, hr, rfl⟩ := Option.map_eq_some_iff.mp hci
  exact va_instS hx hb hown (hK.2.2 _ _ (gtb_in hl rfl)) (hK.1.1 ci _ hr).2 (recv_of_Wd hK hW hrec hci) hd (k h1 h2 H locs L hL hW hS)
theorem gx_instN (hG : Cx own b mL rt isI d a n0 Q G) {x : Int} {ci idx : Nat} {fs : List Value} {C nm : String} (hl : Cond.classLink own idx nm ∈ lw_tbl) (hnc : (C, nm) ∈ ncL) (hrec : h x = cO ci fs) (hci : (clsL[ci]?).map (fun r => r.1) = some C) (hd : decode b pc = .ok (.instanceof idx, 3)) (hq : pc + 3 = q) (k : G q ls (Vi 0 :: st) n h) : G pc ls (Vr x :: st) n h := by
  obtain ⟨p, l, e, R, s, m, args, below, meth, c, D, K, bb, off, Z, hx, hb, hml, hown, hK, hI, hR, hof, hfin, rfl⟩ := hG
  subst hq
  intro h1 h2 H locs L hL hW hS
  obtain ⟨h0, -, -⟩ := hW.at hrec
  rw [List.map_cons, rl_r h0]
  exact va_instNo hx hb hown (hK.2.2 _ _ (gtb_in hl rfl)) (hK.2.1 _ hnc) (recv_of_Wd hK hW hrec hci) hd (k h1 h2 H locs L hL hW hS)
/-- System.arraycopy between rows of ints -/
def cpy (F F' : Int → Int) (sp dp len : Int) : Int → Int := fun k => if dp ≤ k ∧ k < dp + len then F (sp + (k - dp)) else F' k
theorem gx_acopy (hG : Cx own b mL rt isI d a n0 Q G) {x y sp dp len : Int} {N M idx : Nat} {F F' : Int → Int} (hl : Cond.methodLink own idx arraycopyName ∈ lw_tbl) (hw : Cond.native arraycopyName ∈ lw_tbl ∧ Cond.static arraycopyName ∈ lw_tbl ∧ Cond.initialized "java/lang/System" ∈ lw_tbl) (hc : h x = cA 0 N F) (hc' : h y = cA 0 M F') (g1 : 0 ≤ sp) (g2 : 0 ≤ dp) (g3 : 0 ≤ len) (g4 : sp + len ≤ N) (g5 : dp + len ≤ M) (hN : N ≤ 2147483647) (hM : M ≤ 2147483647) (hd0 : 1 ≤ d) (hst : (st.map fun v => v.category).sum ≤ 8) (hd : decode b pc = .ok (.invokestatic idx, 3)) (hq : pc + 3 = q)
    (k : G q ls st n (hset h y (cA 0 M (cpy F F' sp dp len)))) : G pc ls (Vi len :: Vi dp :: Vr y :: Vi sp :: Vr x :: st) n h := by
  obtain ⟨p, l, e, R, s, m, args, below, meth, c, D, K, bb, off, Z, hx, hb, hml, hown, hK, hI, hR, hof, hfin, rfl⟩ := hG
  subst hq
  intro h1 h2 H locs L hL hW hS
  obtain ⟨h0, he, -⟩ := hW.at hc
  obtain ⟨h0', he', -⟩ := hW.at hc'
  simp only [List.map_cons, rl_r h0, rl_r h0']
  have es := i3_clamp g1 (by omega)
  have ed := i3_clamp g2 (by omega)
  have el := i3_clamp g3 (by omega)
  have hcx : H[x.toNat + off]? = some (arrV (K 0) N (fun j : Nat => .int (Int32.ofInt (F j)))) := arr_at hW hc
  have hcy : H[y.toNat + off]? = some (arrV (K 0) M (fun j : Nat => .int (Int32.ofInt (F' j)))) := arr_at hW hc'
  obtain ⟨-, k0, hk0, cm0, hkk0⟩ := (hK.1.2 0 _ (tysL_get (by decide))).1 N (fun j : Nat => .int (Int32.ofInt (F j)))
  obtain ⟨-, k1, hk1, cm1, hkk1⟩ := (hK.1.2 0 _ (tysL_get (by decide))).1 M (fun j : Nat => .int (Int32.ofInt (F' j)))
  have ns : ∀ {z : Int}, 0 ≤ z → z ≤ 2147483647 → ¬ Int32.ofInt z < 0 := fun a1 a2 => by
    rw [← i3_zero, i3_lt ⟨by omega, a2⟩ ⟨by omega, by omega⟩]
    omega
  intro T hT X
  have hcat := st_cat (bb := bb) (off := off) hst
  obtain ⟨vm', X', step⟩ := X.arraycopy hx hown (hK.2.2 _ _ (gtb_in hl rfl)) (hK.2.2 _ _ (gtb_in hw.1 rfl)) (hK.2.2 _ _ (gtb_in hw.2.1 rfl)) (hK.2.2 _ _ (gtb_in hw.2.2 rfl)) (src := x.toNat + off) (dst := y.toNat + off) (cs := arrV (K 0) N (fun j : Nat => .int (Int32.ofInt (F j)))) (cd := arrV (K 0) M (fun j : Nat => .int (Int32.ofInt (F' j)))) (srcPos := Int32.ofInt sp) (destPos := Int32.ofInt dp) (n := Int32.ofInt len) (by rw [hT]; exact hcx) (by rw [hT]; exact hcy)
    (fun _ h => by cases h) (fun _ h => by cases h) (fun h => by cases h) (fun h => by cases h) hk0 hk1 hkk0 hkk1 (by simp [tyC, refKind]) (ns g1 (by omega)) (ns g2 (by omega)) (ns g3 (by omega))
    (by rw [i3_toInt ⟨by omega, by omega⟩, i3_toInt ⟨by omega, by omega⟩, arrV_size]; omega)
    (by rw [i3_toInt ⟨by omega, by omega⟩, i3_toInt ⟨by omega, by omega⟩, arrV_size]; omega)
    (fun vm₁ _ i hi => by
      have e9 : (arrV (K 0) N (fun j : Nat => .int (Int32.ofInt (F j)))).slots.getD ((Int32.ofInt sp).toNatClampNeg + i) .null = .int (Int32.ofInt (F (((Int32.ofInt sp).toNatClampNeg + i : Nat) : Int))) := by
        rw [Array.getD_eq_getD_getElem?, arrV_read _ _ (by omega)]
        rfl
      refine ⟨?_, ?_⟩
      · rw [e9]; rfl
      · rw [e9]; exact trivial)
    (g := F0 m pc L _) rfl (by rw [hml]; exact hL.1.1) (rest := st.map (rl bb off)) rfl (by rw [hb]; exact hd) (by omega) (by show 2 * 0 + _ + (18 : Nat) ≤ _; omega)
  have e1 : copied (arrV (K 0) N (fun j : Nat => .int (Int32.ofInt (F j)))) (arrV (K 0) M (fun j : Nat => .int (Int32.ofInt (F' j)))) (Int32.ofInt sp) (Int32.ofInt dp) (Int32.ofInt len) = vp_cell (K 0) (M, cnt off 0 (cpy F F' sp dp len)) := by
    refine (va_copied (fun z => .int z) (K 0) (K 0) (fun j : Nat => Int32.ofInt (F j)) (fun j : Nat => Int32.ofInt (F' j)) (by omega)).trans ?_
    rw [arr0]
    congr 1
    funext j
    unfold va_cpy cpy
    by_cases e : dp ≤ j ∧ j < dp + len
    · rw [if_pos e, if_pos (by omega)]
      show Value.int (Int32.ofInt (F _)) = Value.int (Int32.ofInt (F _))
      rw [show ((((Int32.ofInt sp).toNatClampNeg + (j - (Int32.ofInt dp).toNatClampNeg) : Nat)) : Int) = sp + (j - dp) by omega]
    · rw [if_neg e, if_neg (by omega)]
  rw [e1] at X' step
  have hl2 : y.toNat + off < H.size := (Array.getElem?_eq_some_iff.mp hcy).1
  have oq : ∀ q : Nat, q ≠ y.toNat + off → (H.setIfInBounds (y.toNat + off) (vp_cell (K 0) (M, cnt off 0 (cpy F F' sp dp len))))[q]? = H[q]? := fun q hq => by simp [Array.getElem?_setIfInBounds, Ne.symm hq]
  have hA : off ≤ y.toNat + off := by omega
  obtain ⟨t, a1, b1⟩ := k h1 h2 _ _ L hL (hW.write (H1 := H.setIfInBounds (y.toNat + off) (vp_cell (K 0) (M, cnt off 0 (cpy F F' sp dp len)))) hc' (by simp) (by
      show (H.setIfInBounds _ _)[y.toNat + off]? = some _
      simp [Array.getElem?_setIfInBounds, hl2]) oq) ⟨by simp; exact hS.1, fun q w1 w2 => by
      rw [oq q (fun e => w2 (by rw [e]; exact hA))]
      exact hS.2.1 q w1 w2, fun q hq => by
      rcases List.mem_append.mp hq with h | h
      · exact hS.2.2 q h
      · obtain ⟨z, -, hz⟩ := List.mem_map.mp h
        rw [← hz]
        exact hA⟩ ((T.setVm vm').setCell (y.toNat + off) (vp_cell (K 0) (M, cnt off 0 (cpy F F' sp dp len)))) (by rw [← hT]; rfl) X'
  exact ⟨t, step t a1, b1⟩
end GC
end
section
/-! part 07: new cells -/
theorem Wd.push {bb off : Nat} {D : va_G} {K : Nat → ClassId} {n : Nat} {h : AH} {H H1 : Heap} {c1 : AE} (hW : Wd bb off D K n h H) (hz : H1.size = H.size + 1) (he : va_at D clsL (n + off, cnv bb off K (some c1)) H1) (oq : ∀ q : Nat, q < H.size → H1[q]? = H[q]?) : Wd bb off D K (n + 1) (hset h (n : Int) (some c1)) H1 := by
  refine ⟨by rw [hz, hW.1]; omega, ?_, hW.2.2.push⟩
  rw [← wld_push]
  refine (hW.2.1.kept (fun k q hk => oq q.1 (hW.2.1 k q hk).lt)).app (fun k q hk => ?_)
  have hl : k < 1 := (List.getElem?_eq_some_iff.mp hk).1
  rw [show k = 0 by omega] at hk
  cases hk
  exact he
theorem va_S.push {A : Nat → Prop} {H0 H H1 : Heap} {locs : List Loc} (h : va_S A H0 H locs) (z : H1.size = H.size + 1) (oq : ∀ q : Nat, q < H.size → H1[q]? = H[q]?) : va_S A H0 H1 locs :=
  ⟨by rw [z]; have := h.1; omega, fun q h1 h2 => (oq q (Nat.lt_of_lt_of_le h1 h.1)).trans (h.2.1 q h1 h2), h.2.2⟩
def Cls (own : String) (idx ci : Nat) (fs : List Value) : Prop :=
  ∃ (C : String) (T : u_T) (N : Nat) (tys : Nat → FieldType), clsL[ci]? = some (C, T, N) ∧ N ≤ 16500 ∧ (∀ w ∈ u_ws C T N, w ∈ lw_tbl) ∧ (∀ j, j < N → parseFieldDescriptor (T j).2.2.1 = some (tys j)) ∧ (∀ j, j < N → ∀ bb off : Nat, defaultValue (tys j) = vp_V (fs.map (rl bb off)) j) ∧ Cond.classLink own idx C ∈ lw_tbl ∧ Cond.instantiable C N ∈ lw_tbl ∧ Cond.initialized C ∈ lw_tbl
section GN
variable {own : String} {b : ByteArray} {mL : Nat} {rt : Option FieldType} {isI : Bool} {d a n0 : Nat} {Q : Option Value → AH → Prop} {G : Nat → List (Option Value) → List Value → Nat → AH → Prop}
variable {pc q tgt : Nat} {st : List Value} {ls : List (Option Value)} {n : Nat} {h : AH}
theorem gx_new (hG : Cx own b mL rt isI d a n0 Q G) {idx ci : Nat} {fs : List Value} (hC : Cls own idx ci fs) (hn : n + 1 ≤ n0 + a) (hd : decode b pc = .ok (.new idx, 3)) (hq : pc + 3 = q) (k : G q ls (Vr n :: st) (n + 1) (hset h n (cO ci fs))) : G pc ls st n h := by
  obtain ⟨p, l, e, R, s, m, args, below, meth, c, D, K, bb, off, Z, hx, hb, hml, hown, hK, hI, hR, hof, hfin, rfl⟩ := hG
  subst hq
  intro h1 h2 H locs L hL hW hS
  obtain ⟨C, T, N, tys, f1, f2, f3, f4, f5, f6, f7, f8⟩ := hC
  have hKn := hK.1.1 ci _ f1
  refine W.newcK hx hb hown (hK.2.2 _ _ (gtb_in f6 rfl)) (hK.2.2 _ _ (gtb_in f7 rfl)) (hK.2.2 _ _ (gtb_in f8 rfl)) rfl hd (by omega) (by omega) hKn.2.1 hW.1 fun H1 kC hkC e1 z1 o1 => ?_
  have o2 : ∀ q : Nat, q < H.size → H1[q]? = H[q]? := fun q hq => o1 q (by rw [hW.1] at hq; exact hq)
  have key := k (by omega) (by omega) H1 locs L hL (hW.push (c1 := .inr (ci, fs)) (by rw [z1, hW.1]) ⟨_, f1, (u_born tys (fun w hw => hK.2.2 #[] w hw) (gtb_us f3) hKn hkC e1 f4).to (fun j hj => f5 j hj bb off)⟩ o2) (hS.push (by rw [z1, hW.1]) o2)
  rw [List.map_cons, rl_r (by omega)] at key
  refine W.widen (k := n + 1 - n0) (n := 16500 * (n + 1 - n0)) (by omega) (by omega) ?_
  exact key
theorem arr_new {c : ClassId} {off t N : Nat} (ht : t < 4) : vp_cell c (N, cnt off t (fun _ => 0)) = { cls := c, slots := Array.replicate N (defaultValue (tyC t)), vm := .none } := by
  rw [arrV_new]
  rcases (show t = 0 ∨ t = 1 ∨ t = 2 ∨ t = 3 by omega) with rfl | rfl | rfl | rfl <;> rfl
theorem gx_newa (hG : Cx own b mL rt isI d a n0 Q G) {atype : ArrayType} {t N : Nat} (ht : t < 4) (hty : newarray.typeOf atype = tyC t) (hw : Cond.arrayClass (tyC t) ∈ lw_tbl) (hN : N ≤ 16500) (hn : n + 1 ≤ n0 + a) (hd : decode b pc = .ok (.newarray atype, 2)) (hq : pc + 2 = q) (k : G q ls (Vr n :: st) (n + 1) (hset h n (cA t N (fun _ => 0)))) : G pc ls (Vi (N : Int) :: st) n h := by
  obtain ⟨p, l, e, R, s, m, args, below, meth, c, D, K, bb, off, Z, hx, hb, hml, hown, hK, hI, hR, hof, hfin, rfl⟩ := hG
  subst hq
  intro h1 h2 H locs L hL hW hS
  have hcl := i3_clamp (i := (N : Int)) (by omega) (by omega)
  have hcl2 : (Int32.ofInt (N : Int)).toNatClampNeg = N := by omega
  have hneg : ¬ Int32.ofInt (N : Int) < 0 := by
    rw [← i3_zero, i3_lt ⟨by omega, by omega⟩ ⟨by omega, by omega⟩]
    omega
  have hcb : componentBytes (tyC t) ≤ 8 := by rcases (show t = 0 ∨ t = 1 ∨ t = 2 ∨ t = 3 by omega) with rfl | rfl | rfl | rfl <;> decide
  have hmul : N * componentBytes (tyC t) ≤ 16500 * 8 := Nat.mul_le_mul hN hcb
  rw [List.map_cons]
  refine W.newa (n := Int32.ofInt (N : Int)) hx hb (by rw [hty]; exact hK.2.2 _ _ (gtb_in hw rfl)) rfl hd rfl hneg (by rw [hty, hcl2]; omega) (by omega) (by rw [hcl2]; omega) fun cA kA comp g1 g2 g3 => ?_
  rw [hty] at g1 ⊢
  rw [hcl2]
  have hRA := (hK.1.2 t _ (tysL_get (K := K) (by omega))).2
  have hcA : cA = K t := by
    rcases (show t = 0 ∨ t = 1 ∨ t = 2 ∨ t = 3 by omega) with rfl | rfl | rfl | rfl <;> exact Option.some.inj (g1.symm.trans hRA)
  subst hcA
  have o2 : ∀ q : Nat, q < H.size → (H.push { cls := K t, slots := Array.replicate N (defaultValue (tyC t)), vm := .none })[q]? = H[q]? := fun q hq => by
    rw [Array.getElem?_push, if_neg (Nat.ne_of_lt hq)]
  have key := k (by omega) (by omega) _ locs L hL (hW.push (c1 := .inl (t, N, fun _ => 0)) (H1 := H.push { cls := K t, slots := Array.replicate N (defaultValue (tyC t)), vm := .none }) (by simp) (by
    show (H.push _)[n + off]? = some (vp_cell (K t) (N, cnt off t (fun _ => 0)))
    rw [arr_new ht, ← hW.1]
    simp) o2) (hS.push (by simp) o2)
  rw [List.map_cons, rl_r (by omega)] at key
  refine W.widen (k := n + 1 - n0) (n := 16500 * (n + 1 - n0)) (by omega) (by omega) ?_
  rw [hW.1]
  exact key
theorem arr_newR {c : ClassId} {off t N : Nat} (ht : 4 ≤ t) : vp_cell c (N, cnt off t (fun _ => -1)) = { cls := c, slots := Array.replicate N .null, vm := .none } := by
  rw [arrV_new]
  unfold cnt
  rw [if_neg (by omega), if_neg (by omega)]
  rfl
theorem gx_anew (hG : Cx own b mL rt isI d a n0 Q G) {C : String} {idx t N : Nat} (ht : 4 ≤ t ∧ t < 8) (hty : tyC t = .object C) (hl : Cond.classLink own idx C ∈ lw_tbl) (hw : Cond.arrayOver (.object C) ∈ lw_tbl) (hN : N ≤ 16500) (hn : n + 1 ≤ n0 + a) (hd : decode b pc = .ok (.anewarray idx, 3)) (hq : pc + 3 = q) (k : G q ls (Vr n :: st) (n + 1) (hset h n (cA t N (fun _ => -1)))) : G pc ls (Vi (N : Int) :: st) n h := by
  obtain ⟨p, l, e, R, s, m, args, below, meth, c, D, K, bb, off, Z, hx, hb, hml, hown, hK, hI, hR, hof, hfin, rfl⟩ := hG
  subst hq
  intro h1 h2 H locs L hL hW hS
  have hcl := i3_clamp (i := (N : Int)) (by omega) (by omega)
  have hcl2 : (Int32.ofInt (N : Int)).toNatClampNeg = N := by omega
  have hneg : ¬ Int32.ofInt (N : Int) < 0 := by
    rw [← i3_zero, i3_lt ⟨by omega, by omega⟩ ⟨by omega, by omega⟩]
    omega
  rw [List.map_cons]
  refine W.anew (n := Int32.ofInt (N : Int)) hx hb hown (hK.2.2 _ _ (gtb_in hl rfl)) (hK.2.2 _ _ (gtb_in hw rfl)) rfl hd rfl hneg (by rw [hcl2]; omega) (by omega) (by rw [hcl2]; omega) fun cA kA comp g1 g2 g3 g4 => ?_
  rw [hcl2]
  have hRA := (hK.1.2 t _ (tysL_get (K := K) (by omega))).2
  rw [hty] at hRA
  obtain ⟨kA', comp', -, -, -, r4⟩ := hRA
  have hcA : cA = K t := Option.some.inj (g1.symm.trans r4)
  subst hcA
  have o2 : ∀ q : Nat, q < H.size → (H.push { cls := K t, slots := Array.replicate N .null, vm := .none })[q]? = H[q]? := fun q hq => by
    rw [Array.getElem?_push, if_neg (Nat.ne_of_lt hq)]
  have key := k (by omega) (by omega) _ locs L hL (hW.push (c1 := .inl (t, N, fun _ => -1)) (H1 := H.push { cls := K t, slots := Array.replicate N .null, vm := .none }) (by simp) (by
    show (H.push _)[n + off]? = some (vp_cell (K t) (N, cnt off t (fun _ => -1)))
    rw [arr_newR ht.1, ← hW.1]
    simp) o2) (hS.push (by simp) o2)
  rw [List.map_cons, rl_r (by omega)] at key
  refine W.widen (k := n + 1 - n0) (n := 16500 * (n + 1 - n0)) (by omega) (by omega) ?_
  rw [hW.1]
  exact key
theorem gx_aast (hG : Cx own b mL rt isI d a n0 Q G) {x i v : Int} {t N ci : Nat} {F : Int → Int} {fs : List Value} {C E : String} (hc : h x = cA t N F) (ht : 4 ≤ t ∧ t < 8) (hty : tyC t = .object E) (hv : h v = cO ci fs) (hci : (clsL[ci]?).map (fun r => r.1) = some C) (hca : C = E ∨ Cond.castable C E ∈ lw_tbl) (hi0 : 0 ≤ i) (hi1 : i < N) (hN : N ≤ 2147483647) (hd : decode b pc = .ok (.aastore, 1)) (hq : pc + 1 = q) (k : G q ls st n (hset h x (cA t N (up F i v)))) : G pc ls (Vr v :: Vi i :: Vr x :: st) n h := by
  obtain ⟨p, l, e, R, s, m, args, below, meth, c, D, K, bb, off, Z, hx, hb, hml, hown, hK, hI, hR, hof, hfin, rfl⟩ := hG
  subst hq
  intro h1 h2 H locs L hL hW hS
  obtain ⟨h0, -, -⟩ := hW.at hc
  obtain ⟨v0, hev, -⟩ := hW.at hv
  obtain ⟨r, hr, rfl⟩ := Option.map_eq_some_iff.mp hci
  simp only [List.map_cons, rl_r h0, rl_r v0]
  have hcell := arr_at hW hc
  have hcn : ∀ F9 : Int → Int, vp_cell (K t) (N, cnt off t F9) = arrV (K t) N (fun j : Nat => if F9 j < 0 then .null else .ref ((F9 j).toNat + off)) := fun F9 => by
    unfold cnt
    rw [if_neg (by omega), if_neg (by omega), vp_cell_q]
    congr 1
    funext j
    split <;> rfl
  rw [hcn] at hcell
  have ei := i3_clamp hi0 (by omega)
  have hRA := (hK.1.2 t _ (tysL_get (K := K) (by omega))).2
  rw [hty] at hRA
  obtain ⟨kA, comp, k1, k2, k3, -⟩ := hRA
  obtain ⟨r', hr', cellV, w1, w2, w3, -⟩ := hW.2.1 _ _ hev
  obtain ⟨hcls1, kC, hkC, hkind⟩ := (hK.1.1 ci _ hr).2
  have hasg : s.vm.assignable (D.1 ci) comp = true := by
    rcases hca with z | z
    · have e9 : comp = D.1 ci := Option.some.inj (k3.symm.trans (z ▸ hcls1))
      rw [e9]
      exact va_assign ⟨hcls1, kC, hkC, hkind⟩
    · exact vb_asgC (hK.2.2 _ _ (gtb_in z rfl)) comp (D.1 ci) k3 hcls1
  obtain ⟨kq, hkq, -⟩ := Vm.findClass_spec k3
  refine W.aast hx hb hcell (fun q h => by cases h) (fun h => by cases h) k1 k2 rfl hkq ⟨?_, ?_⟩ w1 (fun q h => by rw [w3] at h; cases h) (by rw [w2]; exact hkC) (by rw [w2]; exact hasg) rfl rfl hd fun H1 e1 z1 oq => ?_
  · rw [← i3_zero, i3_lt ⟨by omega, by omega⟩ ⟨by omega, by omega⟩]
    omega
  · rw [arrV_size]
    omega
  · have hA : off ≤ x.toNat + off := by omega
    refine k h1 h2 H1 _ L hL (hW.write hc z1 ?_ oq) (hS.put z1 oq hA)
    show H1[x.toNat + off]? = some (vp_cell (K t) (N, cnt off t (up F i v)))
    rw [e1, hcn]
    have e2 := arr_up (c := K t) (N := N) (F := F) (i := i) (z := v) (g := fun w => if w < 0 then .null else .ref (w.toNat + off)) ei
    rw [if_neg (by omega)] at e2
    exact congrArg some e2
theorem gx_objinit (hG : Cx own b mL rt isI d a n0 Q G) {x : Int} {idx : Nat} (hl : Cond.methodLink own idx objectInit ∈ lw_tbl) (hx0 : 0 ≤ x) (hw : Cond.instanceMethod objectInit ∈ lw_tbl ∧ Cond.code objectInit ⟨#[0xb1]⟩ 1 none ∈ lw_tbl) (hd0 : 1 ≤ d) (hst : (st.map fun v => v.category).sum ≤ 8) (hd : decode b pc = .ok (.invokespecial idx, 3)) (hq : pc + 3 = q) (k : G q ls st n h) : G pc ls (Vr x :: st) n h := by
  obtain ⟨p, l, e, R, s, m, args, below, meth, c, D, K, bb, off, Z, hx, hb, hml, hown, hK, hI, hR, hof, hfin, rfl⟩ := hG
  subst hq
  intro h1 h2 H locs L hL hW hS
  have hcat := st_cat (bb := bb) (off := off) hst
  rw [List.map_cons, rl_r hx0]
  refine W.objInit hx hb hown (hK.2.2 _ _ (gtb_in hl rfl)) (hK.2.2 _ _ (gtb_in hw.1 rfl)) (hK.2.2 _ _ (gtb_in hw.2 rfl)) rfl (by rw [hml]; exact hL.1.1) rfl hd (by omega) (by show 2 * 0 + _ + 12 ≤ _; omega) ?_
  exact k h1 h2 H locs L hL hW hS
end GN
end
section
/-! part 08: what the tables say, by places: printed by wip/tool/gen_facts.py -/
theorem mem_t {i : Nat} {w : Cond} (h : tables_1[i]? = some w) : w ∈ lw_tbl := List.mem_append_right _ (List.mem_of_getElem? h)
theorem mem_p {i : Nat} {w : Cond} (h : (k2_sels lw_privs)[i]? = some w) : w ∈ lw_tbl := List.mem_append_left _ (List.mem_of_getElem? h)
theorem in_X : ∀ w ∈ u_ws "WhoSaysOne" ft_X 16, w ∈ lw_tbl := by decide +kernel
theorem ok_X : ∀ j, j < 16 → parseFieldDescriptor (ft_X j).2.2.1 = some (fy_X j) := by decide +kernel
theorem nm_X : ∀ a, a < 16 → ∀ b, b < 16 → a ≠ b → (ft_X a).2.1 ≠ (ft_X b).2.1 := by decide +kernel
theorem in_Rw : ∀ w ∈ u_ws "WhoSaysOne$Row" ft_Rw 2, w ∈ lw_tbl := by decide +kernel
theorem ok_Rw : ∀ j, j < 2 → parseFieldDescriptor (ft_Rw j).2.2.1 = some (fy_Rw j) := by decide +kernel
theorem nm_Rw : ∀ a, a < 2 → ∀ b, b < 2 → a ≠ b → (ft_Rw a).2.1 ≠ (ft_Rw b).2.1 := by decide +kernel
theorem in_Gm : ∀ w ∈ u_ws "WhoSaysOne$Game" ft_Gm 4, w ∈ lw_tbl := by decide +kernel
theorem ok_Gm : ∀ j, j < 4 → parseFieldDescriptor (ft_Gm j).2.2.1 = some (fy_Gm j) := by decide +kernel
theorem nm_Gm : ∀ a, a < 4 → ∀ b, b < 4 → a ≠ b → (ft_Gm a).2.1 ≠ (ft_Gm b).2.1 := by decide +kernel
theorem in_Pl : ∀ w ∈ u_ws "WhoSaysOne$Player" ft_Pl 0, w ∈ lw_tbl := by decide +kernel
theorem ok_Pl : ∀ j, j < 0 → parseFieldDescriptor (ft_Pl j).2.2.1 = some (fy_Pl j) := by decide +kernel
theorem nm_Pl : ∀ a, a < 0 → ∀ b, b < 0 → a ≠ b → (ft_Pl a).2.1 ≠ (ft_Pl b).2.1 := by decide +kernel
theorem in_Sm : ∀ w ∈ u_ws "WhoSaysOne$Small" ft_Sm 0, w ∈ lw_tbl := by decide +kernel
theorem ok_Sm : ∀ j, j < 0 → parseFieldDescriptor (ft_Sm j).2.2.1 = some (fy_Sm j) := by decide +kernel
theorem nm_Sm : ∀ a, a < 0 → ∀ b, b < 0 → a ≠ b → (ft_Sm a).2.1 ≠ (ft_Sm b).2.1 := by decide +kernel
theorem in_Pr : ∀ w ∈ u_ws "WhoSaysOne$Pair" ft_Pr 0, w ∈ lw_tbl := by decide +kernel
theorem ok_Pr : ∀ j, j < 0 → parseFieldDescriptor (ft_Pr j).2.2.1 = some (fy_Pr j) := by decide +kernel
theorem nm_Pr : ∀ a, a < 0 → ∀ b, b < 0 → a ≠ b → (ft_Pr a).2.1 ≠ (ft_Pr b).2.1 := by decide +kernel
theorem in_Bs : ∀ w ∈ u_ws "WhoSaysOne$Best" ft_Bs 0, w ∈ lw_tbl := by decide +kernel
theorem ok_Bs : ∀ j, j < 0 → parseFieldDescriptor (ft_Bs j).2.2.1 = some (fy_Bs j) := by decide +kernel
theorem nm_Bs : ∀ a, a < 0 → ∀ b, b < 0 → a ≠ b → (ft_Bs a).2.1 ≠ (ft_Bs b).2.1 := by decide +kernel
theorem in_Lo : ∀ w ∈ u_ws "WhoSaysOne$Longer" ft_Lo 0, w ∈ lw_tbl := by decide +kernel
theorem ok_Lo : ∀ j, j < 0 → parseFieldDescriptor (ft_Lo j).2.2.1 = some (fy_Lo j) := by decide +kernel
theorem nm_Lo : ∀ a, a < 0 → ∀ b, b < 0 → a ≠ b → (ft_Lo a).2.1 ≠ (ft_Lo b).2.1 := by decide +kernel
theorem in_Ch : ∀ w ∈ u_ws "WhoSaysOne$Chance" ft_Ch 0, w ∈ lw_tbl := by decide +kernel
theorem ok_Ch : ∀ j, j < 0 → parseFieldDescriptor (ft_Ch j).2.2.1 = some (fy_Ch j) := by decide +kernel
theorem nm_Ch : ∀ a, a < 0 → ∀ b, b < 0 → a ≠ b → (ft_Ch a).2.1 ≠ (ft_Ch b).2.1 := by decide +kernel
theorem in_Rd : ∀ w ∈ u_ws "WhoSaysOne$Reader" ft_Rd 4, w ∈ lw_tbl := by decide +kernel
theorem ok_Rd : ∀ j, j < 4 → parseFieldDescriptor (ft_Rd j).2.2.1 = some (fy_Rd j) := by decide +kernel
theorem nm_Rd : ∀ a, a < 4 → ∀ b, b < 4 → a ≠ b → (ft_Rd a).2.1 ≠ (ft_Rd b).2.1 := by decide +kernel
theorem in_Su : ∀ w ∈ u_ws "WhoSaysOne$Sums" ft_Su 6, w ∈ lw_tbl := by decide +kernel
theorem ok_Su : ∀ j, j < 6 → parseFieldDescriptor (ft_Su j).2.2.1 = some (fy_Su j) := by decide +kernel
theorem nm_Su : ∀ a, a < 6 → ∀ b, b < 6 → a ≠ b → (ft_Su a).2.1 ≠ (ft_Su b).2.1 := by decide +kernel
theorem in_So : ∀ w ∈ u_ws "WhoSaysOne$Solver" ft_So 4, w ∈ lw_tbl := by decide +kernel
theorem ok_So : ∀ j, j < 4 → parseFieldDescriptor (ft_So j).2.2.1 = some (fy_So j) := by decide +kernel
theorem nm_So : ∀ a, a < 4 → ∀ b, b < 4 → a ≠ b → (ft_So a).2.1 ≠ (ft_So b).2.1 := by decide +kernel
theorem in_M : ∀ w ∈ u_ws "WhoSaysOneModel" ft_M 40, w ∈ lw_tbl := by decide +kernel
theorem ok_M : ∀ j, j < 40 → parseFieldDescriptor (ft_M j).2.2.1 = some (fy_M j) := by decide +kernel
theorem nm_M : ∀ a, a < 40 → ∀ b, b < 40 → a ≠ b → (ft_M a).2.1 ≠ (ft_M b).2.1 := by decide +kernel
theorem f_Gm_9 : Fld "WhoSaysOne$Game" 9 2 0 (.array .int) true true := ⟨"WhoSaysOne$Game", ft_Gm, 4, fy_Gm, rfl, by decide, in_Gm, ok_Gm, nm_Gm, rfl, rfl, (fun _ _ => rfl), mem_t (i := 35) (by decide +kernel)⟩
theorem f_Su_53 : Fld "WhoSaysOne$Sums" 53 2 0 (.array .int) true false := ⟨"WhoSaysOne$Game", ft_Gm, 4, fy_Gm, rfl, by decide, in_Gm, ok_Gm, nm_Gm, rfl, rfl, (fun z => by cases z), mem_t (i := 36) (by decide +kernel)⟩
theorem f_X_204 : Fld "WhoSaysOne" 204 2 0 (.array .int) true false := ⟨"WhoSaysOne$Game", ft_Gm, 4, fy_Gm, rfl, by decide, in_Gm, ok_Gm, nm_Gm, rfl, rfl, (fun z => by cases z), mem_t (i := 37) (by decide +kernel)⟩
theorem f_Gm_23 : Fld "WhoSaysOne$Game" 23 2 1 (.int) false true := ⟨"WhoSaysOne$Game", ft_Gm, 4, fy_Gm, rfl, by decide, in_Gm, ok_Gm, nm_Gm, rfl, rfl, (fun _ _ => rfl), mem_t (i := 38) (by decide +kernel)⟩
theorem f_Su_50 : Fld "WhoSaysOne$Sums" 50 2 1 (.int) false true := ⟨"WhoSaysOne$Game", ft_Gm, 4, fy_Gm, rfl, by decide, in_Gm, ok_Gm, nm_Gm, rfl, rfl, (fun _ z => by cases z), mem_t (i := 39) (by decide +kernel)⟩
theorem f_Rd_64 : Fld "WhoSaysOne$Reader" 64 2 1 (.int) false true := ⟨"WhoSaysOne$Game", ft_Gm, 4, fy_Gm, rfl, by decide, in_Gm, ok_Gm, nm_Gm, rfl, rfl, (fun _ z => by cases z), mem_t (i := 40) (by decide +kernel)⟩
theorem f_X_147 : Fld "WhoSaysOne" 147 2 1 (.int) false true := ⟨"WhoSaysOne$Game", ft_Gm, 4, fy_Gm, rfl, by decide, in_Gm, ok_Gm, nm_Gm, rfl, rfl, (fun _ z => by cases z), mem_t (i := 41) (by decide +kernel)⟩
theorem f_Gm_19 : Fld "WhoSaysOne$Game" 19 2 2 (.int) false true := ⟨"WhoSaysOne$Game", ft_Gm, 4, fy_Gm, rfl, by decide, in_Gm, ok_Gm, nm_Gm, rfl, rfl, (fun _ _ => rfl), mem_t (i := 42) (by decide +kernel)⟩
theorem f_So_24 : Fld "WhoSaysOne$Solver" 24 2 2 (.int) false true := ⟨"WhoSaysOne$Game", ft_Gm, 4, fy_Gm, rfl, by decide, in_Gm, ok_Gm, nm_Gm, rfl, rfl, (fun _ z => by cases z), mem_t (i := 43) (by decide +kernel)⟩
theorem f_Su_41 : Fld "WhoSaysOne$Sums" 41 2 2 (.int) false true := ⟨"WhoSaysOne$Game", ft_Gm, 4, fy_Gm, rfl, by decide, in_Gm, ok_Gm, nm_Gm, rfl, rfl, (fun _ z => by cases z), mem_t (i := 44) (by decide +kernel)⟩
theorem f_X_148 : Fld "WhoSaysOne" 148 2 2 (.int) false true := ⟨"WhoSaysOne$Game", ft_Gm, 4, fy_Gm, rfl, by decide, in_Gm, ok_Gm, nm_Gm, rfl, rfl, (fun _ z => by cases z), mem_t (i := 45) (by decide +kernel)⟩
theorem f_Gm_15 : Fld "WhoSaysOne$Game" 15 2 3 (.long) false true := ⟨"WhoSaysOne$Game", ft_Gm, 4, fy_Gm, rfl, by decide, in_Gm, ok_Gm, nm_Gm, rfl, rfl, (fun _ _ => rfl), mem_t (i := 46) (by decide +kernel)⟩
theorem f_Rd_12 : Fld "WhoSaysOne$Reader" 12 9 0 (.object "WhoSaysOne$Game") true true := ⟨"WhoSaysOne$Reader", ft_Rd, 4, fy_Rd, rfl, by decide, in_Rd, ok_Rd, nm_Rd, rfl, rfl, (fun _ _ => rfl), mem_t (i := 110) (by decide +kernel)⟩
theorem f_X_135 : Fld "WhoSaysOne" 135 9 0 (.object "WhoSaysOne$Game") true false := ⟨"WhoSaysOne$Reader", ft_Rd, 4, fy_Rd, rfl, by decide, in_Rd, ok_Rd, nm_Rd, rfl, rfl, (fun z => by cases z), mem_t (i := 111) (by decide +kernel)⟩
theorem f_Rd_18 : Fld "WhoSaysOne$Reader" 18 9 1 (.array .int) true true := ⟨"WhoSaysOne$Reader", ft_Rd, 4, fy_Rd, rfl, by decide, in_Rd, ok_Rd, nm_Rd, rfl, rfl, (fun _ _ => rfl), mem_t (i := 112) (by decide +kernel)⟩
theorem f_X_146 : Fld "WhoSaysOne" 146 9 1 (.array .int) true false := ⟨"WhoSaysOne$Reader", ft_Rd, 4, fy_Rd, rfl, by decide, in_Rd, ok_Rd, nm_Rd, rfl, rfl, (fun z => by cases z), mem_t (i := 113) (by decide +kernel)⟩
theorem f_Rd_26 : Fld "WhoSaysOne$Reader" 26 9 2 (.int) false true := ⟨"WhoSaysOne$Reader", ft_Rd, 4, fy_Rd, rfl, by decide, in_Rd, ok_Rd, nm_Rd, rfl, rfl, (fun _ _ => rfl), mem_t (i := 114) (by decide +kernel)⟩
theorem f_X_142 : Fld "WhoSaysOne" 142 9 2 (.int) false true := ⟨"WhoSaysOne$Reader", ft_Rd, 4, fy_Rd, rfl, by decide, in_Rd, ok_Rd, nm_Rd, rfl, rfl, (fun _ z => by cases z), mem_t (i := 115) (by decide +kernel)⟩
theorem f_Rd_30 : Fld "WhoSaysOne$Reader" 30 9 3 (.int) false true := ⟨"WhoSaysOne$Reader", ft_Rd, 4, fy_Rd, rfl, by decide, in_Rd, ok_Rd, nm_Rd, rfl, rfl, (fun _ _ => rfl), mem_t (i := 116) (by decide +kernel)⟩
theorem f_Su_9 : Fld "WhoSaysOne$Sums" 9 10 0 (.array .int) true true := ⟨"WhoSaysOne$Sums", ft_Su, 6, fy_Su, rfl, by decide, in_Su, ok_Su, nm_Su, rfl, rfl, (fun _ _ => rfl), mem_t (i := 134) (by decide +kernel)⟩
theorem f_Su_15 : Fld "WhoSaysOne$Sums" 15 10 1 (.array .int) true true := ⟨"WhoSaysOne$Sums", ft_Su, 6, fy_Su, rfl, by decide, in_Su, ok_Su, nm_Su, rfl, rfl, (fun _ _ => rfl), mem_t (i := 135) (by decide +kernel)⟩
theorem f_Su_30 : Fld "WhoSaysOne$Sums" 30 10 2 (.int) false true := ⟨"WhoSaysOne$Sums", ft_Su, 6, fy_Su, rfl, by decide, in_Su, ok_Su, nm_Su, rfl, rfl, (fun _ _ => rfl), mem_t (i := 136) (by decide +kernel)⟩
theorem f_Su_18 : Fld "WhoSaysOne$Sums" 18 10 3 (.array .int) true true := ⟨"WhoSaysOne$Sums", ft_Su, 6, fy_Su, rfl, by decide, in_Su, ok_Su, nm_Su, rfl, rfl, (fun _ _ => rfl), mem_t (i := 137) (by decide +kernel)⟩
theorem f_Su_21 : Fld "WhoSaysOne$Sums" 21 10 4 (.array .long) true true := ⟨"WhoSaysOne$Sums", ft_Su, 6, fy_Su, rfl, by decide, in_Su, ok_Su, nm_Su, rfl, rfl, (fun _ _ => rfl), mem_t (i := 138) (by decide +kernel)⟩
theorem f_Su_27 : Fld "WhoSaysOne$Sums" 27 10 5 (.array (.array .long)) true true := ⟨"WhoSaysOne$Sums", ft_Su, 6, fy_Su, rfl, by decide, in_Su, ok_Su, nm_Su, rfl, rfl, (fun _ _ => rfl), mem_t (i := 139) (by decide +kernel)⟩
theorem f_So_34 : Fld "WhoSaysOne$Solver" 34 11 0 (.int) false true := ⟨"WhoSaysOne$Solver", ft_So, 4, fy_So, rfl, by decide, in_So, ok_So, nm_So, rfl, rfl, (fun _ _ => rfl), mem_t (i := 160) (by decide +kernel)⟩
theorem f_So_11 : Fld "WhoSaysOne$Solver" 11 11 1 (.array .int) true true := ⟨"WhoSaysOne$Solver", ft_So, 4, fy_So, rfl, by decide, in_So, ok_So, nm_So, rfl, rfl, (fun _ _ => rfl), mem_t (i := 161) (by decide +kernel)⟩
theorem f_So_15 : Fld "WhoSaysOne$Solver" 15 11 2 (.array .int) true true := ⟨"WhoSaysOne$Solver", ft_So, 4, fy_So, rfl, by decide, in_So, ok_So, nm_So, rfl, rfl, (fun _ _ => rfl), mem_t (i := 162) (by decide +kernel)⟩
theorem f_So_37 : Fld "WhoSaysOne$Solver" 37 11 3 (.int) false true := ⟨"WhoSaysOne$Solver", ft_So, 4, fy_So, rfl, by decide, in_So, ok_So, nm_So, rfl, rfl, (fun _ _ => rfl), mem_t (i := 163) (by decide +kernel)⟩
theorem f_Rw_9 : Fld "WhoSaysOne$Row" 9 1 0 (.array .int) true true := ⟨"WhoSaysOne$Row", ft_Rw, 2, fy_Rw, rfl, by decide, in_Rw, ok_Rw, nm_Rw, rfl, rfl, (fun _ _ => rfl), mem_t (i := 178) (by decide +kernel)⟩
theorem f_Rd_38 : Fld "WhoSaysOne$Reader" 38 1 0 (.array .int) true false := ⟨"WhoSaysOne$Row", ft_Rw, 2, fy_Rw, rfl, by decide, in_Rw, ok_Rw, nm_Rw, rfl, rfl, (fun z => by cases z), mem_t (i := 179) (by decide +kernel)⟩
theorem f_X_96 : Fld "WhoSaysOne" 96 1 0 (.array .int) true false := ⟨"WhoSaysOne$Row", ft_Rw, 2, fy_Rw, rfl, by decide, in_Rw, ok_Rw, nm_Rw, rfl, rfl, (fun z => by cases z), mem_t (i := 180) (by decide +kernel)⟩
theorem f_Rw_15 : Fld "WhoSaysOne$Row" 15 1 1 (.int) false true := ⟨"WhoSaysOne$Row", ft_Rw, 2, fy_Rw, rfl, by decide, in_Rw, ok_Rw, nm_Rw, rfl, rfl, (fun _ _ => rfl), mem_t (i := 181) (by decide +kernel)⟩
theorem f_Rd_33 : Fld "WhoSaysOne$Reader" 33 1 1 (.int) false true := ⟨"WhoSaysOne$Row", ft_Rw, 2, fy_Rw, rfl, by decide, in_Rw, ok_Rw, nm_Rw, rfl, rfl, (fun _ z => by cases z), mem_t (i := 182) (by decide +kernel)⟩
theorem f_X_107 : Fld "WhoSaysOne" 107 1 1 (.int) false true := ⟨"WhoSaysOne$Row", ft_Rw, 2, fy_Rw, rfl, by decide, in_Rw, ok_Rw, nm_Rw, rfl, rfl, (fun _ z => by cases z), mem_t (i := 183) (by decide +kernel)⟩
theorem f_X_11 : Fld "WhoSaysOne" 11 0 0 (.array (.object "WhoSaysOne$Row")) true true := ⟨"WhoSaysOne", ft_X, 16, fy_X, rfl, by decide, in_X, ok_X, nm_X, rfl, rfl, (fun _ _ => rfl), mem_t (i := 189) (by decide +kernel)⟩
theorem f_X_15 : Fld "WhoSaysOne" 15 0 1 (.array (.object "WhoSaysOne$Row")) true true := ⟨"WhoSaysOne", ft_X, 16, fy_X, rfl, by decide, in_X, ok_X, nm_X, rfl, rfl, (fun _ _ => rfl), mem_t (i := 190) (by decide +kernel)⟩
theorem f_X_21 : Fld "WhoSaysOne" 21 0 2 (.object "WhoSaysOne$Game") true true := ⟨"WhoSaysOne", ft_X, 16, fy_X, rfl, by decide, in_X, ok_X, nm_X, rfl, rfl, (fun _ _ => rfl), mem_t (i := 191) (by decide +kernel)⟩
theorem f_X_25 : Fld "WhoSaysOne" 25 0 3 (.array (.object "WhoSaysOne$Game")) true true := ⟨"WhoSaysOne", ft_X, 16, fy_X, rfl, by decide, in_X, ok_X, nm_X, rfl, rfl, (fun _ _ => rfl), mem_t (i := 192) (by decide +kernel)⟩
theorem f_X_29 : Fld "WhoSaysOne" 29 0 4 (.array .boolean) true true := ⟨"WhoSaysOne", ft_X, 16, fy_X, rfl, by decide, in_X, ok_X, nm_X, rfl, rfl, (fun _ _ => rfl), mem_t (i := 193) (by decide +kernel)⟩
theorem f_X_51 : Fld "WhoSaysOne" 51 0 5 (.array (.object "WhoSaysOne$Player")) true true := ⟨"WhoSaysOne", ft_X, 16, fy_X, rfl, by decide, in_X, ok_X, nm_X, rfl, rfl, (fun _ _ => rfl), mem_t (i := 194) (by decide +kernel)⟩
theorem f_X_55 : Fld "WhoSaysOne" 55 0 6 (.array .int) true true := ⟨"WhoSaysOne", ft_X, 16, fy_X, rfl, by decide, in_X, ok_X, nm_X, rfl, rfl, (fun _ _ => rfl), mem_t (i := 195) (by decide +kernel)⟩
theorem f_X_145 : Fld "WhoSaysOne" 145 0 7 (.int) false true := ⟨"WhoSaysOne", ft_X, 16, fy_X, rfl, by decide, in_X, ok_X, nm_X, rfl, rfl, (fun _ _ => rfl), mem_t (i := 196) (by decide +kernel)⟩
theorem f_X_62 : Fld "WhoSaysOne" 62 0 8 (.object "WhoSaysOne$Reader") true true := ⟨"WhoSaysOne", ft_X, 16, fy_X, rfl, by decide, in_X, ok_X, nm_X, rfl, rfl, (fun _ _ => rfl), mem_t (i := 197) (by decide +kernel)⟩
theorem f_X_69 : Fld "WhoSaysOne" 69 0 9 (.object "WhoSaysOne$Sums") true true := ⟨"WhoSaysOne", ft_X, 16, fy_X, rfl, by decide, in_X, ok_X, nm_X, rfl, rfl, (fun _ _ => rfl), mem_t (i := 198) (by decide +kernel)⟩
theorem f_X_76 : Fld "WhoSaysOne" 76 0 10 (.object "WhoSaysOne$Solver") true true := ⟨"WhoSaysOne", ft_X, 16, fy_X, rfl, by decide, in_X, ok_X, nm_X, rfl, rfl, (fun _ _ => rfl), mem_t (i := 199) (by decide +kernel)⟩
theorem f_X_99 : Fld "WhoSaysOne" 99 0 11 (.int) false true := ⟨"WhoSaysOne", ft_X, 16, fy_X, rfl, by decide, in_X, ok_X, nm_X, rfl, rfl, (fun _ _ => rfl), mem_t (i := 200) (by decide +kernel)⟩
theorem f_X_289 : Fld "WhoSaysOne" 289 0 12 (.long) false true := ⟨"WhoSaysOne", ft_X, 16, fy_X, rfl, by decide, in_X, ok_X, nm_X, rfl, rfl, (fun _ _ => rfl), mem_t (i := 201) (by decide +kernel)⟩
theorem f_X_80 : Fld "WhoSaysOne" 80 0 13 (.long) false true := ⟨"WhoSaysOne", ft_X, 16, fy_X, rfl, by decide, in_X, ok_X, nm_X, rfl, rfl, (fun _ _ => rfl), mem_t (i := 202) (by decide +kernel)⟩
theorem f_X_302 : Fld "WhoSaysOne" 302 0 14 (.int) false true := ⟨"WhoSaysOne", ft_X, 16, fy_X, rfl, by decide, in_X, ok_X, nm_X, rfl, rfl, (fun _ _ => rfl), mem_t (i := 203) (by decide +kernel)⟩
theorem f_X_84 : Fld "WhoSaysOne" 84 0 15 (.array .int) true true := ⟨"WhoSaysOne", ft_X, 16, fy_X, rfl, by decide, in_X, ok_X, nm_X, rfl, rfl, (fun _ _ => rfl), mem_t (i := 204) (by decide +kernel)⟩
theorem f_M_92 : Fld "WhoSaysOneModel" 92 12 0 (.int) false true := ⟨"WhoSaysOneModel", ft_M, 40, fy_M, rfl, by decide, in_M, ok_M, nm_M, rfl, rfl, (fun _ _ => rfl), mem_t (i := 819) (by decide +kernel)⟩
theorem f_M_7 : Fld "WhoSaysOneModel" 7 12 1 (.array .int) true true := ⟨"WhoSaysOneModel", ft_M, 40, fy_M, rfl, by decide, in_M, ok_M, nm_M, rfl, rfl, (fun _ _ => rfl), mem_t (i := 820) (by decide +kernel)⟩
theorem f_M_100 : Fld "WhoSaysOneModel" 100 12 2 (.int) false true := ⟨"WhoSaysOneModel", ft_M, 40, fy_M, rfl, by decide, in_M, ok_M, nm_M, rfl, rfl, (fun _ _ => rfl), mem_t (i := 821) (by decide +kernel)⟩
theorem f_M_103 : Fld "WhoSaysOneModel" 103 12 3 (.long) false true := ⟨"WhoSaysOneModel", ft_M, 40, fy_M, rfl, by decide, in_M, ok_M, nm_M, rfl, rfl, (fun _ _ => rfl), mem_t (i := 822) (by decide +kernel)⟩
theorem f_M_88 : Fld "WhoSaysOneModel" 88 12 4 (.long) false true := ⟨"WhoSaysOneModel", ft_M, 40, fy_M, rfl, by decide, in_M, ok_M, nm_M, rfl, rfl, (fun _ _ => rfl), mem_t (i := 823) (by decide +kernel)⟩
theorem f_M_13 : Fld "WhoSaysOneModel" 13 12 5 (.array .int) true true := ⟨"WhoSaysOneModel", ft_M, 40, fy_M, rfl, by decide, in_M, ok_M, nm_M, rfl, rfl, (fun _ _ => rfl), mem_t (i := 824) (by decide +kernel)⟩
theorem f_M_16 : Fld "WhoSaysOneModel" 16 12 6 (.array .int) true true := ⟨"WhoSaysOneModel", ft_M, 40, fy_M, rfl, by decide, in_M, ok_M, nm_M, rfl, rfl, (fun _ _ => rfl), mem_t (i := 825) (by decide +kernel)⟩
theorem f_M_19 : Fld "WhoSaysOneModel" 19 12 7 (.array .int) true true := ⟨"WhoSaysOneModel", ft_M, 40, fy_M, rfl, by decide, in_M, ok_M, nm_M, rfl, rfl, (fun _ _ => rfl), mem_t (i := 826) (by decide +kernel)⟩
theorem f_M_22 : Fld "WhoSaysOneModel" 22 12 8 (.array .int) true true := ⟨"WhoSaysOneModel", ft_M, 40, fy_M, rfl, by decide, in_M, ok_M, nm_M, rfl, rfl, (fun _ _ => rfl), mem_t (i := 827) (by decide +kernel)⟩
theorem f_M_25 : Fld "WhoSaysOneModel" 25 12 9 (.array .byte) true true := ⟨"WhoSaysOneModel", ft_M, 40, fy_M, rfl, by decide, in_M, ok_M, nm_M, rfl, rfl, (fun _ _ => rfl), mem_t (i := 828) (by decide +kernel)⟩
theorem f_M_29 : Fld "WhoSaysOneModel" 29 12 10 (.array .int) true true := ⟨"WhoSaysOneModel", ft_M, 40, fy_M, rfl, by decide, in_M, ok_M, nm_M, rfl, rfl, (fun _ _ => rfl), mem_t (i := 829) (by decide +kernel)⟩
theorem f_M_172 : Fld "WhoSaysOneModel" 172 12 11 (.int) false true := ⟨"WhoSaysOneModel", ft_M, 40, fy_M, rfl, by decide, in_M, ok_M, nm_M, rfl, rfl, (fun _ _ => rfl), mem_t (i := 830) (by decide +kernel)⟩
theorem f_M_175 : Fld "WhoSaysOneModel" 175 12 12 (.int) false true := ⟨"WhoSaysOneModel", ft_M, 40, fy_M, rfl, by decide, in_M, ok_M, nm_M, rfl, rfl, (fun _ _ => rfl), mem_t (i := 831) (by decide +kernel)⟩
theorem f_M_32 : Fld "WhoSaysOneModel" 32 12 13 (.array .int) true true := ⟨"WhoSaysOneModel", ft_M, 40, fy_M, rfl, by decide, in_M, ok_M, nm_M, rfl, rfl, (fun _ _ => rfl), mem_t (i := 832) (by decide +kernel)⟩
theorem f_M_178 : Fld "WhoSaysOneModel" 178 12 14 (.int) false true := ⟨"WhoSaysOneModel", ft_M, 40, fy_M, rfl, by decide, in_M, ok_M, nm_M, rfl, rfl, (fun _ _ => rfl), mem_t (i := 833) (by decide +kernel)⟩
theorem f_M_35 : Fld "WhoSaysOneModel" 35 12 15 (.array .int) true true := ⟨"WhoSaysOneModel", ft_M, 40, fy_M, rfl, by decide, in_M, ok_M, nm_M, rfl, rfl, (fun _ _ => rfl), mem_t (i := 834) (by decide +kernel)⟩
theorem f_M_138 : Fld "WhoSaysOneModel" 138 12 16 (.int) false true := ⟨"WhoSaysOneModel", ft_M, 40, fy_M, rfl, by decide, in_M, ok_M, nm_M, rfl, rfl, (fun _ _ => rfl), mem_t (i := 835) (by decide +kernel)⟩
theorem f_M_148 : Fld "WhoSaysOneModel" 148 12 17 (.int) false true := ⟨"WhoSaysOneModel", ft_M, 40, fy_M, rfl, by decide, in_M, ok_M, nm_M, rfl, rfl, (fun _ _ => rfl), mem_t (i := 836) (by decide +kernel)⟩
theorem f_M_144 : Fld "WhoSaysOneModel" 144 12 18 (.boolean) false true := ⟨"WhoSaysOneModel", ft_M, 40, fy_M, rfl, by decide, in_M, ok_M, nm_M, rfl, rfl, (fun _ _ => rfl), mem_t (i := 837) (by decide +kernel)⟩
theorem f_M_163 : Fld "WhoSaysOneModel" 163 12 19 (.int) false true := ⟨"WhoSaysOneModel", ft_M, 40, fy_M, rfl, by decide, in_M, ok_M, nm_M, rfl, rfl, (fun _ _ => rfl), mem_t (i := 838) (by decide +kernel)⟩
theorem f_M_151 : Fld "WhoSaysOneModel" 151 12 20 (.int) false true := ⟨"WhoSaysOneModel", ft_M, 40, fy_M, rfl, by decide, in_M, ok_M, nm_M, rfl, rfl, (fun _ _ => rfl), mem_t (i := 839) (by decide +kernel)⟩
theorem f_M_38 : Fld "WhoSaysOneModel" 38 12 21 (.array .int) true true := ⟨"WhoSaysOneModel", ft_M, 40, fy_M, rfl, by decide, in_M, ok_M, nm_M, rfl, rfl, (fun _ _ => rfl), mem_t (i := 840) (by decide +kernel)⟩
theorem f_M_41 : Fld "WhoSaysOneModel" 41 12 22 (.array .int) true true := ⟨"WhoSaysOneModel", ft_M, 40, fy_M, rfl, by decide, in_M, ok_M, nm_M, rfl, rfl, (fun _ _ => rfl), mem_t (i := 841) (by decide +kernel)⟩
theorem f_M_44 : Fld "WhoSaysOneModel" 44 12 23 (.array .int) true true := ⟨"WhoSaysOneModel", ft_M, 40, fy_M, rfl, by decide, in_M, ok_M, nm_M, rfl, rfl, (fun _ _ => rfl), mem_t (i := 842) (by decide +kernel)⟩
theorem f_M_47 : Fld "WhoSaysOneModel" 47 12 24 (.array .int) true true := ⟨"WhoSaysOneModel", ft_M, 40, fy_M, rfl, by decide, in_M, ok_M, nm_M, rfl, rfl, (fun _ _ => rfl), mem_t (i := 843) (by decide +kernel)⟩
theorem f_M_50 : Fld "WhoSaysOneModel" 50 12 25 (.array .int) true true := ⟨"WhoSaysOneModel", ft_M, 40, fy_M, rfl, by decide, in_M, ok_M, nm_M, rfl, rfl, (fun _ _ => rfl), mem_t (i := 844) (by decide +kernel)⟩
theorem f_M_53 : Fld "WhoSaysOneModel" 53 12 26 (.array .long) true true := ⟨"WhoSaysOneModel", ft_M, 40, fy_M, rfl, by decide, in_M, ok_M, nm_M, rfl, rfl, (fun _ _ => rfl), mem_t (i := 845) (by decide +kernel)⟩
theorem f_M_57 : Fld "WhoSaysOneModel" 57 12 27 (.array .long) true true := ⟨"WhoSaysOneModel", ft_M, 40, fy_M, rfl, by decide, in_M, ok_M, nm_M, rfl, rfl, (fun _ _ => rfl), mem_t (i := 846) (by decide +kernel)⟩
theorem f_M_210 : Fld "WhoSaysOneModel" 210 12 28 (.int) false true := ⟨"WhoSaysOneModel", ft_M, 40, fy_M, rfl, by decide, in_M, ok_M, nm_M, rfl, rfl, (fun _ _ => rfl), mem_t (i := 847) (by decide +kernel)⟩
theorem f_M_60 : Fld "WhoSaysOneModel" 60 12 29 (.array .int) true true := ⟨"WhoSaysOneModel", ft_M, 40, fy_M, rfl, by decide, in_M, ok_M, nm_M, rfl, rfl, (fun _ _ => rfl), mem_t (i := 848) (by decide +kernel)⟩
theorem f_M_63 : Fld "WhoSaysOneModel" 63 12 30 (.array .int) true true := ⟨"WhoSaysOneModel", ft_M, 40, fy_M, rfl, by decide, in_M, ok_M, nm_M, rfl, rfl, (fun _ _ => rfl), mem_t (i := 849) (by decide +kernel)⟩
theorem f_M_66 : Fld "WhoSaysOneModel" 66 12 31 (.array .int) true true := ⟨"WhoSaysOneModel", ft_M, 40, fy_M, rfl, by decide, in_M, ok_M, nm_M, rfl, rfl, (fun _ _ => rfl), mem_t (i := 850) (by decide +kernel)⟩
theorem f_M_69 : Fld "WhoSaysOneModel" 69 12 32 (.array .boolean) true true := ⟨"WhoSaysOneModel", ft_M, 40, fy_M, rfl, by decide, in_M, ok_M, nm_M, rfl, rfl, (fun _ _ => rfl), mem_t (i := 851) (by decide +kernel)⟩
theorem f_M_73 : Fld "WhoSaysOneModel" 73 12 33 (.array .int) true true := ⟨"WhoSaysOneModel", ft_M, 40, fy_M, rfl, by decide, in_M, ok_M, nm_M, rfl, rfl, (fun _ _ => rfl), mem_t (i := 852) (by decide +kernel)⟩
theorem f_M_76 : Fld "WhoSaysOneModel" 76 12 34 (.array .int) true true := ⟨"WhoSaysOneModel", ft_M, 40, fy_M, rfl, by decide, in_M, ok_M, nm_M, rfl, rfl, (fun _ _ => rfl), mem_t (i := 853) (by decide +kernel)⟩
theorem f_M_269 : Fld "WhoSaysOneModel" 269 12 35 (.long) false true := ⟨"WhoSaysOneModel", ft_M, 40, fy_M, rfl, by decide, in_M, ok_M, nm_M, rfl, rfl, (fun _ _ => rfl), mem_t (i := 854) (by decide +kernel)⟩
theorem f_M_79 : Fld "WhoSaysOneModel" 79 12 36 (.array .boolean) true true := ⟨"WhoSaysOneModel", ft_M, 40, fy_M, rfl, by decide, in_M, ok_M, nm_M, rfl, rfl, (fun _ _ => rfl), mem_t (i := 855) (by decide +kernel)⟩
theorem f_M_82 : Fld "WhoSaysOneModel" 82 12 37 (.array .int) true true := ⟨"WhoSaysOneModel", ft_M, 40, fy_M, rfl, by decide, in_M, ok_M, nm_M, rfl, rfl, (fun _ _ => rfl), mem_t (i := 856) (by decide +kernel)⟩
theorem f_M_85 : Fld "WhoSaysOneModel" 85 12 38 (.array .int) true true := ⟨"WhoSaysOneModel", ft_M, 40, fy_M, rfl, by decide, in_M, ok_M, nm_M, rfl, rfl, (fun _ _ => rfl), mem_t (i := 857) (by decide +kernel)⟩
theorem f_M_318 : Fld "WhoSaysOneModel" 318 12 39 (.long) false true := ⟨"WhoSaysOneModel", ft_M, 40, fy_M, rfl, by decide, in_M, ok_M, nm_M, rfl, rfl, (fun _ _ => rfl), mem_t (i := 858) (by decide +kernel)⟩
theorem c_X_init : LkC y_X_init b_X_init 2 none 0 := ⟨⟨by decide, by decide, by decide +kernel⟩, mem_t (i := 23) (by decide +kernel), mem_t (i := 1) (by decide +kernel), by decide⟩
theorem c_Gm_init : LkC y_Gm_init b_Gm_init 1 none 0 := ⟨⟨by decide, by decide, by decide +kernel⟩, mem_t (i := 33) (by decide +kernel), mem_t (i := 2) (by decide +kernel), by decide⟩
theorem c_Pl_init : LkC y_Pl_init b_Pl_init 1 none 0 := ⟨⟨by decide, by decide, by decide +kernel⟩, mem_t (i := 63) (by decide +kernel), mem_t (i := 3) (by decide +kernel), by decide⟩
theorem c_Sm_init : LkC y_Sm_init b_Sm_init 1 none 0 := ⟨⟨by decide, by decide, by decide +kernel⟩, mem_t (i := 71) (by decide +kernel), mem_t (i := 4) (by decide +kernel), by decide⟩
theorem c_Pr_init : LkC y_Pr_init b_Pr_init 1 none 0 := ⟨⟨by decide, by decide, by decide +kernel⟩, mem_t (i := 78) (by decide +kernel), mem_t (i := 5) (by decide +kernel), by decide⟩
theorem c_Bs_init : LkC y_Bs_init b_Bs_init 1 none 0 := ⟨⟨by decide, by decide, by decide +kernel⟩, mem_t (i := 85) (by decide +kernel), mem_t (i := 6) (by decide +kernel), by decide⟩
theorem c_Lo_init : LkC y_Lo_init b_Lo_init 1 none 0 := ⟨⟨by decide, by decide, by decide +kernel⟩, mem_t (i := 92) (by decide +kernel), mem_t (i := 7) (by decide +kernel), by decide⟩
theorem c_Ch_init : LkC y_Ch_init b_Ch_init 1 none 0 := ⟨⟨by decide, by decide, by decide +kernel⟩, mem_t (i := 99) (by decide +kernel), mem_t (i := 8) (by decide +kernel), by decide⟩
theorem c_Rd_init : LkC y_Rd_init b_Rd_init 1 none 0 := ⟨⟨by decide, by decide, by decide +kernel⟩, mem_t (i := 106) (by decide +kernel), mem_t (i := 9) (by decide +kernel), by decide⟩
theorem c_Su_init : LkC y_Su_init b_Su_init 1 none 0 := ⟨⟨by decide, by decide, by decide +kernel⟩, mem_t (i := 130) (by decide +kernel), mem_t (i := 10) (by decide +kernel), by decide⟩
theorem c_So_init : LkC y_So_init b_So_init 1 none 0 := ⟨⟨by decide, by decide, by decide +kernel⟩, mem_t (i := 158) (by decide +kernel), mem_t (i := 11) (by decide +kernel), by decide⟩
theorem c_Rw_init : LkC y_Rw_init b_Rw_init 1 none 0 := ⟨⟨by decide, by decide, by decide +kernel⟩, mem_t (i := 176) (by decide +kernel), mem_t (i := 12) (by decide +kernel), by decide⟩
theorem c_X_row : LkC y_X_row b_X_row 3 (some .int) 2 := ⟨⟨by decide, by decide, by decide +kernel⟩, mem_t (i := 241) (by decide +kernel), mem_t (i := 1) (by decide +kernel), by decide⟩
theorem c_X_begin : LkC y_X_begin b_X_begin 5 (some .int) 4 := ⟨⟨by decide, by decide, by decide +kernel⟩, mem_t (i := 245) (by decide +kernel), mem_t (i := 1) (by decide +kernel), by decide⟩
theorem c_X_isIn : LkC y_X_isIn b_X_isIn 2 (some .boolean) 2 := ⟨⟨by decide, by decide, by decide +kernel⟩, mem_t (i := 248) (by decide +kernel), mem_t (i := 1) (by decide +kernel), by decide⟩
theorem c_X_found : LkC y_X_found b_X_found 2 (some .int) 1 := ⟨⟨by decide, by decide, by decide +kernel⟩, mem_t (i := 252) (by decide +kernel), mem_t (i := 1) (by decide +kernel), by decide⟩
theorem c_Rw_begin : LkC y_Rw_begin b_Rw_begin 3 none 2 := ⟨⟨by decide, by decide, by decide +kernel⟩, mem_t (i := 256) (by decide +kernel), mem_t (i := 12) (by decide +kernel), by decide⟩
theorem c_Ar_fillI : LkC y_Ar_fillI b_Ar_fillI 4 none 2 := ⟨⟨by decide, by decide, by decide +kernel⟩, mem_t (i := 259) (by decide +kernel), mem_t (i := 14) (by decide +kernel), by decide⟩
theorem c_X_lay : LkC y_X_lay b_X_lay 5 (some .int) 3 := ⟨⟨by decide, by decide, by decide +kernel⟩, mem_t (i := 263) (by decide +kernel), mem_t (i := 1) (by decide +kernel), by decide⟩
theorem c_X_refusedPlace : LkC y_X_refusedPlace b_X_refusedPlace 5 (some .int) 3 := ⟨⟨by decide, by decide, by decide +kernel⟩, mem_t (i := 267) (by decide +kernel), mem_t (i := 1) (by decide +kernel), by decide⟩
theorem c_X_refusedRow : LkC y_X_refusedRow b_X_refusedRow 3 (some .int) 2 := ⟨⟨by decide, by decide, by decide +kernel⟩, mem_t (i := 271) (by decide +kernel), mem_t (i := 1) (by decide +kernel), by decide⟩
theorem c_Rw_isThere : LkC y_Rw_isThere b_Rw_isThere 1 (some .boolean) 0 := ⟨⟨by decide, by decide, by decide +kernel⟩, mem_t (i := 275) (by decide +kernel), mem_t (i := 12) (by decide +kernel), by decide⟩
theorem c_X_at : LkC y_X_at b_X_at 4 (some .int) 2 := ⟨⟨by decide, by decide, by decide +kernel⟩, mem_t (i := 279) (by decide +kernel), mem_t (i := 1) (by decide +kernel), by decide⟩
theorem c_X_tear : LkC y_X_tear b_X_tear 3 (some .int) 1 := ⟨⟨by decide, by decide, by decide +kernel⟩, mem_t (i := 283) (by decide +kernel), mem_t (i := 1) (by decide +kernel), by decide⟩
theorem c_X_copy : LkC y_X_copy b_X_copy 6 (some .int) 5 := ⟨⟨by decide, by decide, by decide +kernel⟩, mem_t (i := 287) (by decide +kernel), mem_t (i := 1) (by decide +kernel), by decide⟩
theorem c_Rw_holdsRun : LkC y_Rw_holdsRun b_Rw_holdsRun 3 (some .boolean) 2 := ⟨⟨by decide, by decide, by decide +kernel⟩, mem_t (i := 291) (by decide +kernel), mem_t (i := 12) (by decide +kernel), by decide⟩
theorem c_X_mean : LkC y_X_mean b_X_mean 7 (some .int) 1 := ⟨⟨by decide, by decide, by decide +kernel⟩, mem_t (i := 298) (by decide +kernel), mem_t (i := 1) (by decide +kernel), by decide⟩
theorem c_X_text : LkC y_X_text b_X_text 3 (some .int) 2 := ⟨⟨by decide, by decide, by decide +kernel⟩, mem_t (i := 302) (by decide +kernel), mem_t (i := 1) (by decide +kernel), by decide⟩
theorem c_X_put : LkC y_X_put b_X_put 6 (some .int) 3 := ⟨⟨by decide, by decide, by decide +kernel⟩, mem_t (i := 306) (by decide +kernel), mem_t (i := 1) (by decide +kernel), by decide⟩
theorem c_X_fault : LkC y_X_fault b_X_fault 3 (some .int) 1 := ⟨⟨by decide, by decide, by decide +kernel⟩, mem_t (i := 310) (by decide +kernel), mem_t (i := 1) (by decide +kernel), by decide⟩
theorem c_Rd_faultOf : LkC y_Rd_faultOf b_Rd_faultOf 4 (some .int) 1 := ⟨⟨by decide, by decide, by decide +kernel⟩, mem_t (i := 314) (by decide +kernel), mem_t (i := 9) (by decide +kernel), by decide⟩
theorem c_Gm_begin : LkC y_Gm_begin b_Gm_begin 2 none 1 := ⟨⟨by decide, by decide, by decide +kernel⟩, mem_t (i := 318) (by decide +kernel), mem_t (i := 2) (by decide +kernel), by decide⟩
theorem c_Rd_takesItem : LkC y_Rd_takesItem b_Rd_takesItem 3 (some .boolean) 2 := ⟨⟨by decide, by decide, by decide +kernel⟩, mem_t (i := 322) (by decide +kernel), mem_t (i := 9) (by decide +kernel), by decide⟩
theorem c_Rd_takesLaw : LkC y_Rd_takesLaw b_Rd_takesLaw 3 (some .boolean) 1 := ⟨⟨by decide, by decide, by decide +kernel⟩, mem_t (i := 326) (by decide +kernel), mem_t (i := 9) (by decide +kernel), by decide⟩
theorem c_Rd_figureHere : LkC y_Rd_figureHere b_Rd_figureHere 3 (some .int) 1 := ⟨⟨by decide, by decide, by decide +kernel⟩, mem_t (i := 330) (by decide +kernel), mem_t (i := 9) (by decide +kernel), by decide⟩
theorem c_Rd_takesNumber : LkC y_Rd_takesNumber b_Rd_takesNumber 4 (some .boolean) 1 := ⟨⟨by decide, by decide, by decide +kernel⟩, mem_t (i := 335) (by decide +kernel), mem_t (i := 9) (by decide +kernel), by decide⟩
theorem c_Gm_isOpen : LkC y_Gm_isOpen b_Gm_isOpen 2 (some .boolean) 1 := ⟨⟨by decide, by decide, by decide +kernel⟩, mem_t (i := 339) (by decide +kernel), mem_t (i := 2) (by decide +kernel), by decide⟩
theorem c_Gm_open : LkC y_Gm_open b_Gm_open 1 (some .long) 0 := ⟨⟨by decide, by decide, by decide +kernel⟩, mem_t (i := 343) (by decide +kernel), mem_t (i := 2) (by decide +kernel), by decide⟩
theorem c_Gm_add : LkC y_Gm_add b_Gm_add 2 none 1 := ⟨⟨by decide, by decide, by decide +kernel⟩, mem_t (i := 349) (by decide +kernel), mem_t (i := 2) (by decide +kernel), by decide⟩
theorem c_Gm_reachedWith : LkC y_Gm_reachedWith b_Gm_reachedWith 2 (some .long) 1 := ⟨⟨by decide, by decide, by decide +kernel⟩, mem_t (i := 354) (by decide +kernel), mem_t (i := 2) (by decide +kernel), by decide⟩
theorem c_Gm_widened : LkC y_Gm_widened b_Gm_widened 9 (some .long) 3 := ⟨⟨by decide, by decide, by decide +kernel⟩, mem_t (i := 357) (by decide +kernel), mem_t (i := 2) (by decide +kernel), by decide⟩
theorem c_X_lowestOf : LkC y_X_lowestOf b_X_lowestOf 3 (some .int) 1 := ⟨⟨by decide, by decide, by decide +kernel⟩, mem_t (i := 361) (by decide +kernel), mem_t (i := 1) (by decide +kernel), by decide⟩
theorem c_X_divisorOf : LkC y_X_divisorOf b_X_divisorOf 6 (some .int) 2 := ⟨⟨by decide, by decide, by decide +kernel⟩, mem_t (i := 364) (by decide +kernel), mem_t (i := 1) (by decide +kernel), by decide⟩
theorem c_Rd_takesPlayer : LkC y_Rd_takesPlayer b_Rd_takesPlayer 2 (some .boolean) 1 := ⟨⟨by decide, by decide, by decide +kernel⟩, mem_t (i := 368) (by decide +kernel), mem_t (i := 9) (by decide +kernel), by decide⟩
theorem c_X_game : LkC y_X_game b_X_game 4 (some .int) 1 := ⟨⟨by decide, by decide, by decide +kernel⟩, mem_t (i := 372) (by decide +kernel), mem_t (i := 1) (by decide +kernel), by decide⟩
theorem c_Gm_become : LkC y_Gm_become b_Gm_become 2 none 1 := ⟨⟨by decide, by decide, by decide +kernel⟩, mem_t (i := 376) (by decide +kernel), mem_t (i := 2) (by decide +kernel), by decide⟩
theorem c_X_law : LkC y_X_law b_X_law 1 (some .int) 0 := ⟨⟨by decide, by decide, by decide +kernel⟩, mem_t (i := 381) (by decide +kernel), mem_t (i := 1) (by decide +kernel), by decide⟩
theorem c_X_player : LkC y_X_player b_X_player 2 (some .int) 1 := ⟨⟨by decide, by decide, by decide +kernel⟩, mem_t (i := 385) (by decide +kernel), mem_t (i := 1) (by decide +kernel), by decide⟩
theorem c_X_mark : LkC y_X_mark b_X_mark 4 (some .int) 2 := ⟨⟨by decide, by decide, by decide +kernel⟩, mem_t (i := 389) (by decide +kernel), mem_t (i := 1) (by decide +kernel), by decide⟩
theorem c_X_playerAt : LkC y_X_playerAt b_X_playerAt 2 (some (.object "WhoSaysOne$Player")) 1 := ⟨⟨by decide, by decide, by decide +kernel⟩, mem_t (i := 393) (by decide +kernel), mem_t (i := 1) (by decide +kernel), by decide⟩
theorem c_X_isOf : LkC y_X_isOf b_X_isOf 2 (some .boolean) 2 := ⟨⟨by decide, by decide, by decide +kernel⟩, mem_t (i := 396) (by decide +kernel), mem_t (i := 1) (by decide +kernel), by decide⟩
theorem c_Gm_isOver : LkC y_Gm_isOver b_Gm_isOver 1 (some .boolean) 0 := ⟨⟨by decide, by decide, by decide +kernel⟩, mem_t (i := 400) (by decide +kernel), mem_t (i := 2) (by decide +kernel), by decide⟩
theorem c_Gm_last : LkC y_Gm_last b_Gm_last 1 (some .int) 0 := ⟨⟨by decide, by decide, by decide +kernel⟩, mem_t (i := 404) (by decide +kernel), mem_t (i := 2) (by decide +kernel), by decide⟩
theorem c_Bs_choice : LkC y_Bs_choice b_Bs_choice 5 (some .int) 3 := ⟨⟨by decide, by decide, by decide +kernel⟩, mem_t (i := 411) (by decide +kernel), mem_t (i := 6) (by decide +kernel), by decide⟩
theorem c_So_load : LkC y_So_load b_So_load 4 (some .boolean) 1 := ⟨⟨by decide, by decide, by decide +kernel⟩, mem_t (i := 415) (by decide +kernel), mem_t (i := 11) (by decide +kernel), by decide⟩
theorem c_Lg_bitCount : LkC y_Lg_bitCount b_Lg_bitCount 2 (some .int) 1 := ⟨⟨by decide, by decide, by decide +kernel⟩, mem_t (i := 419) (by decide +kernel), mem_t (i := 16) (by decide +kernel), by decide⟩
theorem c_So_leastWin : LkC y_So_leastWin b_So_leastWin 2 (some .int) 0 := ⟨⟨by decide, by decide, by decide +kernel⟩, mem_t (i := 427) (by decide +kernel), mem_t (i := 11) (by decide +kernel), by decide⟩
theorem c_So_winsBy : LkC y_So_winsBy b_So_winsBy 2 (some .boolean) 1 := ⟨⟨by decide, by decide, by decide +kernel⟩, mem_t (i := 431) (by decide +kernel), mem_t (i := 11) (by decide +kernel), by decide⟩
theorem c_So_gapsBehind : LkC y_So_gapsBehind b_So_gapsBehind 4 (some .int) 2 := ⟨⟨by decide, by decide, by decide +kernel⟩, mem_t (i := 434) (by decide +kernel), mem_t (i := 11) (by decide +kernel), by decide⟩
theorem c_So_solved : LkC y_So_solved b_So_solved 8 (some .int) 3 := ⟨⟨by decide, by decide, by decide +kernel⟩, mem_t (i := 438) (by decide +kernel), mem_t (i := 11) (by decide +kernel), by decide⟩
theorem c_So_slotOf : LkC y_So_slotOf b_So_slotOf 5 (some .int) 1 := ⟨⟨by decide, by decide, by decide +kernel⟩, mem_t (i := 442) (by decide +kernel), mem_t (i := 11) (by decide +kernel), by decide⟩
theorem c_Ma_min : LkC y_Ma_min b_Ma_min 2 (some .int) 2 := ⟨⟨by decide, by decide, by decide +kernel⟩, mem_t (i := 446) (by decide +kernel), mem_t (i := 17) (by decide +kernel), by decide⟩
theorem c_So_isWin : LkC y_So_isWin b_So_isWin 1 (some .boolean) 1 := ⟨⟨by decide, by decide, by decide +kernel⟩, mem_t (i := 449) (by decide +kernel), mem_t (i := 11) (by decide +kernel), by decide⟩
theorem c_So_remember : LkC y_So_remember b_So_remember 4 none 2 := ⟨⟨by decide, by decide, by decide +kernel⟩, mem_t (i := 453) (by decide +kernel), mem_t (i := 11) (by decide +kernel), by decide⟩
theorem c_Gm_leastAboveOne : LkC y_Gm_leastAboveOne b_Gm_leastAboveOne 3 (some .int) 0 := ⟨⟨by decide, by decide, by decide +kernel⟩, mem_t (i := 457) (by decide +kernel), mem_t (i := 2) (by decide +kernel), by decide⟩
theorem c_Gm_openAboveOne : LkC y_Gm_openAboveOne b_Gm_openAboveOne 1 (some .long) 0 := ⟨⟨by decide, by decide, by decide +kernel⟩, mem_t (i := 461) (by decide +kernel), mem_t (i := 2) (by decide +kernel), by decide⟩
theorem c_Ch_choice : LkC y_Ch_choice b_Ch_choice 9 (some .int) 3 := ⟨⟨by decide, by decide, by decide +kernel⟩, mem_t (i := 465) (by decide +kernel), mem_t (i := 8) (by decide +kernel), by decide⟩
theorem c_Pr_choice : LkC y_Pr_choice b_Pr_choice 5 (some .int) 3 := ⟨⟨by decide, by decide, by decide +kernel⟩, mem_t (i := 468) (by decide +kernel), mem_t (i := 5) (by decide +kernel), by decide⟩
theorem c_Gm_pairNumber : LkC y_Gm_pairNumber b_Gm_pairNumber 1 (some .int) 0 := ⟨⟨by decide, by decide, by decide +kernel⟩, mem_t (i := 472) (by decide +kernel), mem_t (i := 2) (by decide +kernel), by decide⟩
theorem c_X_highestOf : LkC y_X_highestOf b_X_highestOf 3 (some .int) 1 := ⟨⟨by decide, by decide, by decide +kernel⟩, mem_t (i := 475) (by decide +kernel), mem_t (i := 1) (by decide +kernel), by decide⟩
theorem c_Sm_choice : LkC y_Sm_choice b_Sm_choice 8 (some .int) 3 := ⟨⟨by decide, by decide, by decide +kernel⟩, mem_t (i := 483) (by decide +kernel), mem_t (i := 4) (by decide +kernel), by decide⟩
theorem c_Gm_openBehind : LkC y_Gm_openBehind b_Gm_openBehind 2 (some .int) 1 := ⟨⟨by decide, by decide, by decide +kernel⟩, mem_t (i := 488) (by decide +kernel), mem_t (i := 2) (by decide +kernel), by decide⟩
theorem c_Lo_isBetter : LkC y_Lo_isBetter b_Lo_isBetter 3 (some .boolean) 2 := ⟨⟨by decide, by decide, by decide +kernel⟩, mem_t (i := 496) (by decide +kernel), mem_t (i := 7) (by decide +kernel), by decide⟩
theorem c_Sm_isBetter : LkC y_Sm_isBetter b_Sm_isBetter 3 (some .boolean) 2 := ⟨⟨by decide, by decide, by decide +kernel⟩, mem_t (i := 497) (by decide +kernel), mem_t (i := 4) (by decide +kernel), by decide⟩
theorem c_Pl_choice : LkC y_Pl_choice b_Pl_choice 4 (some .int) 3 := ⟨⟨by decide, by decide, by decide +kernel⟩, mem_t (i := 500) (by decide +kernel), mem_t (i := 3) (by decide +kernel), by decide⟩
theorem c_So_winCount : LkC y_So_winCount b_So_winCount 3 (some .int) 0 := ⟨⟨by decide, by decide, by decide +kernel⟩, mem_t (i := 509) (by decide +kernel), mem_t (i := 11) (by decide +kernel), by decide⟩
theorem c_Gm_openCount : LkC y_Gm_openCount b_Gm_openCount 1 (some .int) 0 := ⟨⟨by decide, by decide, by decide +kernel⟩, mem_t (i := 513) (by decide +kernel), mem_t (i := 2) (by decide +kernel), by decide⟩
theorem c_X_say : LkC y_X_say b_X_say 2 (some .int) 1 := ⟨⟨by decide, by decide, by decide +kernel⟩, mem_t (i := 519) (by decide +kernel), mem_t (i := 1) (by decide +kernel), by decide⟩
theorem c_X_may : LkC y_X_may b_X_may 2 (some .int) 1 := ⟨⟨by decide, by decide, by decide +kernel⟩, mem_t (i := 525) (by decide +kernel), mem_t (i := 1) (by decide +kernel), by decide⟩
theorem c_X_said : LkC y_X_said b_X_said 2 (some .int) 1 := ⟨⟨by decide, by decide, by decide +kernel⟩, mem_t (i := 529) (by decide +kernel), mem_t (i := 1) (by decide +kernel), by decide⟩
theorem c_X_undo : LkC y_X_undo b_X_undo 3 (some .int) 1 := ⟨⟨by decide, by decide, by decide +kernel⟩, mem_t (i := 533) (by decide +kernel), mem_t (i := 1) (by decide +kernel), by decide⟩
theorem c_Gm_cut : LkC y_Gm_cut b_Gm_cut 2 none 1 := ⟨⟨by decide, by decide, by decide +kernel⟩, mem_t (i := 537) (by decide +kernel), mem_t (i := 2) (by decide +kernel), by decide⟩
theorem c_Gm_reachedWithout : LkC y_Gm_reachedWithout b_Gm_reachedWithout 5 (some .long) 1 := ⟨⟨by decide, by decide, by decide +kernel⟩, mem_t (i := 541) (by decide +kernel), mem_t (i := 2) (by decide +kernel), by decide⟩
theorem c_X_turn : LkC y_X_turn b_X_turn 1 (some .int) 0 := ⟨⟨by decide, by decide, by decide +kernel⟩, mem_t (i := 545) (by decide +kernel), mem_t (i := 1) (by decide +kernel), by decide⟩
theorem c_Gm_loser : LkC y_Gm_loser b_Gm_loser 1 (some .int) 0 := ⟨⟨by decide, by decide, by decide +kernel⟩, mem_t (i := 549) (by decide +kernel), mem_t (i := 2) (by decide +kernel), by decide⟩
theorem c_X_keep : LkC y_X_keep b_X_keep 2 (some .int) 1 := ⟨⟨by decide, by decide, by decide +kernel⟩, mem_t (i := 554) (by decide +kernel), mem_t (i := 1) (by decide +kernel), by decide⟩
theorem c_X_on : LkC y_X_on b_X_on 2 (some .int) 1 := ⟨⟨by decide, by decide, by decide +kernel⟩, mem_t (i := 558) (by decide +kernel), mem_t (i := 1) (by decide +kernel), by decide⟩
theorem c_X_had : LkC y_X_had b_X_had 3 (some .int) 1 := ⟨⟨by decide, by decide, by decide +kernel⟩, mem_t (i := 562) (by decide +kernel), mem_t (i := 1) (by decide +kernel), by decide⟩
theorem c_Gm_divisor : LkC y_Gm_divisor b_Gm_divisor 3 (some .int) 0 := ⟨⟨by decide, by decide, by decide +kernel⟩, mem_t (i := 566) (by decide +kernel), mem_t (i := 2) (by decide +kernel), by decide⟩
theorem c_Su_fewest : LkC y_Su_fewest b_Su_fewest 4 (some .int) 2 := ⟨⟨by decide, by decide, by decide +kernel⟩, mem_t (i := 570) (by decide +kernel), mem_t (i := 10) (by decide +kernel), by decide⟩
theorem c_Su_takeThrice : LkC y_Su_takeThrice b_Su_takeThrice 5 none 2 := ⟨⟨by decide, by decide, by decide +kernel⟩, mem_t (i := 576) (by decide +kernel), mem_t (i := 10) (by decide +kernel), by decide⟩
theorem c_Su_takeOften : LkC y_Su_takeOften b_Su_takeOften 4 none 2 := ⟨⟨by decide, by decide, by decide +kernel⟩, mem_t (i := 581) (by decide +kernel), mem_t (i := 10) (by decide +kernel), by decide⟩
theorem c_X_ways : LkC y_X_ways b_X_ways 2 (some .int) 1 := ⟨⟨by decide, by decide, by decide +kernel⟩, mem_t (i := 586) (by decide +kernel), mem_t (i := 1) (by decide +kernel), by decide⟩
theorem c_Su_waysOf : LkC y_Su_waysOf b_Su_waysOf 6 (some .long) 2 := ⟨⟨by decide, by decide, by decide +kernel⟩, mem_t (i := 590) (by decide +kernel), mem_t (i := 10) (by decide +kernel), by decide⟩
theorem c_Ar_fillJ : LkC y_Ar_fillJ b_Ar_fillJ 5 none 2 := ⟨⟨by decide, by decide, by decide +kernel⟩, mem_t (i := 593) (by decide +kernel), mem_t (i := 14) (by decide +kernel), by decide⟩
theorem c_X_tellFraction : LkC y_X_tellFraction b_X_tellFraction 6 none 2 := ⟨⟨by decide, by decide, by decide +kernel⟩, mem_t (i := 597) (by decide +kernel), mem_t (i := 1) (by decide +kernel), by decide⟩
theorem c_X_byJust : LkC y_X_byJust b_X_byJust 3 (some .int) 2 := ⟨⟨by decide, by decide, by decide +kernel⟩, mem_t (i := 602) (by decide +kernel), mem_t (i := 1) (by decide +kernel), by decide⟩
theorem c_Su_waysByJust : LkC y_Su_waysByJust b_Su_waysByJust 8 (some .long) 3 := ⟨⟨by decide, by decide, by decide +kernel⟩, mem_t (i := 606) (by decide +kernel), mem_t (i := 10) (by decide +kernel), by decide⟩
theorem c_X_gaps : LkC y_X_gaps b_X_gaps 3 (some .int) 1 := ⟨⟨by decide, by decide, by decide +kernel⟩, mem_t (i := 610) (by decide +kernel), mem_t (i := 1) (by decide +kernel), by decide⟩
theorem c_Su_load : LkC y_Su_load b_Su_load 3 none 1 := ⟨⟨by decide, by decide, by decide +kernel⟩, mem_t (i := 614) (by decide +kernel), mem_t (i := 10) (by decide +kernel), by decide⟩
theorem c_Su_widen : LkC y_Su_widen b_Su_widen 9 none 3 := ⟨⟨by decide, by decide, by decide +kernel⟩, mem_t (i := 618) (by decide +kernel), mem_t (i := 10) (by decide +kernel), by decide⟩
theorem c_Su_isEndless : LkC y_Su_isEndless b_Su_isEndless 1 (some .boolean) 0 := ⟨⟨by decide, by decide, by decide +kernel⟩, mem_t (i := 623) (by decide +kernel), mem_t (i := 10) (by decide +kernel), by decide⟩
theorem c_Su_greatestOf : LkC y_Su_greatestOf b_Su_greatestOf 4 (some .int) 2 := ⟨⟨by decide, by decide, by decide +kernel⟩, mem_t (i := 626) (by decide +kernel), mem_t (i := 10) (by decide +kernel), by decide⟩
theorem c_Ma_max : LkC y_Ma_max b_Ma_max 2 (some .int) 2 := ⟨⟨by decide, by decide, by decide +kernel⟩, mem_t (i := 629) (by decide +kernel), mem_t (i := 17) (by decide +kernel), by decide⟩
theorem c_Su_greatestGap : LkC y_Su_greatestGap b_Su_greatestGap 1 (some .int) 0 := ⟨⟨by decide, by decide, by decide +kernel⟩, mem_t (i := 633) (by decide +kernel), mem_t (i := 10) (by decide +kernel), by decide⟩
theorem c_Su_isHad : LkC y_Su_isHad b_Su_isHad 2 (some .boolean) 1 := ⟨⟨by decide, by decide, by decide +kernel⟩, mem_t (i := 637) (by decide +kernel), mem_t (i := 10) (by decide +kernel), by decide⟩
theorem c_Rw_add : LkC y_Rw_add b_Rw_add 2 none 1 := ⟨⟨by decide, by decide, by decide +kernel⟩, mem_t (i := 641) (by decide +kernel), mem_t (i := 12) (by decide +kernel), by decide⟩
theorem c_Su_gapCount : LkC y_Su_gapCount b_Su_gapCount 3 (some .int) 0 := ⟨⟨by decide, by decide, by decide +kernel⟩, mem_t (i := 646) (by decide +kernel), mem_t (i := 10) (by decide +kernel), by decide⟩
theorem c_X_greatest : LkC y_X_greatest b_X_greatest 1 (some .int) 0 := ⟨⟨by decide, by decide, by decide +kernel⟩, mem_t (i := 650) (by decide +kernel), mem_t (i := 1) (by decide +kernel), by decide⟩
theorem c_X_rest : LkC y_X_rest b_X_rest 4 (some .int) 2 := ⟨⟨by decide, by decide, by decide +kernel⟩, mem_t (i := 654) (by decide +kernel), mem_t (i := 1) (by decide +kernel), by decide⟩
theorem c_X_needed : LkC y_X_needed b_X_needed 2 (some .int) 0 := ⟨⟨by decide, by decide, by decide +kernel⟩, mem_t (i := 658) (by decide +kernel), mem_t (i := 1) (by decide +kernel), by decide⟩
theorem c_Gm_neededBits : LkC y_Gm_neededBits b_Gm_neededBits 3 (some .int) 0 := ⟨⟨by decide, by decide, by decide +kernel⟩, mem_t (i := 662) (by decide +kernel), mem_t (i := 2) (by decide +kernel), by decide⟩
theorem c_In_bitCount : LkC y_In_bitCount b_In_bitCount 1 (some .int) 1 := ⟨⟨by decide, by decide, by decide +kernel⟩, mem_t (i := 665) (by decide +kernel), mem_t (i := 18) (by decide +kernel), by decide⟩
theorem c_X_common : LkC y_X_common b_X_common 1 (some .int) 0 := ⟨⟨by decide, by decide, by decide +kernel⟩, mem_t (i := 672) (by decide +kernel), mem_t (i := 1) (by decide +kernel), by decide⟩
theorem c_X_from : LkC y_X_from b_X_from 1 (some .int) 0 := ⟨⟨by decide, by decide, by decide +kernel⟩, mem_t (i := 676) (by decide +kernel), mem_t (i := 1) (by decide +kernel), by decide⟩
theorem c_X_wish : LkC y_X_wish b_X_wish 5 (some .int) 1 := ⟨⟨by decide, by decide, by decide +kernel⟩, mem_t (i := 680) (by decide +kernel), mem_t (i := 1) (by decide +kernel), by decide⟩
theorem c_Su_greatestWith : LkC y_Su_greatestWith b_Su_greatestWith 2 (some .int) 1 := ⟨⟨by decide, by decide, by decide +kernel⟩, mem_t (i := 684) (by decide +kernel), mem_t (i := 10) (by decide +kernel), by decide⟩
theorem c_X_whose : LkC y_X_whose b_X_whose 2 (some .int) 0 := ⟨⟨by decide, by decide, by decide +kernel⟩, mem_t (i := 689) (by decide +kernel), mem_t (i := 1) (by decide +kernel), by decide⟩
theorem c_X_refusedSolving : LkC y_X_refusedSolving b_X_refusedSolving 1 (some .int) 0 := ⟨⟨by decide, by decide, by decide +kernel⟩, mem_t (i := 693) (by decide +kernel), mem_t (i := 1) (by decide +kernel), by decide⟩
theorem c_X_best : LkC y_X_best b_X_best 4 (some .int) 1 := ⟨⟨by decide, by decide, by decide +kernel⟩, mem_t (i := 697) (by decide +kernel), mem_t (i := 1) (by decide +kernel), by decide⟩
theorem c_X_lasts : LkC y_X_lasts b_X_lasts 2 (some .int) 0 := ⟨⟨by decide, by decide, by decide +kernel⟩, mem_t (i := 702) (by decide +kernel), mem_t (i := 1) (by decide +kernel), by decide⟩
theorem c_So_shortest : LkC y_So_shortest b_So_shortest 1 (some .int) 0 := ⟨⟨by decide, by decide, by decide +kernel⟩, mem_t (i := 706) (by decide +kernel), mem_t (i := 11) (by decide +kernel), by decide⟩
theorem c_So_gapCount : LkC y_So_gapCount b_So_gapCount 1 (some .int) 0 := ⟨⟨by decide, by decide, by decide +kernel⟩, mem_t (i := 710) (by decide +kernel), mem_t (i := 11) (by decide +kernel), by decide⟩
theorem c_X_share : LkC y_X_share b_X_share 3 (some .int) 0 := ⟨⟨by decide, by decide, by decide +kernel⟩, mem_t (i := 715) (by decide +kernel), mem_t (i := 1) (by decide +kernel), by decide⟩
theorem c_X_says : LkC y_X_says b_X_says 2 (some .int) 1 := ⟨⟨by decide, by decide, by decide +kernel⟩, mem_t (i := 719) (by decide +kernel), mem_t (i := 1) (by decide +kernel), by decide⟩
theorem c_X_play : LkC y_X_play b_X_play 6 (some .int) 2 := ⟨⟨by decide, by decide, by decide +kernel⟩, mem_t (i := 723) (by decide +kernel), mem_t (i := 1) (by decide +kernel), by decide⟩
theorem c_X_list : LkC y_X_list b_X_list 5 (some .int) 1 := ⟨⟨by decide, by decide, by decide +kernel⟩, mem_t (i := 729) (by decide +kernel), mem_t (i := 1) (by decide +kernel), by decide⟩
theorem c_Rw_asBits : LkC y_Rw_asBits b_Rw_asBits 5 (some .long) 0 := ⟨⟨by decide, by decide, by decide +kernel⟩, mem_t (i := 733) (by decide +kernel), mem_t (i := 12) (by decide +kernel), by decide⟩
theorem c_X_leastPaid : LkC y_X_leastPaid b_X_leastPaid 3 (some .int) 1 := ⟨⟨by decide, by decide, by decide +kernel⟩, mem_t (i := 737) (by decide +kernel), mem_t (i := 1) (by decide +kernel), by decide⟩
theorem c_X_isGap : LkC y_X_isGap b_X_isGap 3 (some .boolean) 2 := ⟨⟨by decide, by decide, by decide +kernel⟩, mem_t (i := 740) (by decide +kernel), mem_t (i := 1) (by decide +kernel), by decide⟩
theorem c_X_isPaid : LkC y_X_isPaid b_X_isPaid 4 (some .boolean) 2 := ⟨⟨by decide, by decide, by decide +kernel⟩, mem_t (i := 743) (by decide +kernel), mem_t (i := 1) (by decide +kernel), by decide⟩
theorem c_X_makes : LkC y_X_makes b_X_makes 8 (some .int) 2 := ⟨⟨by decide, by decide, by decide +kernel⟩, mem_t (i := 747) (by decide +kernel), mem_t (i := 1) (by decide +kernel), by decide⟩
theorem c_X_isMaker : LkC y_X_isMaker b_X_isMaker 3 (some .boolean) 2 := ⟨⟨by decide, by decide, by decide +kernel⟩, mem_t (i := 750) (by decide +kernel), mem_t (i := 1) (by decide +kernel), by decide⟩
theorem c_X_tree : LkC y_X_tree b_X_tree 3 (some .int) 2 := ⟨⟨by decide, by decide, by decide +kernel⟩, mem_t (i := 754) (by decide +kernel), mem_t (i := 1) (by decide +kernel), by decide⟩
theorem c_X_setsBelow : LkC y_X_setsBelow b_X_setsBelow 8 (some .int) 4 := ⟨⟨by decide, by decide, by decide +kernel⟩, mem_t (i := 757) (by decide +kernel), mem_t (i := 1) (by decide +kernel), by decide⟩
theorem c_X_asked : LkC y_X_asked b_X_asked 1 (some .int) 0 := ⟨⟨by decide, by decide, by decide +kernel⟩, mem_t (i := 764) (by decide +kernel), mem_t (i := 1) (by decide +kernel), by decide⟩
theorem c_X_upper : LkC y_X_upper b_X_upper 1 (some .long) 0 := ⟨⟨by decide, by decide, by decide +kernel⟩, mem_t (i := 768) (by decide +kernel), mem_t (i := 1) (by decide +kernel), by decide⟩
theorem c_X_lower : LkC y_X_lower b_X_lower 1 (some .long) 0 := ⟨⟨by decide, by decide, by decide +kernel⟩, mem_t (i := 772) (by decide +kernel), mem_t (i := 1) (by decide +kernel), by decide⟩
theorem c_X_count : LkC y_X_count b_X_count 2 (some .int) 1 := ⟨⟨by decide, by decide, by decide +kernel⟩, mem_t (i := 776) (by decide +kernel), mem_t (i := 1) (by decide +kernel), by decide⟩
theorem c_X_playersOf : LkC y_X_playersOf b_X_playersOf 4 (some .int) 1 := ⟨⟨by decide, by decide, by decide +kernel⟩, mem_t (i := 780) (by decide +kernel), mem_t (i := 1) (by decide +kernel), by decide⟩
theorem c_X_keptCount : LkC y_X_keptCount b_X_keptCount 3 (some .int) 0 := ⟨⟨by decide, by decide, by decide +kernel⟩, mem_t (i := 784) (by decide +kernel), mem_t (i := 1) (by decide +kernel), by decide⟩
theorem c_X_thereOf : LkC y_X_thereOf b_X_thereOf 3 (some .int) 1 := ⟨⟨by decide, by decide, by decide +kernel⟩, mem_t (i := 787) (by decide +kernel), mem_t (i := 1) (by decide +kernel), by decide⟩
theorem c_X_finding : LkC y_X_finding b_X_finding 1 (some .int) 0 := ⟨⟨by decide, by decide, by decide +kernel⟩, mem_t (i := 791) (by decide +kernel), mem_t (i := 1) (by decide +kernel), by decide⟩
theorem c_X_findings : LkC y_X_findings b_X_findings 2 (some .int) 1 := ⟨⟨by decide, by decide, by decide +kernel⟩, mem_t (i := 795) (by decide +kernel), mem_t (i := 1) (by decide +kernel), by decide⟩
theorem c_X_digest : LkC y_X_digest b_X_digest 4 (some .long) 0 := ⟨⟨by decide, by decide, by decide +kernel⟩, mem_t (i := 799) (by decide +kernel), mem_t (i := 1) (by decide +kernel), by decide⟩
theorem c_Gm_digestNumbers : LkC y_Gm_digestNumbers b_Gm_digestNumbers 6 (some .long) 1 := ⟨⟨by decide, by decide, by decide +kernel⟩, mem_t (i := 806) (by decide +kernel), mem_t (i := 2) (by decide +kernel), by decide⟩
theorem c_Rw_digestPlaces : LkC y_Rw_digestPlaces b_Rw_digestPlaces 6 (some .long) 1 := ⟨⟨by decide, by decide, by decide +kernel⟩, mem_t (i := 811) (by decide +kernel), mem_t (i := 12) (by decide +kernel), by decide⟩
theorem c_M_init : LkC y_M_init b_M_init 2 none 0 := ⟨⟨by decide, by decide, by decide +kernel⟩, mem_t (i := 817) (by decide +kernel), mem_t (i := 13) (by decide +kernel), by decide⟩
theorem c_M_finding : LkC y_M_finding b_M_finding 1 (some .int) 0 := ⟨⟨by decide, by decide, by decide +kernel⟩, mem_t (i := 944) (by decide +kernel), mem_t (i := 13) (by decide +kernel), by decide⟩
theorem c_M_findings : LkC y_M_findings b_M_findings 2 (some .int) 1 := ⟨⟨by decide, by decide, by decide +kernel⟩, mem_t (i := 948) (by decide +kernel), mem_t (i := 13) (by decide +kernel), by decide⟩
theorem c_M_in : LkC y_M_in b_M_in 3 (some .boolean) 3 := ⟨⟨by decide, by decide, by decide +kernel⟩, mem_t (i := 951) (by decide +kernel), mem_t (i := 13) (by decide +kernel), by decide⟩
theorem c_M_asked : LkC y_M_asked b_M_asked 1 (some .int) 0 := ⟨⟨by decide, by decide, by decide +kernel⟩, mem_t (i := 955) (by decide +kernel), mem_t (i := 13) (by decide +kernel), by decide⟩
theorem c_M_upper : LkC y_M_upper b_M_upper 1 (some .long) 0 := ⟨⟨by decide, by decide, by decide +kernel⟩, mem_t (i := 959) (by decide +kernel), mem_t (i := 13) (by decide +kernel), by decide⟩
theorem c_M_lower : LkC y_M_lower b_M_lower 1 (some .long) 0 := ⟨⟨by decide, by decide, by decide +kernel⟩, mem_t (i := 963) (by decide +kernel), mem_t (i := 13) (by decide +kernel), by decide⟩
theorem c_M_row : LkC y_M_row b_M_row 4 (some .int) 2 := ⟨⟨by decide, by decide, by decide +kernel⟩, mem_t (i := 967) (by decide +kernel), mem_t (i := 13) (by decide +kernel), by decide⟩
theorem c_M_isRow : LkC y_M_isRow b_M_isRow 1 (some .boolean) 1 := ⟨⟨by decide, by decide, by decide +kernel⟩, mem_t (i := 970) (by decide +kernel), mem_t (i := 13) (by decide +kernel), by decide⟩
theorem c_M_meets : LkC y_M_meets b_M_meets 2 (some .int) 1 := ⟨⟨by decide, by decide, by decide +kernel⟩, mem_t (i := 974) (by decide +kernel), mem_t (i := 13) (by decide +kernel), by decide⟩
theorem c_M_lay : LkC y_M_lay b_M_lay 5 (some .int) 3 := ⟨⟨by decide, by decide, by decide +kernel⟩, mem_t (i := 978) (by decide +kernel), mem_t (i := 13) (by decide +kernel), by decide⟩
theorem c_M_rowAt : LkC y_M_rowAt b_M_rowAt 3 (some .int) 2 := ⟨⟨by decide, by decide, by decide +kernel⟩, mem_t (i := 982) (by decide +kernel), mem_t (i := 13) (by decide +kernel), by decide⟩
theorem c_M_tells : LkC y_M_tells b_M_tells 3 (some .int) 2 := ⟨⟨by decide, by decide, by decide +kernel⟩, mem_t (i := 986) (by decide +kernel), mem_t (i := 13) (by decide +kernel), by decide⟩
theorem c_M_at : LkC y_M_at b_M_at 3 (some .int) 2 := ⟨⟨by decide, by decide, by decide +kernel⟩, mem_t (i := 990) (by decide +kernel), mem_t (i := 13) (by decide +kernel), by decide⟩
theorem c_M_tear : LkC y_M_tear b_M_tear 2 (some .int) 1 := ⟨⟨by decide, by decide, by decide +kernel⟩, mem_t (i := 994) (by decide +kernel), mem_t (i := 13) (by decide +kernel), by decide⟩
theorem c_M_copy : LkC y_M_copy b_M_copy 7 (some .int) 5 := ⟨⟨by decide, by decide, by decide +kernel⟩, mem_t (i := 998) (by decide +kernel), mem_t (i := 13) (by decide +kernel), by decide⟩
theorem c_M_mean : LkC y_M_mean b_M_mean 5 (some .int) 1 := ⟨⟨by decide, by decide, by decide +kernel⟩, mem_t (i := 1002) (by decide +kernel), mem_t (i := 13) (by decide +kernel), by decide⟩
theorem c_M_text : LkC y_M_text b_M_text 4 (some .int) 2 := ⟨⟨by decide, by decide, by decide +kernel⟩, mem_t (i := 1006) (by decide +kernel), mem_t (i := 13) (by decide +kernel), by decide⟩
theorem c_M_isText : LkC y_M_isText b_M_isText 1 (some .boolean) 1 := ⟨⟨by decide, by decide, by decide +kernel⟩, mem_t (i := 1009) (by decide +kernel), mem_t (i := 13) (by decide +kernel), by decide⟩
theorem c_M_put : LkC y_M_put b_M_put 5 (some .int) 3 := ⟨⟨by decide, by decide, by decide +kernel⟩, mem_t (i := 1013) (by decide +kernel), mem_t (i := 13) (by decide +kernel), by decide⟩
theorem c_M_fault : LkC y_M_fault b_M_fault 2 (some .int) 1 := ⟨⟨by decide, by decide, by decide +kernel⟩, mem_t (i := 1017) (by decide +kernel), mem_t (i := 13) (by decide +kernel), by decide⟩
theorem c_M_faultOf : LkC y_M_faultOf b_M_faultOf 2 (some .int) 1 := ⟨⟨by decide, by decide, by decide +kernel⟩, mem_t (i := 1021) (by decide +kernel), mem_t (i := 13) (by decide +kernel), by decide⟩
theorem c_M_byteAt : LkC y_M_byteAt b_M_byteAt 3 (some .int) 2 := ⟨⟨by decide, by decide, by decide +kernel⟩, mem_t (i := 1025) (by decide +kernel), mem_t (i := 13) (by decide +kernel), by decide⟩
theorem c_M_readsItem : LkC y_M_readsItem b_M_readsItem 3 (some .boolean) 1 := ⟨⟨by decide, by decide, by decide +kernel⟩, mem_t (i := 1029) (by decide +kernel), mem_t (i := 13) (by decide +kernel), by decide⟩
theorem c_M_readsLaw : LkC y_M_readsLaw b_M_readsLaw 3 (some .boolean) 1 := ⟨⟨by decide, by decide, by decide +kernel⟩, mem_t (i := 1033) (by decide +kernel), mem_t (i := 13) (by decide +kernel), by decide⟩
theorem c_M_readsNumber : LkC y_M_readsNumber b_M_readsNumber 4 (some .boolean) 1 := ⟨⟨by decide, by decide, by decide +kernel⟩, mem_t (i := 1037) (by decide +kernel), mem_t (i := 13) (by decide +kernel), by decide⟩
theorem c_M_layFew : LkC y_M_layFew b_M_layFew 10 none 4 := ⟨⟨by decide, by decide, by decide +kernel⟩, mem_t (i := 1041) (by decide +kernel), mem_t (i := 13) (by decide +kernel), by decide⟩
theorem c_M_divisor : LkC y_M_divisor b_M_divisor 5 (some .int) 2 := ⟨⟨by decide, by decide, by decide +kernel⟩, mem_t (i := 1045) (by decide +kernel), mem_t (i := 13) (by decide +kernel), by decide⟩
theorem c_M_lesser : LkC y_M_lesser b_M_lesser 2 (some .int) 2 := ⟨⟨by decide, by decide, by decide +kernel⟩, mem_t (i := 1048) (by decide +kernel), mem_t (i := 13) (by decide +kernel), by decide⟩
theorem c_M_isHad : LkC y_M_isHad b_M_isHad 2 (some .boolean) 1 := ⟨⟨by decide, by decide, by decide +kernel⟩, mem_t (i := 1052) (by decide +kernel), mem_t (i := 13) (by decide +kernel), by decide⟩
theorem c_M_kindOf : LkC y_M_kindOf b_M_kindOf 1 (some .int) 1 := ⟨⟨by decide, by decide, by decide +kernel⟩, mem_t (i := 1055) (by decide +kernel), mem_t (i := 13) (by decide +kernel), by decide⟩
theorem c_M_game : LkC y_M_game b_M_game 3 (some .int) 1 := ⟨⟨by decide, by decide, by decide +kernel⟩, mem_t (i := 1059) (by decide +kernel), mem_t (i := 13) (by decide +kernel), by decide⟩
theorem c_M_law : LkC y_M_law b_M_law 1 (some .int) 0 := ⟨⟨by decide, by decide, by decide +kernel⟩, mem_t (i := 1063) (by decide +kernel), mem_t (i := 13) (by decide +kernel), by decide⟩
theorem c_M_player : LkC y_M_player b_M_player 2 (some .int) 1 := ⟨⟨by decide, by decide, by decide +kernel⟩, mem_t (i := 1067) (by decide +kernel), mem_t (i := 13) (by decide +kernel), by decide⟩
theorem c_M_isPlayer : LkC y_M_isPlayer b_M_isPlayer 2 (some .boolean) 1 := ⟨⟨by decide, by decide, by decide +kernel⟩, mem_t (i := 1071) (by decide +kernel), mem_t (i := 13) (by decide +kernel), by decide⟩
theorem c_M_say : LkC y_M_say b_M_say 2 (some .int) 1 := ⟨⟨by decide, by decide, by decide +kernel⟩, mem_t (i := 1075) (by decide +kernel), mem_t (i := 13) (by decide +kernel), by decide⟩
theorem c_M_isOver : LkC y_M_isOver b_M_isOver 1 (some .boolean) 0 := ⟨⟨by decide, by decide, by decide +kernel⟩, mem_t (i := 1079) (by decide +kernel), mem_t (i := 13) (by decide +kernel), by decide⟩
theorem c_M_saidOne : LkC y_M_saidOne b_M_saidOne 1 (some .boolean) 0 := ⟨⟨by decide, by decide, by decide +kernel⟩, mem_t (i := 1083) (by decide +kernel), mem_t (i := 13) (by decide +kernel), by decide⟩
theorem c_M_leftNow : LkC y_M_leftNow b_M_leftNow 1 (some .int) 0 := ⟨⟨by decide, by decide, by decide +kernel⟩, mem_t (i := 1087) (by decide +kernel), mem_t (i := 13) (by decide +kernel), by decide⟩
theorem c_M_leftOf : LkC y_M_leftOf b_M_leftOf 6 (some .int) 3 := ⟨⟨by decide, by decide, by decide +kernel⟩, mem_t (i := 1091) (by decide +kernel), mem_t (i := 13) (by decide +kernel), by decide⟩
theorem c_M_maySay : LkC y_M_maySay b_M_maySay 2 (some .boolean) 1 := ⟨⟨by decide, by decide, by decide +kernel⟩, mem_t (i := 1095) (by decide +kernel), mem_t (i := 13) (by decide +kernel), by decide⟩
theorem c_M_may : LkC y_M_may b_M_may 2 (some .int) 1 := ⟨⟨by decide, by decide, by decide +kernel⟩, mem_t (i := 1099) (by decide +kernel), mem_t (i := 13) (by decide +kernel), by decide⟩
theorem c_M_said : LkC y_M_said b_M_said 2 (some .int) 1 := ⟨⟨by decide, by decide, by decide +kernel⟩, mem_t (i := 1103) (by decide +kernel), mem_t (i := 13) (by decide +kernel), by decide⟩
theorem c_M_undo : LkC y_M_undo b_M_undo 3 (some .int) 1 := ⟨⟨by decide, by decide, by decide +kernel⟩, mem_t (i := 1107) (by decide +kernel), mem_t (i := 13) (by decide +kernel), by decide⟩
theorem c_M_turn : LkC y_M_turn b_M_turn 2 (some .int) 0 := ⟨⟨by decide, by decide, by decide +kernel⟩, mem_t (i := 1111) (by decide +kernel), mem_t (i := 13) (by decide +kernel), by decide⟩
theorem c_M_keep : LkC y_M_keep b_M_keep 3 (some .int) 1 := ⟨⟨by decide, by decide, by decide +kernel⟩, mem_t (i := 1115) (by decide +kernel), mem_t (i := 13) (by decide +kernel), by decide⟩
theorem c_M_on : LkC y_M_on b_M_on 3 (some .int) 1 := ⟨⟨by decide, by decide, by decide +kernel⟩, mem_t (i := 1119) (by decide +kernel), mem_t (i := 13) (by decide +kernel), by decide⟩
theorem c_M_had : LkC y_M_had b_M_had 2 (some .int) 1 := ⟨⟨by decide, by decide, by decide +kernel⟩, mem_t (i := 1123) (by decide +kernel), mem_t (i := 13) (by decide +kernel), by decide⟩
theorem c_M_ways : LkC y_M_ways b_M_ways 4 (some .int) 1 := ⟨⟨by decide, by decide, by decide +kernel⟩, mem_t (i := 1127) (by decide +kernel), mem_t (i := 13) (by decide +kernel), by decide⟩
theorem c_M_whole : LkC y_M_whole b_M_whole 4 (some .int) 2 := ⟨⟨by decide, by decide, by decide +kernel⟩, mem_t (i := 1131) (by decide +kernel), mem_t (i := 13) (by decide +kernel), by decide⟩
theorem c_M_byJust : LkC y_M_byJust b_M_byJust 7 (some .int) 2 := ⟨⟨by decide, by decide, by decide +kernel⟩, mem_t (i := 1135) (by decide +kernel), mem_t (i := 13) (by decide +kernel), by decide⟩
theorem c_M_gaps : LkC y_M_gaps b_M_gaps 5 (some .int) 1 := ⟨⟨by decide, by decide, by decide +kernel⟩, mem_t (i := 1139) (by decide +kernel), mem_t (i := 13) (by decide +kernel), by decide⟩
theorem c_M_isEndless : LkC y_M_isEndless b_M_isEndless 1 (some .boolean) 0 := ⟨⟨by decide, by decide, by decide +kernel⟩, mem_t (i := 1143) (by decide +kernel), mem_t (i := 13) (by decide +kernel), by decide⟩
theorem c_M_commonOf : LkC y_M_commonOf b_M_commonOf 5 (some .int) 2 := ⟨⟨by decide, by decide, by decide +kernel⟩, mem_t (i := 1147) (by decide +kernel), mem_t (i := 13) (by decide +kernel), by decide⟩
theorem c_M_layGaps : LkC y_M_layGaps b_M_layGaps 3 (some .int) 0 := ⟨⟨by decide, by decide, by decide +kernel⟩, mem_t (i := 1151) (by decide +kernel), mem_t (i := 13) (by decide +kernel), by decide⟩
theorem c_M_greatest : LkC y_M_greatest b_M_greatest 2 (some .int) 0 := ⟨⟨by decide, by decide, by decide +kernel⟩, mem_t (i := 1155) (by decide +kernel), mem_t (i := 13) (by decide +kernel), by decide⟩
theorem c_M_rest : LkC y_M_rest b_M_rest 4 (some .int) 2 := ⟨⟨by decide, by decide, by decide +kernel⟩, mem_t (i := 1159) (by decide +kernel), mem_t (i := 13) (by decide +kernel), by decide⟩
theorem c_M_needed : LkC y_M_needed b_M_needed 4 (some .int) 0 := ⟨⟨by decide, by decide, by decide +kernel⟩, mem_t (i := 1163) (by decide +kernel), mem_t (i := 13) (by decide +kernel), by decide⟩
theorem c_M_bits : LkC y_M_bits b_M_bits 3 (some .int) 1 := ⟨⟨by decide, by decide, by decide +kernel⟩, mem_t (i := 1166) (by decide +kernel), mem_t (i := 13) (by decide +kernel), by decide⟩
theorem c_M_common : LkC y_M_common b_M_common 1 (some .int) 0 := ⟨⟨by decide, by decide, by decide +kernel⟩, mem_t (i := 1170) (by decide +kernel), mem_t (i := 13) (by decide +kernel), by decide⟩
theorem c_M_from : LkC y_M_from b_M_from 1 (some .int) 0 := ⟨⟨by decide, by decide, by decide +kernel⟩, mem_t (i := 1174) (by decide +kernel), mem_t (i := 13) (by decide +kernel), by decide⟩
theorem c_M_wish : LkC y_M_wish b_M_wish 5 (some .int) 1 := ⟨⟨by decide, by decide, by decide +kernel⟩, mem_t (i := 1178) (by decide +kernel), mem_t (i := 13) (by decide +kernel), by decide⟩
theorem c_M_areAll : LkC y_M_areAll b_M_areAll 6 (some .boolean) 3 := ⟨⟨by decide, by decide, by decide +kernel⟩, mem_t (i := 1182) (by decide +kernel), mem_t (i := 13) (by decide +kernel), by decide⟩
theorem c_M_layOthers : LkC y_M_layOthers b_M_layOthers 2 none 0 := ⟨⟨by decide, by decide, by decide +kernel⟩, mem_t (i := 1186) (by decide +kernel), mem_t (i := 13) (by decide +kernel), by decide⟩
theorem c_M_whose : LkC y_M_whose b_M_whose 2 (some .int) 0 := ⟨⟨by decide, by decide, by decide +kernel⟩, mem_t (i := 1190) (by decide +kernel), mem_t (i := 13) (by decide +kernel), by decide⟩
theorem c_M_needSolved : LkC y_M_needSolved b_M_needSolved 1 (some .int) 0 := ⟨⟨by decide, by decide, by decide +kernel⟩, mem_t (i := 1194) (by decide +kernel), mem_t (i := 13) (by decide +kernel), by decide⟩
theorem c_M_isSolved : LkC y_M_isSolved b_M_isSolved 1 (some .boolean) 0 := ⟨⟨by decide, by decide, by decide +kernel⟩, mem_t (i := 1198) (by decide +kernel), mem_t (i := 13) (by decide +kernel), by decide⟩
theorem c_M_layWins : LkC y_M_layWins b_M_layWins 5 none 0 := ⟨⟨by decide, by decide, by decide +kernel⟩, mem_t (i := 1202) (by decide +kernel), mem_t (i := 13) (by decide +kernel), by decide⟩
theorem c_M_has : LkC y_M_has b_M_has 2 (some .boolean) 2 := ⟨⟨by decide, by decide, by decide +kernel⟩, mem_t (i := 1205) (by decide +kernel), mem_t (i := 13) (by decide +kernel), by decide⟩
theorem c_M_behind : LkC y_M_behind b_M_behind 7 (some .int) 2 := ⟨⟨by decide, by decide, by decide +kernel⟩, mem_t (i := 1209) (by decide +kernel), mem_t (i := 13) (by decide +kernel), by decide⟩
theorem c_M_greater : LkC y_M_greater b_M_greater 2 (some .int) 2 := ⟨⟨by decide, by decide, by decide +kernel⟩, mem_t (i := 1212) (by decide +kernel), mem_t (i := 13) (by decide +kernel), by decide⟩
theorem c_M_winMany : LkC y_M_winMany b_M_winMany 3 (some .int) 0 := ⟨⟨by decide, by decide, by decide +kernel⟩, mem_t (i := 1216) (by decide +kernel), mem_t (i := 13) (by decide +kernel), by decide⟩
theorem c_M_isWinning : LkC y_M_isWinning b_M_isWinning 2 (some .boolean) 1 := ⟨⟨by decide, by decide, by decide +kernel⟩, mem_t (i := 1220) (by decide +kernel), mem_t (i := 13) (by decide +kernel), by decide⟩
theorem c_M_allGaps : LkC y_M_allGaps b_M_allGaps 1 (some .int) 0 := ⟨⟨by decide, by decide, by decide +kernel⟩, mem_t (i := 1224) (by decide +kernel), mem_t (i := 13) (by decide +kernel), by decide⟩
theorem c_M_best : LkC y_M_best b_M_best 5 (some .int) 1 := ⟨⟨by decide, by decide, by decide +kernel⟩, mem_t (i := 1228) (by decide +kernel), mem_t (i := 13) (by decide +kernel), by decide⟩
theorem c_M_lasts : LkC y_M_lasts b_M_lasts 2 (some .int) 0 := ⟨⟨by decide, by decide, by decide +kernel⟩, mem_t (i := 1232) (by decide +kernel), mem_t (i := 13) (by decide +kernel), by decide⟩
theorem c_M_share : LkC y_M_share b_M_share 3 (some .int) 0 := ⟨⟨by decide, by decide, by decide +kernel⟩, mem_t (i := 1236) (by decide +kernel), mem_t (i := 13) (by decide +kernel), by decide⟩
theorem c_M_fraction : LkC y_M_fraction b_M_fraction 5 (some .int) 3 := ⟨⟨by decide, by decide, by decide +kernel⟩, mem_t (i := 1240) (by decide +kernel), mem_t (i := 13) (by decide +kernel), by decide⟩
theorem c_M_says : LkC y_M_says b_M_says 2 (some .int) 1 := ⟨⟨by decide, by decide, by decide +kernel⟩, mem_t (i := 1244) (by decide +kernel), mem_t (i := 13) (by decide +kernel), by decide⟩
theorem c_M_saysOf : LkC y_M_saysOf b_M_saysOf 3 (some .int) 2 := ⟨⟨by decide, by decide, by decide +kernel⟩, mem_t (i := 1248) (by decide +kernel), mem_t (i := 13) (by decide +kernel), by decide⟩
theorem c_M_byLeft : LkC y_M_byLeft b_M_byLeft 6 (some .int) 1 := ⟨⟨by decide, by decide, by decide +kernel⟩, mem_t (i := 1252) (by decide +kernel), mem_t (i := 13) (by decide +kernel), by decide⟩
theorem c_M_pairOf : LkC y_M_pairOf b_M_pairOf 2 (some .int) 0 := ⟨⟨by decide, by decide, by decide +kernel⟩, mem_t (i := 1256) (by decide +kernel), mem_t (i := 13) (by decide +kernel), by decide⟩
theorem c_M_greatestLeft : LkC y_M_greatestLeft b_M_greatestLeft 2 (some .int) 0 := ⟨⟨by decide, by decide, by decide +kernel⟩, mem_t (i := 1260) (by decide +kernel), mem_t (i := 13) (by decide +kernel), by decide⟩
theorem c_M_leastAbove : LkC y_M_leastAbove b_M_leastAbove 2 (some .int) 0 := ⟨⟨by decide, by decide, by decide +kernel⟩, mem_t (i := 1264) (by decide +kernel), mem_t (i := 13) (by decide +kernel), by decide⟩
theorem c_M_bestOf : LkC y_M_bestOf b_M_bestOf 2 (some .int) 0 := ⟨⟨by decide, by decide, by decide +kernel⟩, mem_t (i := 1268) (by decide +kernel), mem_t (i := 13) (by decide +kernel), by decide⟩
theorem c_M_chanceOf : LkC y_M_chanceOf b_M_chanceOf 4 (some .int) 0 := ⟨⟨by decide, by decide, by decide +kernel⟩, mem_t (i := 1272) (by decide +kernel), mem_t (i := 13) (by decide +kernel), by decide⟩
theorem c_M_aboveMany : LkC y_M_aboveMany b_M_aboveMany 3 (some .int) 0 := ⟨⟨by decide, by decide, by decide +kernel⟩, mem_t (i := 1278) (by decide +kernel), mem_t (i := 13) (by decide +kernel), by decide⟩
theorem c_M_mark : LkC y_M_mark b_M_mark 5 (some .int) 2 := ⟨⟨by decide, by decide, by decide +kernel⟩, mem_t (i := 1282) (by decide +kernel), mem_t (i := 13) (by decide +kernel), by decide⟩
theorem c_M_leftBehind : LkC y_M_leftBehind b_M_leftBehind 2 (some .int) 1 := ⟨⟨by decide, by decide, by decide +kernel⟩, mem_t (i := 1286) (by decide +kernel), mem_t (i := 13) (by decide +kernel), by decide⟩
theorem c_M_play : LkC y_M_play b_M_play 5 (some .int) 2 := ⟨⟨by decide, by decide, by decide +kernel⟩, mem_t (i := 1290) (by decide +kernel), mem_t (i := 13) (by decide +kernel), by decide⟩
theorem c_M_list : LkC y_M_list b_M_list 4 (some .int) 1 := ⟨⟨by decide, by decide, by decide +kernel⟩, mem_t (i := 1295) (by decide +kernel), mem_t (i := 13) (by decide +kernel), by decide⟩
theorem c_M_needList : LkC y_M_needList b_M_needList 5 (some .int) 1 := ⟨⟨by decide, by decide, by decide +kernel⟩, mem_t (i := 1299) (by decide +kernel), mem_t (i := 13) (by decide +kernel), by decide⟩
theorem c_M_wrongSum : LkC y_M_wrongSum b_M_wrongSum 3 (some .int) 0 := ⟨⟨by decide, by decide, by decide +kernel⟩, mem_t (i := 1303) (by decide +kernel), mem_t (i := 13) (by decide +kernel), by decide⟩
theorem c_M_makes : LkC y_M_makes b_M_makes 6 (some .int) 2 := ⟨⟨by decide, by decide, by decide +kernel⟩, mem_t (i := 1307) (by decide +kernel), mem_t (i := 13) (by decide +kernel), by decide⟩
theorem c_M_isMaker : LkC y_M_isMaker b_M_isMaker 4 (some .boolean) 1 := ⟨⟨by decide, by decide, by decide +kernel⟩, mem_t (i := 1311) (by decide +kernel), mem_t (i := 13) (by decide +kernel), by decide⟩
theorem c_M_tree : LkC y_M_tree b_M_tree 8 (some .int) 2 := ⟨⟨by decide, by decide, by decide +kernel⟩, mem_t (i := 1315) (by decide +kernel), mem_t (i := 13) (by decide +kernel), by decide⟩
theorem c_M_topOf : LkC y_M_topOf b_M_topOf 3 (some .int) 1 := ⟨⟨by decide, by decide, by decide +kernel⟩, mem_t (i := 1318) (by decide +kernel), mem_t (i := 13) (by decide +kernel), by decide⟩
theorem c_M_makesIt : LkC y_M_makesIt b_M_makesIt 4 (some .boolean) 2 := ⟨⟨by decide, by decide, by decide +kernel⟩, mem_t (i := 1321) (by decide +kernel), mem_t (i := 13) (by decide +kernel), by decide⟩
theorem c_M_count : LkC y_M_count b_M_count 2 (some .int) 1 := ⟨⟨by decide, by decide, by decide +kernel⟩, mem_t (i := 1325) (by decide +kernel), mem_t (i := 13) (by decide +kernel), by decide⟩
theorem c_M_counted : LkC y_M_counted b_M_counted 4 (some .int) 1 := ⟨⟨by decide, by decide, by decide +kernel⟩, mem_t (i := 1329) (by decide +kernel), mem_t (i := 13) (by decide +kernel), by decide⟩
theorem c_M_digest : LkC y_M_digest b_M_digest 3 (some .long) 0 := ⟨⟨by decide, by decide, by decide +kernel⟩, mem_t (i := 1333) (by decide +kernel), mem_t (i := 13) (by decide +kernel), by decide⟩
theorem c_M_mix : LkC y_M_mix b_M_mix 3 none 1 := ⟨⟨by decide, by decide, by decide +kernel⟩, mem_t (i := 1338) (by decide +kernel), mem_t (i := 13) (by decide +kernel), by decide⟩
theorem c_M_mixGame : LkC y_M_mixGame b_M_mixGame 3 none 0 := ⟨⟨by decide, by decide, by decide +kernel⟩, mem_t (i := 1343) (by decide +kernel), mem_t (i := 13) (by decide +kernel), by decide⟩
theorem l_L_9 : Cond.methodLink "WhoSaysOneLaw" 9 y_X_init ∈ lw_tbl ∧ Cond.instanceMethod y_X_init ∈ lw_tbl := ⟨mem_t (i := 21) (by decide +kernel), mem_t (i := 22) (by decide +kernel)⟩
theorem l_X_1 : Cond.methodLink "WhoSaysOne" 1 objectInit ∈ lw_tbl := mem_t (i := 24) (by decide +kernel)
theorem l_Gm_3 : Cond.methodLink "WhoSaysOne$Game" 3 objectInit ∈ lw_tbl := mem_t (i := 34) (by decide +kernel)
theorem l_Pl_1 : Cond.methodLink "WhoSaysOne$Player" 1 objectInit ∈ lw_tbl := mem_t (i := 64) (by decide +kernel)
theorem l_Rd_3 : Cond.methodLink "WhoSaysOne$Reader" 3 objectInit ∈ lw_tbl := mem_t (i := 107) (by decide +kernel)
theorem l_Su_3 : Cond.methodLink "WhoSaysOne$Sums" 3 objectInit ∈ lw_tbl := mem_t (i := 131) (by decide +kernel)
theorem l_So_3 : Cond.methodLink "WhoSaysOne$Solver" 3 objectInit ∈ lw_tbl := mem_t (i := 159) (by decide +kernel)
theorem l_Rw_3 : Cond.methodLink "WhoSaysOne$Row" 3 objectInit ∈ lw_tbl := mem_t (i := 177) (by decide +kernel)
theorem l_L_13 : LkV "WhoSaysOneLaw" 13 y_X_row := ⟨mem_t (i := 238) (by decide +kernel), mem_t (i := 239) (by decide +kernel), mem_t (i := 240) (by decide +kernel)⟩
theorem l_X_88 : LkV "WhoSaysOne" 88 y_X_begin := ⟨mem_t (i := 242) (by decide +kernel), mem_t (i := 244) (by decide +kernel), mem_p (i := 0) (by decide +kernel)⟩
theorem l_X_110 : LkS "WhoSaysOne" 110 y_X_isIn := ⟨mem_t (i := 246) (by decide +kernel), mem_t (i := 247) (by decide +kernel)⟩
theorem l_X_114 : LkV "WhoSaysOne" 114 y_X_found := ⟨mem_t (i := 249) (by decide +kernel), mem_t (i := 251) (by decide +kernel), mem_p (i := 1) (by decide +kernel)⟩
theorem l_X_238 : LkV "WhoSaysOne" 238 y_Rw_begin := ⟨mem_t (i := 253) (by decide +kernel), mem_t (i := 254) (by decide +kernel), mem_t (i := 255) (by decide +kernel)⟩
theorem l_Rw_19 : LkS "WhoSaysOne$Row" 19 y_Ar_fillI := ⟨mem_t (i := 257) (by decide +kernel), mem_t (i := 258) (by decide +kernel)⟩
theorem l_L_18 : LkV "WhoSaysOneLaw" 18 y_X_lay := ⟨mem_t (i := 260) (by decide +kernel), mem_t (i := 261) (by decide +kernel), mem_t (i := 262) (by decide +kernel)⟩
theorem l_X_92 : LkV "WhoSaysOne" 92 y_X_refusedPlace := ⟨mem_t (i := 264) (by decide +kernel), mem_t (i := 266) (by decide +kernel), mem_p (i := 2) (by decide +kernel)⟩
theorem l_X_103 : LkV "WhoSaysOne" 103 y_X_refusedRow := ⟨mem_t (i := 268) (by decide +kernel), mem_t (i := 270) (by decide +kernel), mem_p (i := 3) (by decide +kernel)⟩
theorem l_X_118 : LkV "WhoSaysOne" 118 y_Rw_isThere := ⟨mem_t (i := 272) (by decide +kernel), mem_t (i := 273) (by decide +kernel), mem_t (i := 274) (by decide +kernel)⟩
theorem l_L_23 : LkV "WhoSaysOneLaw" 23 y_X_at := ⟨mem_t (i := 276) (by decide +kernel), mem_t (i := 277) (by decide +kernel), mem_t (i := 278) (by decide +kernel)⟩
theorem l_L_27 : LkV "WhoSaysOneLaw" 27 y_X_tear := ⟨mem_t (i := 280) (by decide +kernel), mem_t (i := 281) (by decide +kernel), mem_t (i := 282) (by decide +kernel)⟩
theorem l_L_32 : LkV "WhoSaysOneLaw" 32 y_X_copy := ⟨mem_t (i := 284) (by decide +kernel), mem_t (i := 285) (by decide +kernel), mem_t (i := 286) (by decide +kernel)⟩
theorem l_X_122 : LkV "WhoSaysOne" 122 y_Rw_holdsRun := ⟨mem_t (i := 288) (by decide +kernel), mem_t (i := 289) (by decide +kernel), mem_t (i := 290) (by decide +kernel)⟩
theorem l_X_125 : Cond.methodLink "WhoSaysOne" 125 arraycopyName ∈ lw_tbl := mem_t (i := 292) (by decide +kernel)
theorem l_L_37 : LkV "WhoSaysOneLaw" 37 y_X_mean := ⟨mem_t (i := 295) (by decide +kernel), mem_t (i := 296) (by decide +kernel), mem_t (i := 297) (by decide +kernel)⟩
theorem l_L_41 : LkV "WhoSaysOneLaw" 41 y_X_text := ⟨mem_t (i := 299) (by decide +kernel), mem_t (i := 300) (by decide +kernel), mem_t (i := 301) (by decide +kernel)⟩
theorem l_L_45 : LkV "WhoSaysOneLaw" 45 y_X_put := ⟨mem_t (i := 303) (by decide +kernel), mem_t (i := 304) (by decide +kernel), mem_t (i := 305) (by decide +kernel)⟩
theorem l_L_49 : LkV "WhoSaysOneLaw" 49 y_X_fault := ⟨mem_t (i := 307) (by decide +kernel), mem_t (i := 308) (by decide +kernel), mem_t (i := 309) (by decide +kernel)⟩
theorem l_X_131 : LkV "WhoSaysOne" 131 y_Rd_faultOf := ⟨mem_t (i := 311) (by decide +kernel), mem_t (i := 312) (by decide +kernel), mem_t (i := 313) (by decide +kernel)⟩
theorem l_Rd_22 : LkV "WhoSaysOne$Reader" 22 y_Gm_begin := ⟨mem_t (i := 315) (by decide +kernel), mem_t (i := 316) (by decide +kernel), mem_t (i := 317) (by decide +kernel)⟩
theorem l_Rd_41 : LkV "WhoSaysOne$Reader" 41 y_Rd_takesItem := ⟨mem_t (i := 319) (by decide +kernel), mem_t (i := 321) (by decide +kernel), mem_p (i := 4) (by decide +kernel)⟩
theorem l_Rd_45 : LkV "WhoSaysOne$Reader" 45 y_Rd_takesLaw := ⟨mem_t (i := 323) (by decide +kernel), mem_t (i := 325) (by decide +kernel), mem_p (i := 5) (by decide +kernel)⟩
theorem l_Rd_56 : LkV "WhoSaysOne$Reader" 56 y_Rd_figureHere := ⟨mem_t (i := 327) (by decide +kernel), mem_t (i := 329) (by decide +kernel), mem_p (i := 6) (by decide +kernel)⟩
theorem l_Rd_49 : LkV "WhoSaysOne$Reader" 49 y_Rd_takesNumber := ⟨mem_t (i := 332) (by decide +kernel), mem_t (i := 334) (by decide +kernel), mem_p (i := 7) (by decide +kernel)⟩
theorem l_Rd_65 : LkV "WhoSaysOne$Reader" 65 y_Gm_isOpen := ⟨mem_t (i := 336) (by decide +kernel), mem_t (i := 337) (by decide +kernel), mem_t (i := 338) (by decide +kernel)⟩
theorem l_Gm_51 : LkV "WhoSaysOne$Game" 51 y_Gm_open := ⟨mem_t (i := 340) (by decide +kernel), mem_t (i := 341) (by decide +kernel), mem_t (i := 342) (by decide +kernel)⟩
theorem l_Rd_68 : LkV "WhoSaysOne$Reader" 68 y_Gm_add := ⟨mem_t (i := 346) (by decide +kernel), mem_t (i := 347) (by decide +kernel), mem_t (i := 348) (by decide +kernel)⟩
theorem l_Gm_30 : LkV "WhoSaysOne$Game" 30 y_Gm_reachedWith := ⟨mem_t (i := 351) (by decide +kernel), mem_t (i := 353) (by decide +kernel), mem_p (i := 8) (by decide +kernel)⟩
theorem l_Gm_82 : LkS "WhoSaysOne$Game" 82 y_Gm_widened := ⟨mem_t (i := 355) (by decide +kernel), mem_t (i := 356) (by decide +kernel)⟩
theorem l_Rd_52 : LkV "WhoSaysOne$Reader" 52 y_Rd_takesPlayer := ⟨mem_t (i := 365) (by decide +kernel), mem_t (i := 367) (by decide +kernel), mem_p (i := 9) (by decide +kernel)⟩
theorem l_L_53 : LkV "WhoSaysOneLaw" 53 y_X_game := ⟨mem_t (i := 369) (by decide +kernel), mem_t (i := 370) (by decide +kernel), mem_t (i := 371) (by decide +kernel)⟩
theorem l_X_138 : LkV "WhoSaysOne" 138 y_Gm_become := ⟨mem_t (i := 373) (by decide +kernel), mem_t (i := 374) (by decide +kernel), mem_t (i := 375) (by decide +kernel)⟩
theorem l_Gm_37 : Cond.methodLink "WhoSaysOne$Game" 37 arraycopyName ∈ lw_tbl := mem_t (i := 377) (by decide +kernel)
theorem l_L_57 : LkV "WhoSaysOneLaw" 57 y_X_law := ⟨mem_t (i := 378) (by decide +kernel), mem_t (i := 379) (by decide +kernel), mem_t (i := 380) (by decide +kernel)⟩
theorem l_L_62 : LkV "WhoSaysOneLaw" 62 y_X_player := ⟨mem_t (i := 382) (by decide +kernel), mem_t (i := 383) (by decide +kernel), mem_t (i := 384) (by decide +kernel)⟩
theorem l_L_66 : LkV "WhoSaysOneLaw" 66 y_X_mark := ⟨mem_t (i := 386) (by decide +kernel), mem_t (i := 387) (by decide +kernel), mem_t (i := 388) (by decide +kernel)⟩
theorem l_X_151 : LkV "WhoSaysOne" 151 y_X_playerAt := ⟨mem_t (i := 390) (by decide +kernel), mem_t (i := 392) (by decide +kernel), mem_p (i := 10) (by decide +kernel)⟩
theorem l_X_155 : LkS "WhoSaysOne" 155 y_X_isOf := ⟨mem_t (i := 394) (by decide +kernel), mem_t (i := 395) (by decide +kernel)⟩
theorem l_X_159 : LkV "WhoSaysOne" 159 y_Gm_isOver := ⟨mem_t (i := 397) (by decide +kernel), mem_t (i := 398) (by decide +kernel), mem_t (i := 399) (by decide +kernel)⟩
theorem l_Gm_72 : LkV "WhoSaysOne$Game" 72 y_Gm_last := ⟨mem_t (i := 401) (by decide +kernel), mem_t (i := 402) (by decide +kernel), mem_t (i := 403) (by decide +kernel)⟩
theorem l_X_162 : LkV "WhoSaysOne" 162 y_Pl_choice := ⟨mem_t (i := 405) (by decide +kernel), mem_t (i := 406) (by decide +kernel), mem_t (i := 407) (by decide +kernel)⟩
theorem l_X_162_Bs : LkO "WhoSaysOne" 162 y_Pl_choice "WhoSaysOne$Best" y_Bs_choice 3 := ⟨⟨by decide, by decide, by decide +kernel⟩, mem_t (i := 405) (by decide +kernel), mem_t (i := 408) (by decide +kernel), mem_t (i := 406) (by decide +kernel), mem_t (i := 409) (by decide +kernel), mem_t (i := 410) (by decide +kernel), _, _, _, mem_t (i := 500) (w := .code y_Pl_choice b_Pl_choice 4 (some .int)) (by decide +kernel)⟩
theorem l_X_162_Ch : LkO "WhoSaysOne" 162 y_Pl_choice "WhoSaysOne$Chance" y_Ch_choice 3 := ⟨⟨by decide, by decide, by decide +kernel⟩, mem_t (i := 405) (by decide +kernel), mem_t (i := 408) (by decide +kernel), mem_t (i := 406) (by decide +kernel), mem_t (i := 463) (by decide +kernel), mem_t (i := 464) (by decide +kernel), _, _, _, mem_t (i := 500) (w := .code y_Pl_choice b_Pl_choice 4 (some .int)) (by decide +kernel)⟩
theorem l_X_162_Lo : LkO "WhoSaysOne" 162 y_Pl_choice "WhoSaysOne$Longer" y_Sm_choice 3 := ⟨⟨by decide, by decide, by decide +kernel⟩, mem_t (i := 405) (by decide +kernel), mem_t (i := 408) (by decide +kernel), mem_t (i := 406) (by decide +kernel), mem_t (i := 481) (by decide +kernel), mem_t (i := 482) (by decide +kernel), _, _, _, mem_t (i := 500) (w := .code y_Pl_choice b_Pl_choice 4 (some .int)) (by decide +kernel)⟩
theorem l_X_162_Pr : LkO "WhoSaysOne" 162 y_Pl_choice "WhoSaysOne$Pair" y_Pr_choice 3 := ⟨⟨by decide, by decide, by decide +kernel⟩, mem_t (i := 405) (by decide +kernel), mem_t (i := 408) (by decide +kernel), mem_t (i := 406) (by decide +kernel), mem_t (i := 498) (by decide +kernel), mem_t (i := 467) (by decide +kernel), _, _, _, mem_t (i := 500) (w := .code y_Pl_choice b_Pl_choice 4 (some .int)) (by decide +kernel)⟩
theorem l_X_162_Sm : LkO "WhoSaysOne" 162 y_Pl_choice "WhoSaysOne$Small" y_Sm_choice 3 := ⟨⟨by decide, by decide, by decide +kernel⟩, mem_t (i := 405) (by decide +kernel), mem_t (i := 408) (by decide +kernel), mem_t (i := 406) (by decide +kernel), mem_t (i := 499) (by decide +kernel), mem_t (i := 482) (by decide +kernel), _, _, _, mem_t (i := 500) (w := .code y_Pl_choice b_Pl_choice 4 (some .int)) (by decide +kernel)⟩
theorem l_Bs_7 : LkV "WhoSaysOne$Best" 7 y_So_load := ⟨mem_t (i := 412) (by decide +kernel), mem_t (i := 413) (by decide +kernel), mem_t (i := 414) (by decide +kernel)⟩
theorem l_So_18 : LkV "WhoSaysOne$Solver" 18 y_Gm_open := ⟨mem_t (i := 416) (by decide +kernel), mem_t (i := 341) (by decide +kernel), mem_t (i := 342) (by decide +kernel)⟩
theorem l_So_28 : LkS "WhoSaysOne$Solver" 28 y_Lg_bitCount := ⟨mem_t (i := 417) (by decide +kernel), mem_t (i := 418) (by decide +kernel)⟩
theorem l_So_40 : LkS "WhoSaysOne$Solver" 40 y_Ar_fillI := ⟨mem_t (i := 423) (by decide +kernel), mem_t (i := 258) (by decide +kernel)⟩
theorem l_Bs_13 : LkV "WhoSaysOne$Best" 13 y_So_leastWin := ⟨mem_t (i := 424) (by decide +kernel), mem_t (i := 425) (by decide +kernel), mem_t (i := 426) (by decide +kernel)⟩
theorem l_So_63 : LkV "WhoSaysOne$Solver" 63 y_So_winsBy := ⟨mem_t (i := 428) (by decide +kernel), mem_t (i := 429) (by decide +kernel), mem_t (i := 430) (by decide +kernel)⟩
theorem l_So_51 : LkS "WhoSaysOne$Solver" 51 y_So_gapsBehind := ⟨mem_t (i := 432) (by decide +kernel), mem_t (i := 433) (by decide +kernel)⟩
theorem l_So_55 : LkS "WhoSaysOne$Solver" 55 y_So_solved := ⟨mem_t (i := 436) (by decide +kernel), mem_t (i := 437) (by decide +kernel)⟩
theorem l_So_67 : LkV "WhoSaysOne$Solver" 67 y_So_slotOf := ⟨mem_t (i := 439) (by decide +kernel), mem_t (i := 441) (by decide +kernel), mem_p (i := 11) (by decide +kernel)⟩
theorem l_So_70 : LkS "WhoSaysOne$Solver" 70 y_Ma_min := ⟨mem_t (i := 444) (by decide +kernel), mem_t (i := 445) (by decide +kernel)⟩
theorem l_So_59 : LkS "WhoSaysOne$Solver" 59 y_So_isWin := ⟨mem_t (i := 447) (by decide +kernel), mem_t (i := 448) (by decide +kernel)⟩
theorem l_So_75 : LkV "WhoSaysOne$Solver" 75 y_So_remember := ⟨mem_t (i := 450) (by decide +kernel), mem_t (i := 452) (by decide +kernel), mem_p (i := 12) (by decide +kernel)⟩
theorem l_Bs_17 : LkV "WhoSaysOne$Best" 17 y_Gm_leastAboveOne := ⟨mem_t (i := 454) (by decide +kernel), mem_t (i := 455) (by decide +kernel), mem_t (i := 456) (by decide +kernel)⟩
theorem l_Gm_63 : LkV "WhoSaysOne$Game" 63 y_Gm_openAboveOne := ⟨mem_t (i := 458) (by decide +kernel), mem_t (i := 459) (by decide +kernel), mem_t (i := 460) (by decide +kernel)⟩
theorem l_Ch_7_up : Cond.methodLink "WhoSaysOne$Chance" 7 y_Pr_choice ∈ lw_tbl ∧ Cond.sameMethod y_Pr_choice.cls y_Pr_choice.cls y_Pr_choice.name y_Pr_choice.desc ∈ lw_tbl ∧ Cond.superclass "WhoSaysOne$Chance" y_Pr_choice.cls ∈ lw_tbl ∧ Cond.instanceMethod y_Pr_choice ∈ lw_tbl := ⟨mem_t (i := 466) (by decide +kernel), mem_t (i := 1345) (by decide +kernel), mem_t (i := 101) (by decide +kernel), mem_t (i := 467) (by decide +kernel)⟩
theorem l_Pr_7 : LkV "WhoSaysOne$Pair" 7 y_Gm_pairNumber := ⟨mem_t (i := 469) (by decide +kernel), mem_t (i := 470) (by decide +kernel), mem_t (i := 471) (by decide +kernel)⟩
theorem l_Pr_13 : LkV "WhoSaysOne$Pair" 13 y_Gm_isOpen := ⟨mem_t (i := 476) (by decide +kernel), mem_t (i := 337) (by decide +kernel), mem_t (i := 338) (by decide +kernel)⟩
theorem l_Pr_17 : LkV "WhoSaysOne$Pair" 17 y_Gm_leastAboveOne := ⟨mem_t (i := 477) (by decide +kernel), mem_t (i := 455) (by decide +kernel), mem_t (i := 456) (by decide +kernel)⟩
theorem l_Ch_11 : LkV "WhoSaysOne$Chance" 11 y_Gm_openAboveOne := ⟨mem_t (i := 478) (by decide +kernel), mem_t (i := 459) (by decide +kernel), mem_t (i := 460) (by decide +kernel)⟩
theorem l_Ch_17 : LkS "WhoSaysOne$Chance" 17 y_Lg_bitCount := ⟨mem_t (i := 479) (by decide +kernel), mem_t (i := 418) (by decide +kernel)⟩
theorem l_Sm_9 : LkV "WhoSaysOne$Small" 9 y_Gm_isOpen := ⟨mem_t (i := 484) (by decide +kernel), mem_t (i := 337) (by decide +kernel), mem_t (i := 338) (by decide +kernel)⟩
theorem l_Sm_15 : LkV "WhoSaysOne$Small" 15 y_Gm_openBehind := ⟨mem_t (i := 485) (by decide +kernel), mem_t (i := 486) (by decide +kernel), mem_t (i := 487) (by decide +kernel)⟩
theorem l_Gm_57 : LkS "WhoSaysOne$Game" 57 y_Lg_bitCount := ⟨mem_t (i := 489) (by decide +kernel), mem_t (i := 418) (by decide +kernel)⟩
theorem l_Sm_19 : LkV "WhoSaysOne$Small" 19 y_Sm_isBetter := ⟨mem_t (i := 490) (by decide +kernel), mem_t (i := 491) (by decide +kernel), mem_t (i := 492) (by decide +kernel)⟩
theorem l_Sm_19_Lo : LkO "WhoSaysOne$Small" 19 y_Sm_isBetter "WhoSaysOne$Longer" y_Lo_isBetter 2 := ⟨⟨by decide, by decide, by decide +kernel⟩, mem_t (i := 490) (by decide +kernel), mem_t (i := 493) (by decide +kernel), mem_t (i := 491) (by decide +kernel), mem_t (i := 494) (by decide +kernel), mem_t (i := 495) (by decide +kernel), _, _, _, mem_t (i := 497) (w := .code y_Sm_isBetter b_Sm_isBetter 3 (some .boolean)) (by decide +kernel)⟩
theorem l_Pl_7 : LkV "WhoSaysOne$Player" 7 y_Gm_leastAboveOne := ⟨mem_t (i := 501) (by decide +kernel), mem_t (i := 455) (by decide +kernel), mem_t (i := 456) (by decide +kernel)⟩
theorem l_X_166 : LkV "WhoSaysOne" 166 y_Gm_openBehind := ⟨mem_t (i := 502) (by decide +kernel), mem_t (i := 486) (by decide +kernel), mem_t (i := 487) (by decide +kernel)⟩
theorem l_X_169 : LkV "WhoSaysOne" 169 y_Gm_open := ⟨mem_t (i := 503) (by decide +kernel), mem_t (i := 341) (by decide +kernel), mem_t (i := 342) (by decide +kernel)⟩
theorem l_X_173 : LkV "WhoSaysOne" 173 y_Gm_pairNumber := ⟨mem_t (i := 504) (by decide +kernel), mem_t (i := 470) (by decide +kernel), mem_t (i := 471) (by decide +kernel)⟩
theorem l_X_177 : LkV "WhoSaysOne" 177 y_So_load := ⟨mem_t (i := 505) (by decide +kernel), mem_t (i := 413) (by decide +kernel), mem_t (i := 414) (by decide +kernel)⟩
theorem l_X_181 : LkV "WhoSaysOne" 181 y_So_winCount := ⟨mem_t (i := 506) (by decide +kernel), mem_t (i := 507) (by decide +kernel), mem_t (i := 508) (by decide +kernel)⟩
theorem l_X_184 : LkV "WhoSaysOne" 184 y_Gm_openCount := ⟨mem_t (i := 510) (by decide +kernel), mem_t (i := 511) (by decide +kernel), mem_t (i := 512) (by decide +kernel)⟩
theorem l_X_187 : LkV "WhoSaysOne" 187 y_Gm_openAboveOne := ⟨mem_t (i := 514) (by decide +kernel), mem_t (i := 459) (by decide +kernel), mem_t (i := 460) (by decide +kernel)⟩
theorem l_X_190 : LkS "WhoSaysOne" 190 y_Lg_bitCount := ⟨mem_t (i := 515) (by decide +kernel), mem_t (i := 418) (by decide +kernel)⟩
theorem l_L_70 : LkV "WhoSaysOneLaw" 70 y_X_say := ⟨mem_t (i := 516) (by decide +kernel), mem_t (i := 517) (by decide +kernel), mem_t (i := 518) (by decide +kernel)⟩
theorem l_X_196 : LkV "WhoSaysOne" 196 y_Gm_isOpen := ⟨mem_t (i := 520) (by decide +kernel), mem_t (i := 337) (by decide +kernel), mem_t (i := 338) (by decide +kernel)⟩
theorem l_X_200 : LkV "WhoSaysOne" 200 y_Gm_add := ⟨mem_t (i := 521) (by decide +kernel), mem_t (i := 347) (by decide +kernel), mem_t (i := 348) (by decide +kernel)⟩
theorem l_L_74 : LkV "WhoSaysOneLaw" 74 y_X_may := ⟨mem_t (i := 522) (by decide +kernel), mem_t (i := 523) (by decide +kernel), mem_t (i := 524) (by decide +kernel)⟩
theorem l_L_78 : LkV "WhoSaysOneLaw" 78 y_X_said := ⟨mem_t (i := 526) (by decide +kernel), mem_t (i := 527) (by decide +kernel), mem_t (i := 528) (by decide +kernel)⟩
theorem l_L_82 : LkV "WhoSaysOneLaw" 82 y_X_undo := ⟨mem_t (i := 530) (by decide +kernel), mem_t (i := 531) (by decide +kernel), mem_t (i := 532) (by decide +kernel)⟩
theorem l_X_207 : LkV "WhoSaysOne" 207 y_Gm_cut := ⟨mem_t (i := 534) (by decide +kernel), mem_t (i := 535) (by decide +kernel), mem_t (i := 536) (by decide +kernel)⟩
theorem l_Gm_34 : LkV "WhoSaysOne$Game" 34 y_Gm_reachedWithout := ⟨mem_t (i := 538) (by decide +kernel), mem_t (i := 540) (by decide +kernel), mem_p (i := 13) (by decide +kernel)⟩
theorem l_L_86 : LkV "WhoSaysOneLaw" 86 y_X_turn := ⟨mem_t (i := 542) (by decide +kernel), mem_t (i := 543) (by decide +kernel), mem_t (i := 544) (by decide +kernel)⟩
theorem l_X_210 : LkV "WhoSaysOne" 210 y_Gm_loser := ⟨mem_t (i := 546) (by decide +kernel), mem_t (i := 547) (by decide +kernel), mem_t (i := 548) (by decide +kernel)⟩
theorem l_Gm_76 : LkV "WhoSaysOne$Game" 76 y_Gm_isOver := ⟨mem_t (i := 550) (by decide +kernel), mem_t (i := 398) (by decide +kernel), mem_t (i := 399) (by decide +kernel)⟩
theorem l_L_90 : LkV "WhoSaysOneLaw" 90 y_X_keep := ⟨mem_t (i := 551) (by decide +kernel), mem_t (i := 552) (by decide +kernel), mem_t (i := 553) (by decide +kernel)⟩
theorem l_L_94 : LkV "WhoSaysOneLaw" 94 y_X_on := ⟨mem_t (i := 555) (by decide +kernel), mem_t (i := 556) (by decide +kernel), mem_t (i := 557) (by decide +kernel)⟩
theorem l_L_98 : LkV "WhoSaysOneLaw" 98 y_X_had := ⟨mem_t (i := 559) (by decide +kernel), mem_t (i := 560) (by decide +kernel), mem_t (i := 561) (by decide +kernel)⟩
theorem l_X_213 : LkV "WhoSaysOne" 213 y_Gm_divisor := ⟨mem_t (i := 563) (by decide +kernel), mem_t (i := 564) (by decide +kernel), mem_t (i := 565) (by decide +kernel)⟩
theorem l_X_216 : LkV "WhoSaysOne" 216 y_Su_fewest := ⟨mem_t (i := 567) (by decide +kernel), mem_t (i := 568) (by decide +kernel), mem_t (i := 569) (by decide +kernel)⟩
theorem l_Su_35 : LkS "WhoSaysOne$Sums" 35 y_Ar_fillI := ⟨mem_t (i := 572) (by decide +kernel), mem_t (i := 258) (by decide +kernel)⟩
theorem l_Su_70 : LkV "WhoSaysOne$Sums" 70 y_Su_takeThrice := ⟨mem_t (i := 573) (by decide +kernel), mem_t (i := 575) (by decide +kernel), mem_p (i := 14) (by decide +kernel)⟩
theorem l_Su_80 : LkS "WhoSaysOne$Sums" 80 y_Ma_min := ⟨mem_t (i := 577) (by decide +kernel), mem_t (i := 445) (by decide +kernel)⟩
theorem l_Su_74 : LkV "WhoSaysOne$Sums" 74 y_Su_takeOften := ⟨mem_t (i := 578) (by decide +kernel), mem_t (i := 580) (by decide +kernel), mem_p (i := 15) (by decide +kernel)⟩
theorem l_L_102 : LkV "WhoSaysOneLaw" 102 y_X_ways := ⟨mem_t (i := 583) (by decide +kernel), mem_t (i := 584) (by decide +kernel), mem_t (i := 585) (by decide +kernel)⟩
theorem l_X_221 : LkV "WhoSaysOne" 221 y_Su_waysOf := ⟨mem_t (i := 587) (by decide +kernel), mem_t (i := 588) (by decide +kernel), mem_t (i := 589) (by decide +kernel)⟩
theorem l_Su_77 : LkS "WhoSaysOne$Sums" 77 y_Ar_fillJ := ⟨mem_t (i := 591) (by decide +kernel), mem_t (i := 592) (by decide +kernel)⟩
theorem l_X_225 : LkV "WhoSaysOne" 225 y_X_tellFraction := ⟨mem_t (i := 594) (by decide +kernel), mem_t (i := 596) (by decide +kernel), mem_p (i := 16) (by decide +kernel)⟩
theorem l_X_319 : LkS "WhoSaysOne" 319 y_X_divisorOf := ⟨mem_t (i := 598) (by decide +kernel), mem_t (i := 363) (by decide +kernel)⟩
theorem l_L_106 : LkV "WhoSaysOneLaw" 106 y_X_byJust := ⟨mem_t (i := 599) (by decide +kernel), mem_t (i := 600) (by decide +kernel), mem_t (i := 601) (by decide +kernel)⟩
theorem l_X_229 : LkV "WhoSaysOne" 229 y_Su_waysByJust := ⟨mem_t (i := 603) (by decide +kernel), mem_t (i := 604) (by decide +kernel), mem_t (i := 605) (by decide +kernel)⟩
theorem l_L_110 : LkV "WhoSaysOneLaw" 110 y_X_gaps := ⟨mem_t (i := 607) (by decide +kernel), mem_t (i := 608) (by decide +kernel), mem_t (i := 609) (by decide +kernel)⟩
theorem l_X_233 : LkV "WhoSaysOne" 233 y_Su_load := ⟨mem_t (i := 611) (by decide +kernel), mem_t (i := 612) (by decide +kernel), mem_t (i := 613) (by decide +kernel)⟩
theorem l_Su_46 : LkV "WhoSaysOne$Sums" 46 y_Gm_divisor := ⟨mem_t (i := 615) (by decide +kernel), mem_t (i := 564) (by decide +kernel), mem_t (i := 565) (by decide +kernel)⟩
theorem l_Su_56 : LkS "WhoSaysOne$Sums" 56 y_Su_widen := ⟨mem_t (i := 616) (by decide +kernel), mem_t (i := 617) (by decide +kernel)⟩
theorem l_X_235 : LkV "WhoSaysOne" 235 y_Su_isEndless := ⟨mem_t (i := 620) (by decide +kernel), mem_t (i := 621) (by decide +kernel), mem_t (i := 622) (by decide +kernel)⟩
theorem l_Su_60 : LkS "WhoSaysOne$Sums" 60 y_Su_greatestOf := ⟨mem_t (i := 624) (by decide +kernel), mem_t (i := 625) (by decide +kernel)⟩
theorem l_Su_89 : LkS "WhoSaysOne$Sums" 89 y_Ma_max := ⟨mem_t (i := 627) (by decide +kernel), mem_t (i := 628) (by decide +kernel)⟩
theorem l_X_241 : LkV "WhoSaysOne" 241 y_Su_greatestGap := ⟨mem_t (i := 630) (by decide +kernel), mem_t (i := 631) (by decide +kernel), mem_t (i := 632) (by decide +kernel)⟩
theorem l_X_244 : LkV "WhoSaysOne" 244 y_Su_isHad := ⟨mem_t (i := 634) (by decide +kernel), mem_t (i := 635) (by decide +kernel), mem_t (i := 636) (by decide +kernel)⟩
theorem l_X_247 : LkV "WhoSaysOne" 247 y_Rw_add := ⟨mem_t (i := 638) (by decide +kernel), mem_t (i := 639) (by decide +kernel), mem_t (i := 640) (by decide +kernel)⟩
theorem l_X_248 : LkV "WhoSaysOne" 248 y_Su_gapCount := ⟨mem_t (i := 643) (by decide +kernel), mem_t (i := 644) (by decide +kernel), mem_t (i := 645) (by decide +kernel)⟩
theorem l_L_114 : LkV "WhoSaysOneLaw" 114 y_X_greatest := ⟨mem_t (i := 647) (by decide +kernel), mem_t (i := 648) (by decide +kernel), mem_t (i := 649) (by decide +kernel)⟩
theorem l_L_118 : LkV "WhoSaysOneLaw" 118 y_X_rest := ⟨mem_t (i := 651) (by decide +kernel), mem_t (i := 652) (by decide +kernel), mem_t (i := 653) (by decide +kernel)⟩
theorem l_L_122 : LkV "WhoSaysOneLaw" 122 y_X_needed := ⟨mem_t (i := 655) (by decide +kernel), mem_t (i := 656) (by decide +kernel), mem_t (i := 657) (by decide +kernel)⟩
theorem l_X_251 : LkV "WhoSaysOne" 251 y_Gm_neededBits := ⟨mem_t (i := 659) (by decide +kernel), mem_t (i := 660) (by decide +kernel), mem_t (i := 661) (by decide +kernel)⟩
theorem l_X_254 : LkS "WhoSaysOne" 254 y_In_bitCount := ⟨mem_t (i := 663) (by decide +kernel), mem_t (i := 664) (by decide +kernel)⟩
theorem l_L_126 : LkV "WhoSaysOneLaw" 126 y_X_common := ⟨mem_t (i := 669) (by decide +kernel), mem_t (i := 670) (by decide +kernel), mem_t (i := 671) (by decide +kernel)⟩
theorem l_L_130 : LkV "WhoSaysOneLaw" 130 y_X_from := ⟨mem_t (i := 673) (by decide +kernel), mem_t (i := 674) (by decide +kernel), mem_t (i := 675) (by decide +kernel)⟩
theorem l_L_134 : LkV "WhoSaysOneLaw" 134 y_X_wish := ⟨mem_t (i := 677) (by decide +kernel), mem_t (i := 678) (by decide +kernel), mem_t (i := 679) (by decide +kernel)⟩
theorem l_X_258 : LkV "WhoSaysOne" 258 y_Su_greatestWith := ⟨mem_t (i := 681) (by decide +kernel), mem_t (i := 682) (by decide +kernel), mem_t (i := 683) (by decide +kernel)⟩
theorem l_Su_64 : Cond.methodLink "WhoSaysOne$Sums" 64 arraycopyName ∈ lw_tbl := mem_t (i := 685) (by decide +kernel)
theorem l_L_138 : LkV "WhoSaysOneLaw" 138 y_X_whose := ⟨mem_t (i := 686) (by decide +kernel), mem_t (i := 687) (by decide +kernel), mem_t (i := 688) (by decide +kernel)⟩
theorem l_X_261 : LkV "WhoSaysOne" 261 y_X_refusedSolving := ⟨mem_t (i := 690) (by decide +kernel), mem_t (i := 692) (by decide +kernel), mem_p (i := 17) (by decide +kernel)⟩
theorem l_L_142 : LkV "WhoSaysOneLaw" 142 y_X_best := ⟨mem_t (i := 694) (by decide +kernel), mem_t (i := 695) (by decide +kernel), mem_t (i := 696) (by decide +kernel)⟩
theorem l_X_264 : LkV "WhoSaysOne" 264 y_So_winsBy := ⟨mem_t (i := 698) (by decide +kernel), mem_t (i := 429) (by decide +kernel), mem_t (i := 430) (by decide +kernel)⟩
theorem l_L_146 : LkV "WhoSaysOneLaw" 146 y_X_lasts := ⟨mem_t (i := 699) (by decide +kernel), mem_t (i := 700) (by decide +kernel), mem_t (i := 701) (by decide +kernel)⟩
theorem l_X_267 : LkV "WhoSaysOne" 267 y_So_shortest := ⟨mem_t (i := 703) (by decide +kernel), mem_t (i := 704) (by decide +kernel), mem_t (i := 705) (by decide +kernel)⟩
theorem l_X_270 : LkV "WhoSaysOne" 270 y_So_gapCount := ⟨mem_t (i := 707) (by decide +kernel), mem_t (i := 708) (by decide +kernel), mem_t (i := 709) (by decide +kernel)⟩
theorem l_So_46 : LkS "WhoSaysOne$Solver" 46 y_In_bitCount := ⟨mem_t (i := 711) (by decide +kernel), mem_t (i := 664) (by decide +kernel)⟩
theorem l_L_150 : LkV "WhoSaysOneLaw" 150 y_X_share := ⟨mem_t (i := 712) (by decide +kernel), mem_t (i := 713) (by decide +kernel), mem_t (i := 714) (by decide +kernel)⟩
theorem l_L_154 : LkV "WhoSaysOneLaw" 154 y_X_says := ⟨mem_t (i := 716) (by decide +kernel), mem_t (i := 717) (by decide +kernel), mem_t (i := 718) (by decide +kernel)⟩
theorem l_L_158 : LkV "WhoSaysOneLaw" 158 y_X_play := ⟨mem_t (i := 720) (by decide +kernel), mem_t (i := 721) (by decide +kernel), mem_t (i := 722) (by decide +kernel)⟩
theorem l_L_162 : LkV "WhoSaysOneLaw" 162 y_X_list := ⟨mem_t (i := 726) (by decide +kernel), mem_t (i := 727) (by decide +kernel), mem_t (i := 728) (by decide +kernel)⟩
theorem l_X_275 : LkV "WhoSaysOne" 275 y_Rw_asBits := ⟨mem_t (i := 730) (by decide +kernel), mem_t (i := 731) (by decide +kernel), mem_t (i := 732) (by decide +kernel)⟩
theorem l_X_278 : LkS "WhoSaysOne" 278 y_X_leastPaid := ⟨mem_t (i := 735) (by decide +kernel), mem_t (i := 736) (by decide +kernel)⟩
theorem l_X_323 : LkS "WhoSaysOne" 323 y_X_isGap := ⟨mem_t (i := 738) (by decide +kernel), mem_t (i := 739) (by decide +kernel)⟩
theorem l_X_326 : LkS "WhoSaysOne" 326 y_X_isPaid := ⟨mem_t (i := 741) (by decide +kernel), mem_t (i := 742) (by decide +kernel)⟩
theorem l_L_166 : LkV "WhoSaysOneLaw" 166 y_X_makes := ⟨mem_t (i := 744) (by decide +kernel), mem_t (i := 745) (by decide +kernel), mem_t (i := 746) (by decide +kernel)⟩
theorem l_X_281 : LkS "WhoSaysOne" 281 y_X_isMaker := ⟨mem_t (i := 748) (by decide +kernel), mem_t (i := 749) (by decide +kernel)⟩
theorem l_L_170 : LkV "WhoSaysOneLaw" 170 y_X_tree := ⟨mem_t (i := 751) (by decide +kernel), mem_t (i := 752) (by decide +kernel), mem_t (i := 753) (by decide +kernel)⟩
theorem l_X_285 : LkS "WhoSaysOne" 285 y_X_setsBelow := ⟨mem_t (i := 755) (by decide +kernel), mem_t (i := 756) (by decide +kernel)⟩
theorem l_X_333 : LkS "WhoSaysOne" 333 y_X_lowestOf := ⟨mem_t (i := 760) (by decide +kernel), mem_t (i := 360) (by decide +kernel)⟩
theorem l_L_174 : LkV "WhoSaysOneLaw" 174 y_X_asked := ⟨mem_t (i := 761) (by decide +kernel), mem_t (i := 762) (by decide +kernel), mem_t (i := 763) (by decide +kernel)⟩
theorem l_L_178 : LkV "WhoSaysOneLaw" 178 y_X_upper := ⟨mem_t (i := 765) (by decide +kernel), mem_t (i := 766) (by decide +kernel), mem_t (i := 767) (by decide +kernel)⟩
theorem l_L_183 : LkV "WhoSaysOneLaw" 183 y_X_lower := ⟨mem_t (i := 769) (by decide +kernel), mem_t (i := 770) (by decide +kernel), mem_t (i := 771) (by decide +kernel)⟩
theorem l_L_187 : LkV "WhoSaysOneLaw" 187 y_X_count := ⟨mem_t (i := 773) (by decide +kernel), mem_t (i := 774) (by decide +kernel), mem_t (i := 775) (by decide +kernel)⟩
theorem l_X_292 : LkV "WhoSaysOne" 292 y_X_playersOf := ⟨mem_t (i := 777) (by decide +kernel), mem_t (i := 779) (by decide +kernel), mem_p (i := 18) (by decide +kernel)⟩
theorem l_X_295 : LkV "WhoSaysOne" 295 y_X_keptCount := ⟨mem_t (i := 781) (by decide +kernel), mem_t (i := 783) (by decide +kernel), mem_p (i := 19) (by decide +kernel)⟩
theorem l_X_298 : LkS "WhoSaysOne" 298 y_X_thereOf := ⟨mem_t (i := 785) (by decide +kernel), mem_t (i := 786) (by decide +kernel)⟩
theorem l_L_191 : LkV "WhoSaysOneLaw" 191 y_X_finding := ⟨mem_t (i := 788) (by decide +kernel), mem_t (i := 789) (by decide +kernel), mem_t (i := 790) (by decide +kernel)⟩
theorem l_L_195 : LkV "WhoSaysOneLaw" 195 y_X_findings := ⟨mem_t (i := 792) (by decide +kernel), mem_t (i := 793) (by decide +kernel), mem_t (i := 794) (by decide +kernel)⟩
theorem l_L_199 : LkV "WhoSaysOneLaw" 199 y_X_digest := ⟨mem_t (i := 796) (by decide +kernel), mem_t (i := 797) (by decide +kernel), mem_t (i := 798) (by decide +kernel)⟩
theorem l_X_309 : LkV "WhoSaysOne" 309 y_X_count := ⟨mem_t (i := 802) (by decide +kernel), mem_t (i := 774) (by decide +kernel), mem_t (i := 775) (by decide +kernel)⟩
theorem l_X_312 : LkV "WhoSaysOne" 312 y_Gm_digestNumbers := ⟨mem_t (i := 803) (by decide +kernel), mem_t (i := 804) (by decide +kernel), mem_t (i := 805) (by decide +kernel)⟩
theorem l_X_316 : LkV "WhoSaysOne" 316 y_Rw_digestPlaces := ⟨mem_t (i := 808) (by decide +kernel), mem_t (i := 809) (by decide +kernel), mem_t (i := 810) (by decide +kernel)⟩
theorem l_L_12 : Cond.methodLink "WhoSaysOneLaw" 12 y_M_init ∈ lw_tbl ∧ Cond.instanceMethod y_M_init ∈ lw_tbl := ⟨mem_t (i := 815) (by decide +kernel), mem_t (i := 816) (by decide +kernel)⟩
theorem l_M_1 : Cond.methodLink "WhoSaysOneModel" 1 objectInit ∈ lw_tbl := mem_t (i := 818) (by decide +kernel)
theorem l_L_194 : LkV "WhoSaysOneLaw" 194 y_M_finding := ⟨mem_t (i := 941) (by decide +kernel), mem_t (i := 942) (by decide +kernel), mem_t (i := 943) (by decide +kernel)⟩
theorem l_L_198 : LkV "WhoSaysOneLaw" 198 y_M_findings := ⟨mem_t (i := 945) (by decide +kernel), mem_t (i := 946) (by decide +kernel), mem_t (i := 947) (by decide +kernel)⟩
theorem l_M_96 : LkS "WhoSaysOneModel" 96 y_M_in := ⟨mem_t (i := 949) (by decide +kernel), mem_t (i := 950) (by decide +kernel)⟩
theorem l_L_177 : LkV "WhoSaysOneLaw" 177 y_M_asked := ⟨mem_t (i := 952) (by decide +kernel), mem_t (i := 953) (by decide +kernel), mem_t (i := 954) (by decide +kernel)⟩
theorem l_L_182 : LkV "WhoSaysOneLaw" 182 y_M_upper := ⟨mem_t (i := 956) (by decide +kernel), mem_t (i := 957) (by decide +kernel), mem_t (i := 958) (by decide +kernel)⟩
theorem l_L_186 : LkV "WhoSaysOneLaw" 186 y_M_lower := ⟨mem_t (i := 960) (by decide +kernel), mem_t (i := 961) (by decide +kernel), mem_t (i := 962) (by decide +kernel)⟩
theorem l_L_17 : LkV "WhoSaysOneLaw" 17 y_M_row := ⟨mem_t (i := 964) (by decide +kernel), mem_t (i := 965) (by decide +kernel), mem_t (i := 966) (by decide +kernel)⟩
theorem l_M_110 : LkS "WhoSaysOneModel" 110 y_M_isRow := ⟨mem_t (i := 968) (by decide +kernel), mem_t (i := 969) (by decide +kernel)⟩
theorem l_M_114 : LkV "WhoSaysOneModel" 114 y_M_meets := ⟨mem_t (i := 971) (by decide +kernel), mem_t (i := 973) (by decide +kernel), mem_p (i := 20) (by decide +kernel)⟩
theorem l_L_22 : LkV "WhoSaysOneLaw" 22 y_M_lay := ⟨mem_t (i := 975) (by decide +kernel), mem_t (i := 976) (by decide +kernel), mem_t (i := 977) (by decide +kernel)⟩
theorem l_M_118 : LkV "WhoSaysOneModel" 118 y_M_rowAt := ⟨mem_t (i := 979) (by decide +kernel), mem_t (i := 981) (by decide +kernel), mem_p (i := 21) (by decide +kernel)⟩
theorem l_M_121 : LkV "WhoSaysOneModel" 121 y_M_tells := ⟨mem_t (i := 983) (by decide +kernel), mem_t (i := 985) (by decide +kernel), mem_p (i := 22) (by decide +kernel)⟩
theorem l_L_26 : LkV "WhoSaysOneLaw" 26 y_M_at := ⟨mem_t (i := 987) (by decide +kernel), mem_t (i := 988) (by decide +kernel), mem_t (i := 989) (by decide +kernel)⟩
theorem l_L_31 : LkV "WhoSaysOneLaw" 31 y_M_tear := ⟨mem_t (i := 991) (by decide +kernel), mem_t (i := 992) (by decide +kernel), mem_t (i := 993) (by decide +kernel)⟩
theorem l_L_36 : LkV "WhoSaysOneLaw" 36 y_M_copy := ⟨mem_t (i := 995) (by decide +kernel), mem_t (i := 996) (by decide +kernel), mem_t (i := 997) (by decide +kernel)⟩
theorem l_L_40 : LkV "WhoSaysOneLaw" 40 y_M_mean := ⟨mem_t (i := 999) (by decide +kernel), mem_t (i := 1000) (by decide +kernel), mem_t (i := 1001) (by decide +kernel)⟩
theorem l_L_44 : LkV "WhoSaysOneLaw" 44 y_M_text := ⟨mem_t (i := 1003) (by decide +kernel), mem_t (i := 1004) (by decide +kernel), mem_t (i := 1005) (by decide +kernel)⟩
theorem l_M_124 : LkS "WhoSaysOneModel" 124 y_M_isText := ⟨mem_t (i := 1007) (by decide +kernel), mem_t (i := 1008) (by decide +kernel)⟩
theorem l_L_48 : LkV "WhoSaysOneLaw" 48 y_M_put := ⟨mem_t (i := 1010) (by decide +kernel), mem_t (i := 1011) (by decide +kernel), mem_t (i := 1012) (by decide +kernel)⟩
theorem l_L_52 : LkV "WhoSaysOneLaw" 52 y_M_fault := ⟨mem_t (i := 1014) (by decide +kernel), mem_t (i := 1015) (by decide +kernel), mem_t (i := 1016) (by decide +kernel)⟩
theorem l_M_169 : LkV "WhoSaysOneModel" 169 y_M_faultOf := ⟨mem_t (i := 1018) (by decide +kernel), mem_t (i := 1020) (by decide +kernel), mem_p (i := 23) (by decide +kernel)⟩
theorem l_M_141 : LkV "WhoSaysOneModel" 141 y_M_byteAt := ⟨mem_t (i := 1022) (by decide +kernel), mem_t (i := 1024) (by decide +kernel), mem_p (i := 24) (by decide +kernel)⟩
theorem l_M_166 : LkV "WhoSaysOneModel" 166 y_M_readsItem := ⟨mem_t (i := 1026) (by decide +kernel), mem_t (i := 1028) (by decide +kernel), mem_p (i := 25) (by decide +kernel)⟩
theorem l_M_154 : LkV "WhoSaysOneModel" 154 y_M_readsLaw := ⟨mem_t (i := 1030) (by decide +kernel), mem_t (i := 1032) (by decide +kernel), mem_p (i := 26) (by decide +kernel)⟩
theorem l_M_157 : LkV "WhoSaysOneModel" 157 y_M_readsNumber := ⟨mem_t (i := 1034) (by decide +kernel), mem_t (i := 1036) (by decide +kernel), mem_p (i := 27) (by decide +kernel)⟩
theorem l_M_131 : LkV "WhoSaysOneModel" 131 y_M_layFew := ⟨mem_t (i := 1038) (by decide +kernel), mem_t (i := 1040) (by decide +kernel), mem_p (i := 28) (by decide +kernel)⟩
theorem l_M_106 : LkS "WhoSaysOneModel" 106 y_M_divisor := ⟨mem_t (i := 1043) (by decide +kernel), mem_t (i := 1044) (by decide +kernel)⟩
theorem l_M_128 : LkS "WhoSaysOneModel" 128 y_M_lesser := ⟨mem_t (i := 1046) (by decide +kernel), mem_t (i := 1047) (by decide +kernel)⟩
theorem l_M_135 : LkV "WhoSaysOneModel" 135 y_M_isHad := ⟨mem_t (i := 1049) (by decide +kernel), mem_t (i := 1051) (by decide +kernel), mem_p (i := 29) (by decide +kernel)⟩
theorem l_M_160 : LkS "WhoSaysOneModel" 160 y_M_kindOf := ⟨mem_t (i := 1053) (by decide +kernel), mem_t (i := 1054) (by decide +kernel)⟩
theorem l_L_56 : LkV "WhoSaysOneLaw" 56 y_M_game := ⟨mem_t (i := 1056) (by decide +kernel), mem_t (i := 1057) (by decide +kernel), mem_t (i := 1058) (by decide +kernel)⟩
theorem l_L_61 : LkV "WhoSaysOneLaw" 61 y_M_law := ⟨mem_t (i := 1060) (by decide +kernel), mem_t (i := 1061) (by decide +kernel), mem_t (i := 1062) (by decide +kernel)⟩
theorem l_L_65 : LkV "WhoSaysOneLaw" 65 y_M_player := ⟨mem_t (i := 1064) (by decide +kernel), mem_t (i := 1065) (by decide +kernel), mem_t (i := 1066) (by decide +kernel)⟩
theorem l_M_181 : LkV "WhoSaysOneModel" 181 y_M_isPlayer := ⟨mem_t (i := 1068) (by decide +kernel), mem_t (i := 1070) (by decide +kernel), mem_p (i := 30) (by decide +kernel)⟩
theorem l_L_73 : LkV "WhoSaysOneLaw" 73 y_M_say := ⟨mem_t (i := 1072) (by decide +kernel), mem_t (i := 1073) (by decide +kernel), mem_t (i := 1074) (by decide +kernel)⟩
theorem l_M_196 : LkV "WhoSaysOneModel" 196 y_M_isOver := ⟨mem_t (i := 1076) (by decide +kernel), mem_t (i := 1078) (by decide +kernel), mem_p (i := 31) (by decide +kernel)⟩
theorem l_M_188 : LkV "WhoSaysOneModel" 188 y_M_saidOne := ⟨mem_t (i := 1080) (by decide +kernel), mem_t (i := 1082) (by decide +kernel), mem_p (i := 32) (by decide +kernel)⟩
theorem l_M_192 : LkV "WhoSaysOneModel" 192 y_M_leftNow := ⟨mem_t (i := 1084) (by decide +kernel), mem_t (i := 1086) (by decide +kernel), mem_p (i := 33) (by decide +kernel)⟩
theorem l_M_184 : LkV "WhoSaysOneModel" 184 y_M_leftOf := ⟨mem_t (i := 1088) (by decide +kernel), mem_t (i := 1090) (by decide +kernel), mem_p (i := 34) (by decide +kernel)⟩
theorem l_M_199 : LkV "WhoSaysOneModel" 199 y_M_maySay := ⟨mem_t (i := 1092) (by decide +kernel), mem_t (i := 1094) (by decide +kernel), mem_p (i := 35) (by decide +kernel)⟩
theorem l_L_77 : LkV "WhoSaysOneLaw" 77 y_M_may := ⟨mem_t (i := 1096) (by decide +kernel), mem_t (i := 1097) (by decide +kernel), mem_t (i := 1098) (by decide +kernel)⟩
theorem l_L_81 : LkV "WhoSaysOneLaw" 81 y_M_said := ⟨mem_t (i := 1100) (by decide +kernel), mem_t (i := 1101) (by decide +kernel), mem_t (i := 1102) (by decide +kernel)⟩
theorem l_L_85 : LkV "WhoSaysOneLaw" 85 y_M_undo := ⟨mem_t (i := 1104) (by decide +kernel), mem_t (i := 1105) (by decide +kernel), mem_t (i := 1106) (by decide +kernel)⟩
theorem l_L_89 : LkV "WhoSaysOneLaw" 89 y_M_turn := ⟨mem_t (i := 1108) (by decide +kernel), mem_t (i := 1109) (by decide +kernel), mem_t (i := 1110) (by decide +kernel)⟩
theorem l_L_93 : LkV "WhoSaysOneLaw" 93 y_M_keep := ⟨mem_t (i := 1112) (by decide +kernel), mem_t (i := 1113) (by decide +kernel), mem_t (i := 1114) (by decide +kernel)⟩
theorem l_L_97 : LkV "WhoSaysOneLaw" 97 y_M_on := ⟨mem_t (i := 1116) (by decide +kernel), mem_t (i := 1117) (by decide +kernel), mem_t (i := 1118) (by decide +kernel)⟩
theorem l_L_101 : LkV "WhoSaysOneLaw" 101 y_M_had := ⟨mem_t (i := 1120) (by decide +kernel), mem_t (i := 1121) (by decide +kernel), mem_t (i := 1122) (by decide +kernel)⟩
theorem l_L_105 : LkV "WhoSaysOneLaw" 105 y_M_ways := ⟨mem_t (i := 1124) (by decide +kernel), mem_t (i := 1125) (by decide +kernel), mem_t (i := 1126) (by decide +kernel)⟩
theorem l_M_202 : LkV "WhoSaysOneModel" 202 y_M_whole := ⟨mem_t (i := 1128) (by decide +kernel), mem_t (i := 1130) (by decide +kernel), mem_p (i := 36) (by decide +kernel)⟩
theorem l_L_109 : LkV "WhoSaysOneLaw" 109 y_M_byJust := ⟨mem_t (i := 1132) (by decide +kernel), mem_t (i := 1133) (by decide +kernel), mem_t (i := 1134) (by decide +kernel)⟩
theorem l_L_113 : LkV "WhoSaysOneLaw" 113 y_M_gaps := ⟨mem_t (i := 1136) (by decide +kernel), mem_t (i := 1137) (by decide +kernel), mem_t (i := 1138) (by decide +kernel)⟩
theorem l_M_213 : LkV "WhoSaysOneModel" 213 y_M_isEndless := ⟨mem_t (i := 1140) (by decide +kernel), mem_t (i := 1142) (by decide +kernel), mem_p (i := 37) (by decide +kernel)⟩
theorem l_M_206 : LkV "WhoSaysOneModel" 206 y_M_commonOf := ⟨mem_t (i := 1144) (by decide +kernel), mem_t (i := 1146) (by decide +kernel), mem_p (i := 38) (by decide +kernel)⟩
theorem l_M_216 : LkV "WhoSaysOneModel" 216 y_M_layGaps := ⟨mem_t (i := 1148) (by decide +kernel), mem_t (i := 1150) (by decide +kernel), mem_p (i := 39) (by decide +kernel)⟩
theorem l_L_117 : LkV "WhoSaysOneLaw" 117 y_M_greatest := ⟨mem_t (i := 1152) (by decide +kernel), mem_t (i := 1153) (by decide +kernel), mem_t (i := 1154) (by decide +kernel)⟩
theorem l_L_121 : LkV "WhoSaysOneLaw" 121 y_M_rest := ⟨mem_t (i := 1156) (by decide +kernel), mem_t (i := 1157) (by decide +kernel), mem_t (i := 1158) (by decide +kernel)⟩
theorem l_L_125 : LkV "WhoSaysOneLaw" 125 y_M_needed := ⟨mem_t (i := 1160) (by decide +kernel), mem_t (i := 1161) (by decide +kernel), mem_t (i := 1162) (by decide +kernel)⟩
theorem l_M_219 : LkS "WhoSaysOneModel" 219 y_M_bits := ⟨mem_t (i := 1164) (by decide +kernel), mem_t (i := 1165) (by decide +kernel)⟩
theorem l_L_129 : LkV "WhoSaysOneLaw" 129 y_M_common := ⟨mem_t (i := 1167) (by decide +kernel), mem_t (i := 1168) (by decide +kernel), mem_t (i := 1169) (by decide +kernel)⟩
theorem l_L_133 : LkV "WhoSaysOneLaw" 133 y_M_from := ⟨mem_t (i := 1171) (by decide +kernel), mem_t (i := 1172) (by decide +kernel), mem_t (i := 1173) (by decide +kernel)⟩
theorem l_L_137 : LkV "WhoSaysOneLaw" 137 y_M_wish := ⟨mem_t (i := 1175) (by decide +kernel), mem_t (i := 1176) (by decide +kernel), mem_t (i := 1177) (by decide +kernel)⟩
theorem l_M_222 : LkV "WhoSaysOneModel" 222 y_M_areAll := ⟨mem_t (i := 1179) (by decide +kernel), mem_t (i := 1181) (by decide +kernel), mem_p (i := 40) (by decide +kernel)⟩
theorem l_M_226 : LkV "WhoSaysOneModel" 226 y_M_layOthers := ⟨mem_t (i := 1183) (by decide +kernel), mem_t (i := 1185) (by decide +kernel), mem_p (i := 41) (by decide +kernel)⟩
theorem l_L_141 : LkV "WhoSaysOneLaw" 141 y_M_whose := ⟨mem_t (i := 1187) (by decide +kernel), mem_t (i := 1188) (by decide +kernel), mem_t (i := 1189) (by decide +kernel)⟩
theorem l_M_251 : LkV "WhoSaysOneModel" 251 y_M_needSolved := ⟨mem_t (i := 1191) (by decide +kernel), mem_t (i := 1193) (by decide +kernel), mem_p (i := 42) (by decide +kernel)⟩
theorem l_M_245 : LkV "WhoSaysOneModel" 245 y_M_isSolved := ⟨mem_t (i := 1195) (by decide +kernel), mem_t (i := 1197) (by decide +kernel), mem_p (i := 43) (by decide +kernel)⟩
theorem l_M_248 : LkV "WhoSaysOneModel" 248 y_M_layWins := ⟨mem_t (i := 1199) (by decide +kernel), mem_t (i := 1201) (by decide +kernel), mem_p (i := 44) (by decide +kernel)⟩
theorem l_M_229 : LkS "WhoSaysOneModel" 229 y_M_has := ⟨mem_t (i := 1203) (by decide +kernel), mem_t (i := 1204) (by decide +kernel)⟩
theorem l_M_233 : LkV "WhoSaysOneModel" 233 y_M_behind := ⟨mem_t (i := 1206) (by decide +kernel), mem_t (i := 1208) (by decide +kernel), mem_p (i := 45) (by decide +kernel)⟩
theorem l_M_236 : LkS "WhoSaysOneModel" 236 y_M_greater := ⟨mem_t (i := 1210) (by decide +kernel), mem_t (i := 1211) (by decide +kernel)⟩
theorem l_M_254 : LkV "WhoSaysOneModel" 254 y_M_winMany := ⟨mem_t (i := 1213) (by decide +kernel), mem_t (i := 1215) (by decide +kernel), mem_p (i := 46) (by decide +kernel)⟩
theorem l_M_242 : LkV "WhoSaysOneModel" 242 y_M_isWinning := ⟨mem_t (i := 1217) (by decide +kernel), mem_t (i := 1219) (by decide +kernel), mem_p (i := 47) (by decide +kernel)⟩
theorem l_M_239 : LkV "WhoSaysOneModel" 239 y_M_allGaps := ⟨mem_t (i := 1221) (by decide +kernel), mem_t (i := 1223) (by decide +kernel), mem_p (i := 48) (by decide +kernel)⟩
theorem l_L_145 : LkV "WhoSaysOneLaw" 145 y_M_best := ⟨mem_t (i := 1225) (by decide +kernel), mem_t (i := 1226) (by decide +kernel), mem_t (i := 1227) (by decide +kernel)⟩
theorem l_L_149 : LkV "WhoSaysOneLaw" 149 y_M_lasts := ⟨mem_t (i := 1229) (by decide +kernel), mem_t (i := 1230) (by decide +kernel), mem_t (i := 1231) (by decide +kernel)⟩
theorem l_L_153 : LkV "WhoSaysOneLaw" 153 y_M_share := ⟨mem_t (i := 1233) (by decide +kernel), mem_t (i := 1234) (by decide +kernel), mem_t (i := 1235) (by decide +kernel)⟩
theorem l_M_257 : LkV "WhoSaysOneModel" 257 y_M_fraction := ⟨mem_t (i := 1237) (by decide +kernel), mem_t (i := 1239) (by decide +kernel), mem_p (i := 49) (by decide +kernel)⟩
theorem l_L_157 : LkV "WhoSaysOneLaw" 157 y_M_says := ⟨mem_t (i := 1241) (by decide +kernel), mem_t (i := 1242) (by decide +kernel), mem_t (i := 1243) (by decide +kernel)⟩
theorem l_M_290 : LkV "WhoSaysOneModel" 290 y_M_saysOf := ⟨mem_t (i := 1245) (by decide +kernel), mem_t (i := 1247) (by decide +kernel), mem_p (i := 50) (by decide +kernel)⟩
theorem l_M_277 : LkV "WhoSaysOneModel" 277 y_M_byLeft := ⟨mem_t (i := 1249) (by decide +kernel), mem_t (i := 1251) (by decide +kernel), mem_p (i := 51) (by decide +kernel)⟩
theorem l_M_281 : LkV "WhoSaysOneModel" 281 y_M_pairOf := ⟨mem_t (i := 1253) (by decide +kernel), mem_t (i := 1255) (by decide +kernel), mem_p (i := 52) (by decide +kernel)⟩
theorem l_M_261 : LkV "WhoSaysOneModel" 261 y_M_greatestLeft := ⟨mem_t (i := 1257) (by decide +kernel), mem_t (i := 1259) (by decide +kernel), mem_p (i := 53) (by decide +kernel)⟩
theorem l_M_264 : LkV "WhoSaysOneModel" 264 y_M_leastAbove := ⟨mem_t (i := 1261) (by decide +kernel), mem_t (i := 1263) (by decide +kernel), mem_p (i := 54) (by decide +kernel)⟩
theorem l_M_284 : LkV "WhoSaysOneModel" 284 y_M_bestOf := ⟨mem_t (i := 1265) (by decide +kernel), mem_t (i := 1267) (by decide +kernel), mem_p (i := 55) (by decide +kernel)⟩
theorem l_M_287 : LkV "WhoSaysOneModel" 287 y_M_chanceOf := ⟨mem_t (i := 1269) (by decide +kernel), mem_t (i := 1271) (by decide +kernel), mem_p (i := 56) (by decide +kernel)⟩
theorem l_M_274 : LkV "WhoSaysOneModel" 274 y_M_aboveMany := ⟨mem_t (i := 1275) (by decide +kernel), mem_t (i := 1277) (by decide +kernel), mem_p (i := 57) (by decide +kernel)⟩
theorem l_L_69 : LkV "WhoSaysOneLaw" 69 y_M_mark := ⟨mem_t (i := 1279) (by decide +kernel), mem_t (i := 1280) (by decide +kernel), mem_t (i := 1281) (by decide +kernel)⟩
theorem l_M_294 : LkV "WhoSaysOneModel" 294 y_M_leftBehind := ⟨mem_t (i := 1283) (by decide +kernel), mem_t (i := 1285) (by decide +kernel), mem_p (i := 58) (by decide +kernel)⟩
theorem l_L_161 : LkV "WhoSaysOneLaw" 161 y_M_play := ⟨mem_t (i := 1287) (by decide +kernel), mem_t (i := 1288) (by decide +kernel), mem_t (i := 1289) (by decide +kernel)⟩
theorem l_L_165 : LkV "WhoSaysOneLaw" 165 y_M_list := ⟨mem_t (i := 1292) (by decide +kernel), mem_t (i := 1293) (by decide +kernel), mem_t (i := 1294) (by decide +kernel)⟩
theorem l_M_298 : LkV "WhoSaysOneModel" 298 y_M_needList := ⟨mem_t (i := 1296) (by decide +kernel), mem_t (i := 1298) (by decide +kernel), mem_p (i := 59) (by decide +kernel)⟩
theorem l_M_301 : LkV "WhoSaysOneModel" 301 y_M_wrongSum := ⟨mem_t (i := 1300) (by decide +kernel), mem_t (i := 1302) (by decide +kernel), mem_p (i := 60) (by decide +kernel)⟩
theorem l_L_169 : LkV "WhoSaysOneLaw" 169 y_M_makes := ⟨mem_t (i := 1304) (by decide +kernel), mem_t (i := 1305) (by decide +kernel), mem_t (i := 1306) (by decide +kernel)⟩
theorem l_M_304 : LkV "WhoSaysOneModel" 304 y_M_isMaker := ⟨mem_t (i := 1308) (by decide +kernel), mem_t (i := 1310) (by decide +kernel), mem_p (i := 61) (by decide +kernel)⟩
theorem l_L_173 : LkV "WhoSaysOneLaw" 173 y_M_tree := ⟨mem_t (i := 1312) (by decide +kernel), mem_t (i := 1313) (by decide +kernel), mem_t (i := 1314) (by decide +kernel)⟩
theorem l_M_307 : LkS "WhoSaysOneModel" 307 y_M_topOf := ⟨mem_t (i := 1316) (by decide +kernel), mem_t (i := 1317) (by decide +kernel)⟩
theorem l_M_310 : LkS "WhoSaysOneModel" 310 y_M_makesIt := ⟨mem_t (i := 1319) (by decide +kernel), mem_t (i := 1320) (by decide +kernel)⟩
theorem l_L_190 : LkV "WhoSaysOneLaw" 190 y_M_count := ⟨mem_t (i := 1322) (by decide +kernel), mem_t (i := 1323) (by decide +kernel), mem_t (i := 1324) (by decide +kernel)⟩
theorem l_M_313 : LkV "WhoSaysOneModel" 313 y_M_counted := ⟨mem_t (i := 1326) (by decide +kernel), mem_t (i := 1328) (by decide +kernel), mem_p (i := 62) (by decide +kernel)⟩
theorem l_L_202 : LkV "WhoSaysOneLaw" 202 y_M_digest := ⟨mem_t (i := 1330) (by decide +kernel), mem_t (i := 1331) (by decide +kernel), mem_t (i := 1332) (by decide +kernel)⟩
theorem l_M_321 : LkV "WhoSaysOneModel" 321 y_M_mix := ⟨mem_t (i := 1335) (by decide +kernel), mem_t (i := 1337) (by decide +kernel), mem_p (i := 63) (by decide +kernel)⟩
theorem l_M_329 : LkV "WhoSaysOneModel" 329 y_M_mixGame := ⟨mem_t (i := 1340) (by decide +kernel), mem_t (i := 1342) (by decide +kernel), mem_p (i := 64) (by decide +kernel)⟩
theorem n_X_20 : LkN "WhoSaysOne" 20 y_Gm_init "WhoSaysOne" := mem_t (i := 31) (by decide +kernel)
theorem n_X_35 : LkN "WhoSaysOne" 35 y_Pl_init "WhoSaysOne" := mem_t (i := 61) (by decide +kernel)
theorem n_X_38 : LkN "WhoSaysOne" 38 y_Sm_init "WhoSaysOne" := mem_t (i := 69) (by decide +kernel)
theorem n_Sm_3 : LkN "WhoSaysOne$Small" 3 y_Pl_init "WhoSaysOne" := mem_t (i := 72) (by decide +kernel)
theorem n_X_41 : LkN "WhoSaysOne" 41 y_Pr_init "WhoSaysOne" := mem_t (i := 76) (by decide +kernel)
theorem n_Pr_1 : LkN "WhoSaysOne$Pair" 1 y_Pl_init "WhoSaysOne" := mem_t (i := 79) (by decide +kernel)
theorem n_X_44 : LkN "WhoSaysOne" 44 y_Bs_init "WhoSaysOne" := mem_t (i := 83) (by decide +kernel)
theorem n_Bs_1 : LkN "WhoSaysOne$Best" 1 y_Pl_init "WhoSaysOne" := mem_t (i := 86) (by decide +kernel)
theorem n_X_47 : LkN "WhoSaysOne" 47 y_Lo_init "WhoSaysOne" := mem_t (i := 90) (by decide +kernel)
theorem n_Lo_1 : LkN "WhoSaysOne$Longer" 1 y_Sm_init "WhoSaysOne" := mem_t (i := 93) (by decide +kernel)
theorem n_X_50 : LkN "WhoSaysOne" 50 y_Ch_init "WhoSaysOne" := mem_t (i := 97) (by decide +kernel)
theorem n_Ch_1 : LkN "WhoSaysOne$Chance" 1 y_Pr_init "WhoSaysOne" := mem_t (i := 100) (by decide +kernel)
theorem n_X_61 : LkN "WhoSaysOne" 61 y_Rd_init "WhoSaysOne" := mem_t (i := 104) (by decide +kernel)
theorem n_Rd_11 : LkN "WhoSaysOne$Reader" 11 y_Gm_init "WhoSaysOne" := mem_t (i := 109) (by decide +kernel)
theorem n_X_68 : LkN "WhoSaysOne" 68 y_Su_init "WhoSaysOne" := mem_t (i := 128) (by decide +kernel)
theorem n_X_75 : LkN "WhoSaysOne" 75 y_So_init "WhoSaysOne" := mem_t (i := 156) (by decide +kernel)
theorem n_X_87 : LkN "WhoSaysOne" 87 y_Rw_init "WhoSaysOne" := mem_t (i := 174) (by decide +kernel)
theorem n_Rd_60 : LkN "WhoSaysOne$Reader" 60 y_X_isIn "WhoSaysOne" := mem_t (i := 331) (by decide +kernel)
theorem n_Gm_26 : LkN "WhoSaysOne$Game" 26 y_X_isIn "WhoSaysOne" := mem_t (i := 350) (by decide +kernel)
theorem n_Gm_66 : LkN "WhoSaysOne$Game" 66 y_X_lowestOf "WhoSaysOne" := mem_t (i := 359) (by decide +kernel)
theorem n_Gm_43 : LkN "WhoSaysOne$Game" 43 y_X_divisorOf "WhoSaysOne" := mem_t (i := 362) (by decide +kernel)
theorem n_Gm_69 : LkN "WhoSaysOne$Game" 69 y_X_highestOf "WhoSaysOne" := mem_t (i := 473) (by decide +kernel)
theorem n_Ch_23 : LkN "WhoSaysOne$Chance" 23 y_X_lowestOf "WhoSaysOne" := mem_t (i := 480) (by decide +kernel)
theorem n_Su_86 : LkN "WhoSaysOne$Sums" 86 y_X_divisorOf "WhoSaysOne" := mem_t (i := 619) (by decide +kernel)
theorem n_Rw_25 : LkN "WhoSaysOne$Row" 25 y_X_isIn "WhoSaysOne" := mem_t (i := 642) (by decide +kernel)
theorem s_X_isIn : Cond.static y_X_isIn ∈ lw_tbl := mem_t (i := 247) (by decide +kernel)
theorem s_Ar_fillI : Cond.static y_Ar_fillI ∈ lw_tbl := mem_t (i := 258) (by decide +kernel)
theorem s_Gm_widened : Cond.static y_Gm_widened ∈ lw_tbl := mem_t (i := 356) (by decide +kernel)
theorem s_X_lowestOf : Cond.static y_X_lowestOf ∈ lw_tbl := mem_t (i := 360) (by decide +kernel)
theorem s_X_divisorOf : Cond.static y_X_divisorOf ∈ lw_tbl := mem_t (i := 363) (by decide +kernel)
theorem s_X_isOf : Cond.static y_X_isOf ∈ lw_tbl := mem_t (i := 395) (by decide +kernel)
theorem s_Lg_bitCount : Cond.static y_Lg_bitCount ∈ lw_tbl := mem_t (i := 418) (by decide +kernel)
theorem s_So_gapsBehind : Cond.static y_So_gapsBehind ∈ lw_tbl := mem_t (i := 433) (by decide +kernel)
theorem s_So_solved : Cond.static y_So_solved ∈ lw_tbl := mem_t (i := 437) (by decide +kernel)
theorem s_Ma_min : Cond.static y_Ma_min ∈ lw_tbl := mem_t (i := 445) (by decide +kernel)
theorem s_So_isWin : Cond.static y_So_isWin ∈ lw_tbl := mem_t (i := 448) (by decide +kernel)
theorem s_X_highestOf : Cond.static y_X_highestOf ∈ lw_tbl := mem_t (i := 474) (by decide +kernel)
theorem s_Ar_fillJ : Cond.static y_Ar_fillJ ∈ lw_tbl := mem_t (i := 592) (by decide +kernel)
theorem s_Su_widen : Cond.static y_Su_widen ∈ lw_tbl := mem_t (i := 617) (by decide +kernel)
theorem s_Su_greatestOf : Cond.static y_Su_greatestOf ∈ lw_tbl := mem_t (i := 625) (by decide +kernel)
theorem s_Ma_max : Cond.static y_Ma_max ∈ lw_tbl := mem_t (i := 628) (by decide +kernel)
theorem s_In_bitCount : Cond.static y_In_bitCount ∈ lw_tbl := mem_t (i := 664) (by decide +kernel)
theorem s_X_leastPaid : Cond.static y_X_leastPaid ∈ lw_tbl := mem_t (i := 736) (by decide +kernel)
theorem s_X_isGap : Cond.static y_X_isGap ∈ lw_tbl := mem_t (i := 739) (by decide +kernel)
theorem s_X_isPaid : Cond.static y_X_isPaid ∈ lw_tbl := mem_t (i := 742) (by decide +kernel)
theorem s_X_isMaker : Cond.static y_X_isMaker ∈ lw_tbl := mem_t (i := 749) (by decide +kernel)
theorem s_X_setsBelow : Cond.static y_X_setsBelow ∈ lw_tbl := mem_t (i := 756) (by decide +kernel)
theorem s_X_thereOf : Cond.static y_X_thereOf ∈ lw_tbl := mem_t (i := 786) (by decide +kernel)
theorem s_M_in : Cond.static y_M_in ∈ lw_tbl := mem_t (i := 950) (by decide +kernel)
theorem s_M_isRow : Cond.static y_M_isRow ∈ lw_tbl := mem_t (i := 969) (by decide +kernel)
theorem s_M_isText : Cond.static y_M_isText ∈ lw_tbl := mem_t (i := 1008) (by decide +kernel)
theorem s_M_divisor : Cond.static y_M_divisor ∈ lw_tbl := mem_t (i := 1044) (by decide +kernel)
theorem s_M_lesser : Cond.static y_M_lesser ∈ lw_tbl := mem_t (i := 1047) (by decide +kernel)
theorem s_M_kindOf : Cond.static y_M_kindOf ∈ lw_tbl := mem_t (i := 1054) (by decide +kernel)
theorem s_M_bits : Cond.static y_M_bits ∈ lw_tbl := mem_t (i := 1165) (by decide +kernel)
theorem s_M_has : Cond.static y_M_has ∈ lw_tbl := mem_t (i := 1204) (by decide +kernel)
theorem s_M_greater : Cond.static y_M_greater ∈ lw_tbl := mem_t (i := 1211) (by decide +kernel)
theorem s_M_topOf : Cond.static y_M_topOf ∈ lw_tbl := mem_t (i := 1317) (by decide +kernel)
theorem s_M_makesIt : Cond.static y_M_makesIt ∈ lw_tbl := mem_t (i := 1320) (by decide +kernel)
theorem i_X_init : Cond.instanceMethod y_X_init ∈ lw_tbl := mem_t (i := 22) (by decide +kernel)
theorem i_ob : Cond.instanceMethod objectInit ∈ lw_tbl := mem_t (i := 25) (by decide +kernel)
theorem i_Gm_init : Cond.instanceMethod y_Gm_init ∈ lw_tbl := mem_t (i := 32) (by decide +kernel)
theorem i_Pl_init : Cond.instanceMethod y_Pl_init ∈ lw_tbl := mem_t (i := 62) (by decide +kernel)
theorem i_Sm_init : Cond.instanceMethod y_Sm_init ∈ lw_tbl := mem_t (i := 70) (by decide +kernel)
theorem i_Pr_init : Cond.instanceMethod y_Pr_init ∈ lw_tbl := mem_t (i := 77) (by decide +kernel)
theorem i_Bs_init : Cond.instanceMethod y_Bs_init ∈ lw_tbl := mem_t (i := 84) (by decide +kernel)
theorem i_Lo_init : Cond.instanceMethod y_Lo_init ∈ lw_tbl := mem_t (i := 91) (by decide +kernel)
theorem i_Ch_init : Cond.instanceMethod y_Ch_init ∈ lw_tbl := mem_t (i := 98) (by decide +kernel)
theorem i_Rd_init : Cond.instanceMethod y_Rd_init ∈ lw_tbl := mem_t (i := 105) (by decide +kernel)
theorem i_Su_init : Cond.instanceMethod y_Su_init ∈ lw_tbl := mem_t (i := 129) (by decide +kernel)
theorem i_So_init : Cond.instanceMethod y_So_init ∈ lw_tbl := mem_t (i := 157) (by decide +kernel)
theorem i_Rw_init : Cond.instanceMethod y_Rw_init ∈ lw_tbl := mem_t (i := 175) (by decide +kernel)
theorem i_M_init : Cond.instanceMethod y_M_init ∈ lw_tbl := mem_t (i := 816) (by decide +kernel)
theorem w_ob : Cond.instanceMethod objectInit ∈ lw_tbl ∧ Cond.code objectInit ⟨#[0xb1]⟩ 1 none ∈ lw_tbl := ⟨mem_t (i := 25) (by decide +kernel), mem_t (i := 26) (by decide +kernel)⟩
theorem w_ac : Cond.native arraycopyName ∈ lw_tbl ∧ Cond.static arraycopyName ∈ lw_tbl ∧ Cond.initialized "java/lang/System" ∈ lw_tbl := ⟨mem_t (i := 294) (by decide +kernel), mem_t (i := 293) (by decide +kernel), mem_t (i := 15) (by decide +kernel)⟩
theorem k_Gm_47 : Cond.constantLong "WhoSaysOne$Game" 47 (-1) ∈ lw_tbl := mem_t (i := 344) (by decide +kernel)
theorem k_Gm_49 : Cond.constantLong "WhoSaysOne$Game" 49 (2305843009213693951) ∈ lw_tbl := mem_t (i := 345) (by decide +kernel)
theorem k_Gm_86 : Cond.constantLong "WhoSaysOne$Game" 86 (-2) ∈ lw_tbl := mem_t (i := 358) (by decide +kernel)
theorem k_Lg_314 : Cond.constantLong "java/lang/Long" 314 (6148914691236517205) ∈ lw_tbl := mem_t (i := 420) (by decide +kernel)
theorem k_Lg_316 : Cond.constantLong "java/lang/Long" 316 (3689348814741910323) ∈ lw_tbl := mem_t (i := 421) (by decide +kernel)
theorem k_Lg_318 : Cond.constantLong "java/lang/Long" 318 (1085102592571150095) ∈ lw_tbl := mem_t (i := 422) (by decide +kernel)
theorem k_So_66 : Cond.constant "WhoSaysOne$Solver" 66 (268435455) ∈ lw_tbl := mem_t (i := 435) (by decide +kernel)
theorem k_So_79 : Cond.constant "WhoSaysOne$Solver" 79 (-1640531527) ∈ lw_tbl := mem_t (i := 443) (by decide +kernel)
theorem k_Gm_55 : Cond.constantLong "WhoSaysOne$Game" 55 (-3) ∈ lw_tbl := mem_t (i := 462) (by decide +kernel)
theorem k_Su_34 : Cond.constant "WhoSaysOne$Sums" 34 (1048576) ∈ lw_tbl := mem_t (i := 571) (by decide +kernel)
theorem k_X_220 : Cond.constant "WhoSaysOne" 220 (1048576) ∈ lw_tbl := mem_t (i := 582) (by decide +kernel)
theorem k_In_265 : Cond.constant "java/lang/Integer" 265 (1431655765) ∈ lw_tbl := mem_t (i := 666) (by decide +kernel)
theorem k_In_266 : Cond.constant "java/lang/Integer" 266 (858993459) ∈ lw_tbl := mem_t (i := 667) (by decide +kernel)
theorem k_In_267 : Cond.constant "java/lang/Integer" 267 (252645135) ∈ lw_tbl := mem_t (i := 668) (by decide +kernel)
theorem k_X_271 : Cond.constantLong "WhoSaysOne" 271 (2147483647) ∈ lw_tbl := mem_t (i := 724) (by decide +kernel)
theorem k_X_273 : Cond.constantLong "WhoSaysOne" 273 (48271) ∈ lw_tbl := mem_t (i := 725) (by decide +kernel)
theorem k_Rw_29 : Cond.constantLong "WhoSaysOne$Row" 29 (-1) ∈ lw_tbl := mem_t (i := 734) (by decide +kernel)
theorem k_X_329 : Cond.constantLong "WhoSaysOne" 329 (-1) ∈ lw_tbl := mem_t (i := 758) (by decide +kernel)
theorem k_X_331 : Cond.constantLong "WhoSaysOne" 331 (-2) ∈ lw_tbl := mem_t (i := 759) (by decide +kernel)
theorem k_X_305 : Cond.constantLong "WhoSaysOne" 305 (17) ∈ lw_tbl := mem_t (i := 800) (by decide +kernel)
theorem k_X_307 : Cond.constantLong "WhoSaysOne" 307 (31) ∈ lw_tbl := mem_t (i := 801) (by decide +kernel)
theorem k_Gm_80 : Cond.constantLong "WhoSaysOne$Game" 80 (31) ∈ lw_tbl := mem_t (i := 807) (by decide +kernel)
theorem k_Rw_31 : Cond.constantLong "WhoSaysOne$Row" 31 (31) ∈ lw_tbl := mem_t (i := 812) (by decide +kernel)
theorem k_M_127 : Cond.constant "WhoSaysOneModel" 127 (99999) ∈ lw_tbl := mem_t (i := 1042) (by decide +kernel)
theorem k_M_267 : Cond.constantLong "WhoSaysOneModel" 267 (48271) ∈ lw_tbl := mem_t (i := 1273) (by decide +kernel)
theorem k_M_272 : Cond.constantLong "WhoSaysOneModel" 272 (2147483647) ∈ lw_tbl := mem_t (i := 1274) (by decide +kernel)
theorem k_M_297 : Cond.constant "WhoSaysOneModel" 297 (2147483646) ∈ lw_tbl := mem_t (i := 1291) (by decide +kernel)
theorem k_M_327 : Cond.constantLong "WhoSaysOneModel" 327 (17) ∈ lw_tbl := mem_t (i := 1334) (by decide +kernel)
theorem k_M_316 : Cond.constantLong "WhoSaysOneModel" 316 (31) ∈ lw_tbl := mem_t (i := 1339) (by decide +kernel)
theorem k_M_325 : Cond.constantLong "WhoSaysOneModel" 325 (-1) ∈ lw_tbl := mem_t (i := 1344) (by decide +kernel)
theorem t_L_7 : Cond.classLink "WhoSaysOneLaw" 7 "WhoSaysOne" ∈ lw_tbl := mem_t (i := 19) (by decide +kernel)
theorem a_L_7 : Cls "WhoSaysOneLaw" 7 0 [.null, .null, .null, .null, .null, .null, .null, Vi 0, .null, .null, .null, Vi 0, Vj 0, Vj 0, Vi 0, .null] := ⟨"WhoSaysOne", ft_X, 16, fy_X, rfl, by decide, in_X, ok_X, (fun j hj _ _ => by rcases (show j = 0 ∨ j = 1 ∨ j = 2 ∨ j = 3 ∨ j = 4 ∨ j = 5 ∨ j = 6 ∨ j = 7 ∨ j = 8 ∨ j = 9 ∨ j = 10 ∨ j = 11 ∨ j = 12 ∨ j = 13 ∨ j = 14 ∨ j = 15 by omega) with rfl | rfl | rfl | rfl | rfl | rfl | rfl | rfl | rfl | rfl | rfl | rfl | rfl | rfl | rfl | rfl <;> rfl), mem_t (i := 19) (by decide +kernel), mem_t (i := 20) (by decide +kernel), mem_t (i := 1) (by decide +kernel)⟩
theorem t_X_9 : Cond.classLink "WhoSaysOne" 9 "WhoSaysOne$Row" ∈ lw_tbl := mem_t (i := 27) (by decide +kernel)
theorem a_X_9 : Cls "WhoSaysOne" 9 1 [.null, Vi 0] := ⟨"WhoSaysOne$Row", ft_Rw, 2, fy_Rw, rfl, by decide, in_Rw, ok_Rw, (fun j hj _ _ => by rcases (show j = 0 ∨ j = 1 by omega) with rfl | rfl <;> rfl), mem_t (i := 27) (by decide +kernel), mem_t (i := 173) (by decide +kernel), mem_t (i := 12) (by decide +kernel)⟩
theorem t_X_18 : Cond.classLink "WhoSaysOne" 18 "WhoSaysOne$Game" ∈ lw_tbl := mem_t (i := 29) (by decide +kernel)
theorem a_X_18 : Cls "WhoSaysOne" 18 2 [.null, Vi 0, Vi 0, Vj 0] := ⟨"WhoSaysOne$Game", ft_Gm, 4, fy_Gm, rfl, by decide, in_Gm, ok_Gm, (fun j hj _ _ => by rcases (show j = 0 ∨ j = 1 ∨ j = 2 ∨ j = 3 by omega) with rfl | rfl | rfl | rfl <;> rfl), mem_t (i := 29) (by decide +kernel), mem_t (i := 30) (by decide +kernel), mem_t (i := 2) (by decide +kernel)⟩
theorem t_X_33 : Cond.classLink "WhoSaysOne" 33 "WhoSaysOne$Player" ∈ lw_tbl := mem_t (i := 58) (by decide +kernel)
theorem a_X_33 : Cls "WhoSaysOne" 33 3 [] := ⟨"WhoSaysOne$Player", ft_Pl, 0, fy_Pl, rfl, by decide, in_Pl, ok_Pl, (fun j hj _ _ => by omega), mem_t (i := 58) (by decide +kernel), mem_t (i := 60) (by decide +kernel), mem_t (i := 3) (by decide +kernel)⟩
theorem t_X_36 : Cond.classLink "WhoSaysOne" 36 "WhoSaysOne$Small" ∈ lw_tbl := mem_t (i := 67) (by decide +kernel)
theorem a_X_36 : Cls "WhoSaysOne" 36 4 [] := ⟨"WhoSaysOne$Small", ft_Sm, 0, fy_Sm, rfl, by decide, in_Sm, ok_Sm, (fun j hj _ _ => by omega), mem_t (i := 67) (by decide +kernel), mem_t (i := 68) (by decide +kernel), mem_t (i := 4) (by decide +kernel)⟩
theorem t_X_39 : Cond.classLink "WhoSaysOne" 39 "WhoSaysOne$Pair" ∈ lw_tbl := mem_t (i := 74) (by decide +kernel)
theorem a_X_39 : Cls "WhoSaysOne" 39 5 [] := ⟨"WhoSaysOne$Pair", ft_Pr, 0, fy_Pr, rfl, by decide, in_Pr, ok_Pr, (fun j hj _ _ => by omega), mem_t (i := 74) (by decide +kernel), mem_t (i := 75) (by decide +kernel), mem_t (i := 5) (by decide +kernel)⟩
theorem t_X_42 : Cond.classLink "WhoSaysOne" 42 "WhoSaysOne$Best" ∈ lw_tbl := mem_t (i := 81) (by decide +kernel)
theorem a_X_42 : Cls "WhoSaysOne" 42 6 [] := ⟨"WhoSaysOne$Best", ft_Bs, 0, fy_Bs, rfl, by decide, in_Bs, ok_Bs, (fun j hj _ _ => by omega), mem_t (i := 81) (by decide +kernel), mem_t (i := 82) (by decide +kernel), mem_t (i := 6) (by decide +kernel)⟩
theorem t_X_45 : Cond.classLink "WhoSaysOne" 45 "WhoSaysOne$Longer" ∈ lw_tbl := mem_t (i := 88) (by decide +kernel)
theorem a_X_45 : Cls "WhoSaysOne" 45 7 [] := ⟨"WhoSaysOne$Longer", ft_Lo, 0, fy_Lo, rfl, by decide, in_Lo, ok_Lo, (fun j hj _ _ => by omega), mem_t (i := 88) (by decide +kernel), mem_t (i := 89) (by decide +kernel), mem_t (i := 7) (by decide +kernel)⟩
theorem t_X_48 : Cond.classLink "WhoSaysOne" 48 "WhoSaysOne$Chance" ∈ lw_tbl := mem_t (i := 95) (by decide +kernel)
theorem a_X_48 : Cls "WhoSaysOne" 48 8 [] := ⟨"WhoSaysOne$Chance", ft_Ch, 0, fy_Ch, rfl, by decide, in_Ch, ok_Ch, (fun j hj _ _ => by omega), mem_t (i := 95) (by decide +kernel), mem_t (i := 96) (by decide +kernel), mem_t (i := 8) (by decide +kernel)⟩
theorem t_X_59 : Cond.classLink "WhoSaysOne" 59 "WhoSaysOne$Reader" ∈ lw_tbl := mem_t (i := 102) (by decide +kernel)
theorem a_X_59 : Cls "WhoSaysOne" 59 9 [.null, .null, Vi 0, Vi 0] := ⟨"WhoSaysOne$Reader", ft_Rd, 4, fy_Rd, rfl, by decide, in_Rd, ok_Rd, (fun j hj _ _ => by rcases (show j = 0 ∨ j = 1 ∨ j = 2 ∨ j = 3 by omega) with rfl | rfl | rfl | rfl <;> rfl), mem_t (i := 102) (by decide +kernel), mem_t (i := 103) (by decide +kernel), mem_t (i := 9) (by decide +kernel)⟩
theorem t_Rd_9 : Cond.classLink "WhoSaysOne$Reader" 9 "WhoSaysOne$Game" ∈ lw_tbl := mem_t (i := 108) (by decide +kernel)
theorem a_Rd_9 : Cls "WhoSaysOne$Reader" 9 2 [.null, Vi 0, Vi 0, Vj 0] := ⟨"WhoSaysOne$Game", ft_Gm, 4, fy_Gm, rfl, by decide, in_Gm, ok_Gm, (fun j hj _ _ => by rcases (show j = 0 ∨ j = 1 ∨ j = 2 ∨ j = 3 by omega) with rfl | rfl | rfl | rfl <;> rfl), mem_t (i := 108) (by decide +kernel), mem_t (i := 30) (by decide +kernel), mem_t (i := 2) (by decide +kernel)⟩
theorem t_X_66 : Cond.classLink "WhoSaysOne" 66 "WhoSaysOne$Sums" ∈ lw_tbl := mem_t (i := 126) (by decide +kernel)
theorem a_X_66 : Cls "WhoSaysOne" 66 10 [.null, .null, Vi 0, .null, .null, .null] := ⟨"WhoSaysOne$Sums", ft_Su, 6, fy_Su, rfl, by decide, in_Su, ok_Su, (fun j hj _ _ => by rcases (show j = 0 ∨ j = 1 ∨ j = 2 ∨ j = 3 ∨ j = 4 ∨ j = 5 by omega) with rfl | rfl | rfl | rfl | rfl | rfl <;> rfl), mem_t (i := 126) (by decide +kernel), mem_t (i := 127) (by decide +kernel), mem_t (i := 10) (by decide +kernel)⟩
theorem t_Su_25 : Cond.classLink "WhoSaysOne$Sums" 25 "[[J" ∈ lw_tbl := mem_t (i := 132) (by decide +kernel)
theorem t_X_73 : Cond.classLink "WhoSaysOne" 73 "WhoSaysOne$Solver" ∈ lw_tbl := mem_t (i := 154) (by decide +kernel)
theorem a_X_73 : Cls "WhoSaysOne" 73 11 [Vi 0, .null, .null, Vi 0] := ⟨"WhoSaysOne$Solver", ft_So, 4, fy_So, rfl, by decide, in_So, ok_So, (fun j hj _ _ => by rcases (show j = 0 ∨ j = 1 ∨ j = 2 ∨ j = 3 by omega) with rfl | rfl | rfl | rfl <;> rfl), mem_t (i := 154) (by decide +kernel), mem_t (i := 155) (by decide +kernel), mem_t (i := 11) (by decide +kernel)⟩
theorem t_L_10 : Cond.classLink "WhoSaysOneLaw" 10 "WhoSaysOneModel" ∈ lw_tbl := mem_t (i := 813) (by decide +kernel)
theorem a_L_10 : Cls "WhoSaysOneLaw" 10 12 [Vi 0, .null, Vi 0, Vj 0, Vj 0, .null, .null, .null, .null, .null, .null, Vi 0, Vi 0, .null, Vi 0, .null, Vi 0, Vi 0, Vi 0, Vi 0, Vi 0, .null, .null, .null, .null, .null, .null, .null, Vi 0, .null, .null, .null, .null, .null, .null, Vj 0, .null, .null, .null, Vj 0] := ⟨"WhoSaysOneModel", ft_M, 40, fy_M, rfl, by decide, in_M, ok_M, (fun j hj _ _ => by rcases (show j = 0 ∨ j = 1 ∨ j = 2 ∨ j = 3 ∨ j = 4 ∨ j = 5 ∨ j = 6 ∨ j = 7 ∨ j = 8 ∨ j = 9 ∨ j = 10 ∨ j = 11 ∨ j = 12 ∨ j = 13 ∨ j = 14 ∨ j = 15 ∨ j = 16 ∨ j = 17 ∨ j = 18 ∨ j = 19 ∨ j = 20 ∨ j = 21 ∨ j = 22 ∨ j = 23 ∨ j = 24 ∨ j = 25 ∨ j = 26 ∨ j = 27 ∨ j = 28 ∨ j = 29 ∨ j = 30 ∨ j = 31 ∨ j = 32 ∨ j = 33 ∨ j = 34 ∨ j = 35 ∨ j = 36 ∨ j = 37 ∨ j = 38 ∨ j = 39 by omega) with rfl | rfl | rfl | rfl | rfl | rfl | rfl | rfl | rfl | rfl | rfl | rfl | rfl | rfl | rfl | rfl | rfl | rfl | rfl | rfl | rfl | rfl | rfl | rfl | rfl | rfl | rfl | rfl | rfl | rfl | rfl | rfl | rfl | rfl | rfl | rfl | rfl | rfl | rfl | rfl <;> rfl), mem_t (i := 813) (by decide +kernel), mem_t (i := 814) (by decide +kernel), mem_t (i := 13) (by decide +kernel)⟩
theorem ac_int : Cond.arrayClass .int ∈ lw_tbl := mem_t (i := 56) (by decide +kernel)
theorem ac_boolean : Cond.arrayClass .boolean ∈ lw_tbl := mem_t (i := 66) (by decide +kernel)
theorem ac_long : Cond.arrayClass .long ∈ lw_tbl := mem_t (i := 153) (by decide +kernel)
theorem ac_byte : Cond.arrayClass .byte ∈ lw_tbl := mem_t (i := 940) (by decide +kernel)
theorem ao_Rw : Cond.arrayOver (.object "WhoSaysOne$Row") ∈ lw_tbl := mem_t (i := 28) (by decide +kernel)
theorem ao_Gm : Cond.arrayOver (.object "WhoSaysOne$Game") ∈ lw_tbl := mem_t (i := 57) (by decide +kernel)
theorem ao_Pl : Cond.arrayOver (.object "WhoSaysOne$Player") ∈ lw_tbl := mem_t (i := 59) (by decide +kernel)
theorem ao_long : Cond.arrayOver (.array .long) ∈ lw_tbl := mem_t (i := 133) (by decide +kernel)
theorem ca_Lo_Sm : Cond.castable "WhoSaysOne$Longer" "WhoSaysOne$Small" ∈ lw_tbl := mem_t (i := 1346) (by decide +kernel)
theorem ca_Ch_Pr : Cond.castable "WhoSaysOne$Chance" "WhoSaysOne$Pair" ∈ lw_tbl := mem_t (i := 1347) (by decide +kernel)
theorem ca_Sm_Pl : Cond.castable "WhoSaysOne$Small" "WhoSaysOne$Player" ∈ lw_tbl := mem_t (i := 1348) (by decide +kernel)
theorem ca_Pr_Pl : Cond.castable "WhoSaysOne$Pair" "WhoSaysOne$Player" ∈ lw_tbl := mem_t (i := 1349) (by decide +kernel)
theorem ca_Bs_Pl : Cond.castable "WhoSaysOne$Best" "WhoSaysOne$Player" ∈ lw_tbl := mem_t (i := 1350) (by decide +kernel)
theorem ca_Lo_Pl : Cond.castable "WhoSaysOne$Longer" "WhoSaysOne$Player" ∈ lw_tbl := mem_t (i := 1351) (by decide +kernel)
theorem ca_Ch_Pl : Cond.castable "WhoSaysOne$Chance" "WhoSaysOne$Player" ∈ lw_tbl := mem_t (i := 1352) (by decide +kernel)
end
