section
-- ===== PART A: goes FIRST, ahead of the names: the tables' words, and 'selects' of the private methods out of them =====
/-- a private method of a class that the tables say can be made, by its rows of tables_1 -/
def lw_okq (q : MethodName × Nat) : Prop := (q.1.cls ≠ "java/lang/invoke/MethodHandle" ∧ q.1.cls ≠ "java/lang/invoke/VarHandle") ∧ Cond.instantiable q.1.cls q.2 ∈ tables_1 ∧ Cond.privateMethod q.1 ∈ tables_1 ∧ Cond.instanceMethod q.1 ∈ tables_1
theorem lw_p0 : lw_okq (⟨"NoonSaws", "noPlank", "(I)Z"⟩, 10) := ⟨⟨by decide +kernel, by decide +kernel⟩, List.mem_of_getElem? (i := 17) (by decide +kernel), List.mem_of_getElem? (i := 229) (by decide +kernel), List.mem_of_getElem? (i := 230) (by decide +kernel)⟩
theorem lw_p1 : lw_okq (⟨"NoonSaws$Noon", "hoppersRest", "()Z"⟩, 11) := ⟨⟨by decide +kernel, by decide +kernel⟩, List.mem_of_getElem? (i := 25) (by decide +kernel), List.mem_of_getElem? (i := 245) (by decide +kernel), List.mem_of_getElem? (i := 246) (by decide +kernel)⟩
theorem lw_p2 : lw_okq (⟨"NoonSaws", "noSawyer", "(I)Z"⟩, 10) := ⟨⟨by decide +kernel, by decide +kernel⟩, List.mem_of_getElem? (i := 17) (by decide +kernel), List.mem_of_getElem? (i := 256) (by decide +kernel), List.mem_of_getElem? (i := 257) (by decide +kernel)⟩
theorem lw_p3 : lw_okq (⟨"NoonSaws$Tape", "tellPlanks", "(LNoonSaws$Noon;)Z"⟩, 3) := ⟨⟨by decide +kernel, by decide +kernel⟩, List.mem_of_getElem? (i := 134) (by decide +kernel), List.mem_of_getElem? (i := 281) (by decide +kernel), List.mem_of_getElem? (i := 282) (by decide +kernel)⟩
theorem lw_p4 : lw_okq (⟨"NoonSaws$Tape", "tellPlank", "(LNoonSaws$Noon;)Z"⟩, 3) := ⟨⟨by decide +kernel, by decide +kernel⟩, List.mem_of_getElem? (i := 134) (by decide +kernel), List.mem_of_getElem? (i := 285) (by decide +kernel), List.mem_of_getElem? (i := 286) (by decide +kernel)⟩
theorem lw_p5 : lw_okq (⟨"NoonSaws$Tape", "takeNumber", "(II)I"⟩, 3) := ⟨⟨by decide +kernel, by decide +kernel⟩, List.mem_of_getElem? (i := 134) (by decide +kernel), List.mem_of_getElem? (i := 289) (by decide +kernel), List.mem_of_getElem? (i := 290) (by decide +kernel)⟩
theorem lw_p6 : lw_okq (⟨"NoonSaws$Tape", "nextLetter", "()C"⟩, 3) := ⟨⟨by decide +kernel, by decide +kernel⟩, List.mem_of_getElem? (i := 134) (by decide +kernel), List.mem_of_getElem? (i := 293) (by decide +kernel), List.mem_of_getElem? (i := 294) (by decide +kernel)⟩
theorem lw_p7 : lw_okq (⟨"NoonSaws$Tape", "letterHere", "()C"⟩, 3) := ⟨⟨by decide +kernel, by decide +kernel⟩, List.mem_of_getElem? (i := 134) (by decide +kernel), List.mem_of_getElem? (i := 297) (by decide +kernel), List.mem_of_getElem? (i := 298) (by decide +kernel)⟩
theorem lw_p8 : lw_okq (⟨"NoonSaws$Tape", "takes", "(C)Z"⟩, 3) := ⟨⟨by decide +kernel, by decide +kernel⟩, List.mem_of_getElem? (i := 134) (by decide +kernel), List.mem_of_getElem? (i := 305) (by decide +kernel), List.mem_of_getElem? (i := 306) (by decide +kernel)⟩
theorem lw_p9 : lw_okq (⟨"NoonSaws$Tape", "takeDigit", "(I)I"⟩, 3) := ⟨⟨by decide +kernel, by decide +kernel⟩, List.mem_of_getElem? (i := 134) (by decide +kernel), List.mem_of_getElem? (i := 309) (by decide +kernel), List.mem_of_getElem? (i := 310) (by decide +kernel)⟩
theorem lw_p10 : lw_okq (⟨"NoonSaws$Tape", "tellSawyers", "(LNoonSaws$Noon;)Z"⟩, 3) := ⟨⟨by decide +kernel, by decide +kernel⟩, List.mem_of_getElem? (i := 134) (by decide +kernel), List.mem_of_getElem? (i := 314) (by decide +kernel), List.mem_of_getElem? (i := 315) (by decide +kernel)⟩
theorem lw_p11 : lw_okq (⟨"NoonSaws$Tape", "tellSawyer", "(LNoonSaws$Noon;)Z"⟩, 3) := ⟨⟨by decide +kernel, by decide +kernel⟩, List.mem_of_getElem? (i := 134) (by decide +kernel), List.mem_of_getElem? (i := 318) (by decide +kernel), List.mem_of_getElem? (i := 319) (by decide +kernel)⟩
theorem lw_p12 : lw_okq (⟨"NoonSaws$Noon", "growBlunt", "()V"⟩, 11) := ⟨⟨by decide +kernel, by decide +kernel⟩, List.mem_of_getElem? (i := 25) (by decide +kernel), List.mem_of_getElem? (i := 457) (by decide +kernel), List.mem_of_getElem? (i := 458) (by decide +kernel)⟩
theorem lw_p13 : lw_okq (⟨"NoonSaws$Noon", "leaveFallen", "()Z"⟩, 11) := ⟨⟨by decide +kernel, by decide +kernel⟩, List.mem_of_getElem? (i := 25) (by decide +kernel), List.mem_of_getElem? (i := 461) (by decide +kernel), List.mem_of_getElem? (i := 462) (by decide +kernel)⟩
theorem lw_p14 : lw_okq (⟨"NoonSaws$Noon", "plankMostLeft", "()I"⟩, 11) := ⟨⟨by decide +kernel, by decide +kernel⟩, List.mem_of_getElem? (i := 25) (by decide +kernel), List.mem_of_getElem? (i := 465) (by decide +kernel), List.mem_of_getElem? (i := 466) (by decide +kernel)⟩
theorem lw_p15 : lw_okq (⟨"NoonSaws", "foretell", "(I)V"⟩, 10) := ⟨⟨by decide +kernel, by decide +kernel⟩, List.mem_of_getElem? (i := 17) (by decide +kernel), List.mem_of_getElem? (i := 514) (by decide +kernel), List.mem_of_getElem? (i := 515) (by decide +kernel)⟩
def lw_privs_1 : List (MethodName × Nat) := [(⟨"NoonSaws", "noPlank", "(I)Z"⟩, 10), (⟨"NoonSaws$Noon", "hoppersRest", "()Z"⟩, 11), (⟨"NoonSaws", "noSawyer", "(I)Z"⟩, 10), (⟨"NoonSaws$Tape", "tellPlanks", "(LNoonSaws$Noon;)Z"⟩, 3), (⟨"NoonSaws$Tape", "tellPlank", "(LNoonSaws$Noon;)Z"⟩, 3), (⟨"NoonSaws$Tape", "takeNumber", "(II)I"⟩, 3), (⟨"NoonSaws$Tape", "nextLetter", "()C"⟩, 3), (⟨"NoonSaws$Tape", "letterHere", "()C"⟩, 3), (⟨"NoonSaws$Tape", "takes", "(C)Z"⟩, 3), (⟨"NoonSaws$Tape", "takeDigit", "(I)I"⟩, 3), (⟨"NoonSaws$Tape", "tellSawyers", "(LNoonSaws$Noon;)Z"⟩, 3), (⟨"NoonSaws$Tape", "tellSawyer", "(LNoonSaws$Noon;)Z"⟩, 3), (⟨"NoonSaws$Noon", "growBlunt", "()V"⟩, 11), (⟨"NoonSaws$Noon", "leaveFallen", "()Z"⟩, 11), (⟨"NoonSaws$Noon", "plankMostLeft", "()I"⟩, 11), (⟨"NoonSaws", "foretell", "(I)V"⟩, 10)]
theorem lw_r1 : ∀ q ∈ lw_privs_1, lw_okq q := List.forall_mem_cons.mpr ⟨lw_p0, List.forall_mem_cons.mpr ⟨lw_p1, List.forall_mem_cons.mpr ⟨lw_p2, List.forall_mem_cons.mpr ⟨lw_p3, List.forall_mem_cons.mpr ⟨lw_p4, List.forall_mem_cons.mpr ⟨lw_p5, List.forall_mem_cons.mpr ⟨lw_p6, List.forall_mem_cons.mpr ⟨lw_p7, List.forall_mem_cons.mpr ⟨lw_p8, List.forall_mem_cons.mpr ⟨lw_p9, List.forall_mem_cons.mpr ⟨lw_p10, List.forall_mem_cons.mpr ⟨lw_p11, List.forall_mem_cons.mpr ⟨lw_p12, List.forall_mem_cons.mpr ⟨lw_p13, List.forall_mem_cons.mpr ⟨lw_p14, List.forall_mem_cons.mpr ⟨lw_p15, fun _ h => absurd h List.not_mem_nil⟩⟩⟩⟩⟩⟩⟩⟩⟩⟩⟩⟩⟩⟩⟩⟩
theorem lw_p16 : lw_okq (⟨"NoonSaws", "noonOfTrial", "()I"⟩, 10) := ⟨⟨by decide +kernel, by decide +kernel⟩, List.mem_of_getElem? (i := 17) (by decide +kernel), List.mem_of_getElem? (i := 539) (by decide +kernel), List.mem_of_getElem? (i := 540) (by decide +kernel)⟩
theorem lw_p17 : lw_okq (⟨"NoonSaws", "nothingToSet", "()Z"⟩, 10) := ⟨⟨by decide +kernel, by decide +kernel⟩, List.mem_of_getElem? (i := 17) (by decide +kernel), List.mem_of_getElem? (i := 559) (by decide +kernel), List.mem_of_getElem? (i := 560) (by decide +kernel)⟩
theorem lw_p18 : lw_okq (⟨"NoonSaws$Search", "weigh", "(LNoonSaws$Noon;)V"⟩, 8) := ⟨⟨by decide +kernel, by decide +kernel⟩, List.mem_of_getElem? (i := 100) (by decide +kernel), List.mem_of_getElem? (i := 576) (by decide +kernel), List.mem_of_getElem? (i := 577) (by decide +kernel)⟩
theorem lw_p19 : lw_okq (⟨"NoonSaws$Search", "movesNow", "()I"⟩, 8) := ⟨⟨by decide +kernel, by decide +kernel⟩, List.mem_of_getElem? (i := 100) (by decide +kernel), List.mem_of_getElem? (i := 580) (by decide +kernel), List.mem_of_getElem? (i := 581) (by decide +kernel)⟩
theorem lw_p20 : lw_okq (⟨"NoonSaws$Search", "toNextWay", "()V"⟩, 8) := ⟨⟨by decide +kernel, by decide +kernel⟩, List.mem_of_getElem? (i := 100) (by decide +kernel), List.mem_of_getElem? (i := 599) (by decide +kernel), List.mem_of_getElem? (i := 600) (by decide +kernel)⟩
theorem lw_p21 : lw_okq (⟨"NoonSaws", "trialShows", "(ILNoonSaws$Sheet;II)Z"⟩, 10) := ⟨⟨by decide +kernel, by decide +kernel⟩, List.mem_of_getElem? (i := 17) (by decide +kernel), List.mem_of_getElem? (i := 671) (by decide +kernel), List.mem_of_getElem? (i := 672) (by decide +kernel)⟩
theorem lw_p22 : lw_okq (⟨"NoonSawsModel", "isPlank", "(I)Z"⟩, 16) := ⟨⟨by decide +kernel, by decide +kernel⟩, List.mem_of_getElem? (i := 710) (by decide +kernel), List.mem_of_getElem? (i := 786) (by decide +kernel), List.mem_of_getElem? (i := 787) (by decide +kernel)⟩
theorem lw_p23 : lw_okq (⟨"NoonSawsModel", "cutsOn", "(I)I"⟩, 16) := ⟨⟨by decide +kernel, by decide +kernel⟩, List.mem_of_getElem? (i := 710) (by decide +kernel), List.mem_of_getElem? (i := 793) (by decide +kernel), List.mem_of_getElem? (i := 794) (by decide +kernel)⟩
theorem lw_p24 : lw_okq (⟨"NoonSawsModel", "isSawyer", "(I)Z"⟩, 16) := ⟨⟨by decide +kernel, by decide +kernel⟩, List.mem_of_getElem? (i := 710) (by decide +kernel), List.mem_of_getElem? (i := 804) (by decide +kernel), List.mem_of_getElem? (i := 805) (by decide +kernel)⟩
theorem lw_p25 : lw_okq (⟨"NoonSawsModel", "isNoon", "()Z"⟩, 16) := ⟨⟨by decide +kernel, by decide +kernel⟩, List.mem_of_getElem? (i := 710) (by decide +kernel), List.mem_of_getElem? (i := 816) (by decide +kernel), List.mem_of_getElem? (i := 817) (by decide +kernel)⟩
theorem lw_p26 : lw_okq (⟨"NoonSawsModel", "isPlankItem", "()Z"⟩, 16) := ⟨⟨by decide +kernel, by decide +kernel⟩, List.mem_of_getElem? (i := 710) (by decide +kernel), List.mem_of_getElem? (i := 820) (by decide +kernel), List.mem_of_getElem? (i := 821) (by decide +kernel)⟩
theorem lw_p27 : lw_okq (⟨"NoonSawsModel", "isNumber", "(II)Z"⟩, 16) := ⟨⟨by decide +kernel, by decide +kernel⟩, List.mem_of_getElem? (i := 710) (by decide +kernel), List.mem_of_getElem? (i := 824) (by decide +kernel), List.mem_of_getElem? (i := 825) (by decide +kernel)⟩
theorem lw_p28 : lw_okq (⟨"NoonSawsModel", "isDigit", "(II)Z"⟩, 16) := ⟨⟨by decide +kernel, by decide +kernel⟩, List.mem_of_getElem? (i := 710) (by decide +kernel), List.mem_of_getElem? (i := 828) (by decide +kernel), List.mem_of_getElem? (i := 829) (by decide +kernel)⟩
theorem lw_p29 : lw_okq (⟨"NoonSawsModel", "peek", "()I"⟩, 16) := ⟨⟨by decide +kernel, by decide +kernel⟩, List.mem_of_getElem? (i := 710) (by decide +kernel), List.mem_of_getElem? (i := 832) (by decide +kernel), List.mem_of_getElem? (i := 833) (by decide +kernel)⟩
theorem lw_p30 : lw_okq (⟨"NoonSawsModel", "isSign", "(I)Z"⟩, 16) := ⟨⟨by decide +kernel, by decide +kernel⟩, List.mem_of_getElem? (i := 710) (by decide +kernel), List.mem_of_getElem? (i := 836) (by decide +kernel), List.mem_of_getElem? (i := 837) (by decide +kernel)⟩
theorem lw_p31 : lw_okq (⟨"NoonSawsModel", "isSawyerItem", "()Z"⟩, 16) := ⟨⟨by decide +kernel, by decide +kernel⟩, List.mem_of_getElem? (i := 710) (by decide +kernel), List.mem_of_getElem? (i := 840) (by decide +kernel), List.mem_of_getElem? (i := 841) (by decide +kernel)⟩
def lw_privs_2 : List (MethodName × Nat) := [(⟨"NoonSaws", "noonOfTrial", "()I"⟩, 10), (⟨"NoonSaws", "nothingToSet", "()Z"⟩, 10), (⟨"NoonSaws$Search", "weigh", "(LNoonSaws$Noon;)V"⟩, 8), (⟨"NoonSaws$Search", "movesNow", "()I"⟩, 8), (⟨"NoonSaws$Search", "toNextWay", "()V"⟩, 8), (⟨"NoonSaws", "trialShows", "(ILNoonSaws$Sheet;II)Z"⟩, 10), (⟨"NoonSawsModel", "isPlank", "(I)Z"⟩, 16), (⟨"NoonSawsModel", "cutsOn", "(I)I"⟩, 16), (⟨"NoonSawsModel", "isSawyer", "(I)Z"⟩, 16), (⟨"NoonSawsModel", "isNoon", "()Z"⟩, 16), (⟨"NoonSawsModel", "isPlankItem", "()Z"⟩, 16), (⟨"NoonSawsModel", "isNumber", "(II)Z"⟩, 16), (⟨"NoonSawsModel", "isDigit", "(II)Z"⟩, 16), (⟨"NoonSawsModel", "peek", "()I"⟩, 16), (⟨"NoonSawsModel", "isSign", "(I)Z"⟩, 16), (⟨"NoonSawsModel", "isSawyerItem", "()Z"⟩, 16)]
theorem lw_r2 : ∀ q ∈ lw_privs_2, lw_okq q := List.forall_mem_cons.mpr ⟨lw_p16, List.forall_mem_cons.mpr ⟨lw_p17, List.forall_mem_cons.mpr ⟨lw_p18, List.forall_mem_cons.mpr ⟨lw_p19, List.forall_mem_cons.mpr ⟨lw_p20, List.forall_mem_cons.mpr ⟨lw_p21, List.forall_mem_cons.mpr ⟨lw_p22, List.forall_mem_cons.mpr ⟨lw_p23, List.forall_mem_cons.mpr ⟨lw_p24, List.forall_mem_cons.mpr ⟨lw_p25, List.forall_mem_cons.mpr ⟨lw_p26, List.forall_mem_cons.mpr ⟨lw_p27, List.forall_mem_cons.mpr ⟨lw_p28, List.forall_mem_cons.mpr ⟨lw_p29, List.forall_mem_cons.mpr ⟨lw_p30, List.forall_mem_cons.mpr ⟨lw_p31, fun _ h => absurd h List.not_mem_nil⟩⟩⟩⟩⟩⟩⟩⟩⟩⟩⟩⟩⟩⟩⟩⟩
theorem lw_p32 : lw_okq (⟨"NoonSawsModel", "teeth", "()I"⟩, 16) := ⟨⟨by decide +kernel, by decide +kernel⟩, List.mem_of_getElem? (i := 710) (by decide +kernel), List.mem_of_getElem? (i := 860) (by decide +kernel), List.mem_of_getElem? (i := 861) (by decide +kernel)⟩
theorem lw_p33 : lw_okq (⟨"NoonSawsModel", "note", "()V"⟩, 16) := ⟨⟨by decide +kernel, by decide +kernel⟩, List.mem_of_getElem? (i := 710) (by decide +kernel), List.mem_of_getElem? (i := 868) (by decide +kernel), List.mem_of_getElem? (i := 869) (by decide +kernel)⟩
theorem lw_p34 : lw_okq (⟨"NoonSawsModel", "hourIn", "([II)V"⟩, 16) := ⟨⟨by decide +kernel, by decide +kernel⟩, List.mem_of_getElem? (i := 710) (by decide +kernel), List.mem_of_getElem? (i := 872) (by decide +kernel), List.mem_of_getElem? (i := 873) (by decide +kernel)⟩
theorem lw_p35 : lw_okq (⟨"NoonSawsModel", "begin", "()V"⟩, 16) := ⟨⟨by decide +kernel, by decide +kernel⟩, List.mem_of_getElem? (i := 710) (by decide +kernel), List.mem_of_getElem? (i := 917) (by decide +kernel), List.mem_of_getElem? (i := 918) (by decide +kernel)⟩
theorem lw_p36 : lw_okq (⟨"NoonSawsModel", "goOn", "(I)V"⟩, 16) := ⟨⟨by decide +kernel, by decide +kernel⟩, List.mem_of_getElem? (i := 710) (by decide +kernel), List.mem_of_getElem? (i := 921) (by decide +kernel), List.mem_of_getElem? (i := 922) (by decide +kernel)⟩
theorem lw_p37 : lw_okq (⟨"NoonSawsModel", "noonOf", "()I"⟩, 16) := ⟨⟨by decide +kernel, by decide +kernel⟩, List.mem_of_getElem? (i := 710) (by decide +kernel), List.mem_of_getElem? (i := 941) (by decide +kernel), List.mem_of_getElem? (i := 942) (by decide +kernel)⟩
theorem lw_p38 : lw_okq (⟨"NoonSawsModel", "noBest", "(I)I"⟩, 16) := ⟨⟨by decide +kernel, by decide +kernel⟩, List.mem_of_getElem? (i := 710) (by decide +kernel), List.mem_of_getElem? (i := 949) (by decide +kernel), List.mem_of_getElem? (i := 950) (by decide +kernel)⟩
theorem lw_p39 : lw_okq (⟨"NoonSawsModel", "layBest", "(I)V"⟩, 16) := ⟨⟨by decide +kernel, by decide +kernel⟩, List.mem_of_getElem? (i := 710) (by decide +kernel), List.mem_of_getElem? (i := 953) (by decide +kernel), List.mem_of_getElem? (i := 954) (by decide +kernel)⟩
theorem lw_p40 : lw_okq (⟨"NoonSawsModel", "setBy", "(I)I"⟩, 16) := ⟨⟨by decide +kernel, by decide +kernel⟩, List.mem_of_getElem? (i := 710) (by decide +kernel), List.mem_of_getElem? (i := 957) (by decide +kernel), List.mem_of_getElem? (i := 958) (by decide +kernel)⟩
theorem lw_p41 : lw_okq (⟨"NoonSawsModel", "wrong", "(IIII)I"⟩, 16) := ⟨⟨by decide +kernel, by decide +kernel⟩, List.mem_of_getElem? (i := 710) (by decide +kernel), List.mem_of_getElem? (i := 999) (by decide +kernel), List.mem_of_getElem? (i := 1000) (by decide +kernel)⟩
theorem lw_p42 : lw_okq (⟨"NoonSawsModel", "isDust", "(IIII)Z"⟩, 16) := ⟨⟨by decide +kernel, by decide +kernel⟩, List.mem_of_getElem? (i := 710) (by decide +kernel), List.mem_of_getElem? (i := 1006) (by decide +kernel), List.mem_of_getElem? (i := 1007) (by decide +kernel)⟩
def lw_privs_3 : List (MethodName × Nat) := [(⟨"NoonSawsModel", "teeth", "()I"⟩, 16), (⟨"NoonSawsModel", "note", "()V"⟩, 16), (⟨"NoonSawsModel", "hourIn", "([II)V"⟩, 16), (⟨"NoonSawsModel", "begin", "()V"⟩, 16), (⟨"NoonSawsModel", "goOn", "(I)V"⟩, 16), (⟨"NoonSawsModel", "noonOf", "()I"⟩, 16), (⟨"NoonSawsModel", "noBest", "(I)I"⟩, 16), (⟨"NoonSawsModel", "layBest", "(I)V"⟩, 16), (⟨"NoonSawsModel", "setBy", "(I)I"⟩, 16), (⟨"NoonSawsModel", "wrong", "(IIII)I"⟩, 16), (⟨"NoonSawsModel", "isDust", "(IIII)Z"⟩, 16)]
theorem lw_r3 : ∀ q ∈ lw_privs_3, lw_okq q := List.forall_mem_cons.mpr ⟨lw_p32, List.forall_mem_cons.mpr ⟨lw_p33, List.forall_mem_cons.mpr ⟨lw_p34, List.forall_mem_cons.mpr ⟨lw_p35, List.forall_mem_cons.mpr ⟨lw_p36, List.forall_mem_cons.mpr ⟨lw_p37, List.forall_mem_cons.mpr ⟨lw_p38, List.forall_mem_cons.mpr ⟨lw_p39, List.forall_mem_cons.mpr ⟨lw_p40, List.forall_mem_cons.mpr ⟨lw_p41, List.forall_mem_cons.mpr ⟨lw_p42, fun _ h => absurd h List.not_mem_nil⟩⟩⟩⟩⟩⟩⟩⟩⟩⟩⟩
def lw_privs : List (MethodName × Nat) := lw_privs_1 ++ (lw_privs_2 ++ (lw_privs_3))
def lw_tbl : List Cond := k2_sels lw_privs ++ tables_1
theorem lw_privs_ok : ∀ q ∈ lw_privs, lw_okq q := by
  show ∀ q ∈ lw_privs_1 ++ (lw_privs_2 ++ (lw_privs_3)), lw_okq q
  exact List.forall_mem_append.mpr ⟨lw_r1, List.forall_mem_append.mpr ⟨lw_r2, lw_r3⟩⟩

def RX0 : String := "NoonSaws$Noon"
def TX0 : u_T := fun k => match k with
  | 0 => ("NoonSaws$Noon", "planks", "I", false)
  | 1 => ("NoonSaws$Noon", "sawyers", "I", false)
  | 2 => ("NoonSaws$Noon", "hour", "I", false)
  | 3 => ("NoonSaws$Noon", "draw", "I", false)
  | 4 => ("NoonSaws$Noon", "thick", "[I", true)
  | 5 => ("NoonSaws$Noon", "knotty", "[I", true)
  | 6 => ("NoonSaws$Noon", "left", "[I", true)
  | 7 => ("NoonSaws$Noon", "kind", "[I", true)
  | 8 => ("NoonSaws$Noon", "teeth", "[I", true)
  | 9 => ("NoonSaws$Noon", "seat", "[I", true)
  | _ => ("NoonSaws$Noon", "cuts", "[I", true)
def tyX0 : Nat → FieldType := fun k => match k with
  | 0 => .int
  | 1 => .int
  | 2 => .int
  | 3 => .int
  | 4 => .array .int
  | 5 => .array .int
  | 6 => .array .int
  | 7 => .array .int
  | 8 => .array .int
  | 9 => .array .int
  | _ => .array .int
abbrev wsX00 : List Cond := u_ws RX0 TX0 11
theorem nmX0 : ∀ a, a < 11 → ∀ b, b < 11 → a ≠ b → (TX0 a).2.1 ≠ (TX0 b).2.1 := by decide +kernel
theorem tyX0_ok : ∀ k, k < 11 → parseFieldDescriptor (TX0 k).2.2.1 = some (tyX0 k) := by decide +kernel
abbrev cX0_init : ByteArray := prog_2_method_1_code
def yX0_init : MethodName := ⟨RX0, "<init>", "()V"⟩
abbrev cX0_empty : ByteArray := prog_2_method_2_code
def yX0_empty : MethodName := ⟨RX0, "empty", "()V"⟩
abbrev cX0_takeAll : ByteArray := prog_2_method_3_code
def yX0_takeAll : MethodName := ⟨RX0, "takeAll", "(LNoonSaws$Noon;)V"⟩
abbrev cX0_takeMoment : ByteArray := prog_2_method_4_code
def yX0_takeMoment : MethodName := ⟨RX0, "takeMoment", "(LNoonSaws$Noon;)V"⟩
abbrev cX0_isLike : ByteArray := prog_2_method_5_code
def yX0_isLike : MethodName := ⟨RX0, "isLike", "(LNoonSaws$Noon;)Z"⟩
abbrev cX0_addPlank : ByteArray := prog_2_method_6_code
def yX0_addPlank : MethodName := ⟨RX0, "addPlank", "(III)I"⟩
abbrev cX0_addSawyer : ByteArray := prog_2_method_7_code
def yX0_addSawyer : MethodName := ⟨RX0, "addSawyer", "(III)I"⟩
abbrev cX0_addTeeth : ByteArray := prog_2_method_8_code
def yX0_addTeeth : MethodName := ⟨RX0, "addTeeth", "(II)V"⟩
abbrev cX0_suppose : ByteArray := prog_2_method_9_code
def yX0_suppose : MethodName := ⟨RX0, "suppose", "(III)V"⟩
abbrev cX0_fallenSet : ByteArray := prog_2_method_10_code
def yX0_fallenSet : MethodName := ⟨RX0, "fallenSet", "()I"⟩
abbrev cX0_leftOfAll : ByteArray := prog_2_method_11_code
def yX0_leftOfAll : MethodName := ⟨RX0, "leftOfAll", "()I"⟩
abbrev cX0_teethOfAll : ByteArray := prog_2_method_12_code
def yX0_teethOfAll : MethodName := ⟨RX0, "teethOfAll", "()I"⟩
abbrev cX0_sittersOn : ByteArray := prog_2_method_13_code
def yX0_sittersOn : MethodName := ⟨RX0, "sittersOn", "(I)I"⟩
abbrev cX0_cutByAll : ByteArray := prog_2_method_14_code
def yX0_cutByAll : MethodName := ⟨RX0, "cutByAll", "(I)I"⟩
abbrev cX0_cutOf : ByteArray := prog_2_method_15_code
def yX0_cutOf : MethodName := ⟨RX0, "cutOf", "(I)I"⟩
abbrev cX0_hoppersRest : ByteArray := prog_2_method_16_code
def yX0_hoppersRest : MethodName := ⟨RX0, "hoppersRest", "()Z"⟩
abbrev cX0_cutBy : ByteArray := prog_2_method_17_code
def yX0_cutBy : MethodName := ⟨RX0, "cutBy", "(IIIZZ)I"⟩
abbrev cX0_mostCut : ByteArray := prog_2_method_18_code
def yX0_mostCut : MethodName := ⟨RX0, "mostCut", "()I"⟩
abbrev cX0_passHour : ByteArray := prog_2_method_19_code
def yX0_passHour : MethodName := ⟨RX0, "passHour", "()Z"⟩
abbrev cX0_growBlunt : ByteArray := prog_2_method_20_code
def yX0_growBlunt : MethodName := ⟨RX0, "growBlunt", "()V"⟩
abbrev cX0_leaveFallen : ByteArray := prog_2_method_21_code
def yX0_leaveFallen : MethodName := ⟨RX0, "leaveFallen", "()Z"⟩
abbrev cX0_plankMostLeft : ByteArray := prog_2_method_22_code
def yX0_plankMostLeft : MethodName := ⟨RX0, "plankMostLeft", "()I"⟩
abbrev cX0_passHours : ByteArray := prog_2_method_23_code
def yX0_passHours : MethodName := ⟨RX0, "passHours", "(I)V"⟩
abbrev cX0_drawAndSet : ByteArray := prog_2_method_24_code
def yX0_drawAndSet : MethodName := ⟨RX0, "drawAndSet", "()V"⟩
abbrev cX0_noonWithin : ByteArray := prog_2_method_25_code
def yX0_noonWithin : MethodName := ⟨RX0, "noonWithin", "(II)I"⟩
abbrev cX0_standingBehind : ByteArray := prog_2_method_26_code
def yX0_standingBehind : MethodName := ⟨RX0, "standingBehind", "(I)I"⟩
def RX1 : String := "NoonSaws$Past"
def TX1 : u_T := fun k => match k with
  | 0 => ("NoonSaws$Past", "moments", "[LNoonSaws$Noon;", true)
  | 1 => ("NoonSaws$Past", "known", "I", false)
  | _ => ("NoonSaws$Past", "next", "I", false)
def tyX1 : Nat → FieldType := fun k => match k with
  | 0 => .array (.object "NoonSaws$Noon")
  | 1 => .int
  | _ => .int
abbrev wsX10 : List Cond := u_ws RX1 TX1 3
theorem nmX1 : ∀ a, a < 3 → ∀ b, b < 3 → a ≠ b → (TX1 a).2.1 ≠ (TX1 b).2.1 := by decide +kernel
theorem tyX1_ok : ∀ k, k < 3 → parseFieldDescriptor (TX1 k).2.2.1 = some (tyX1 k) := by decide +kernel
abbrev cX1_init : ByteArray := prog_3_method_1_code
def yX1_init : MethodName := ⟨RX1, "<init>", "()V"⟩
abbrev cX1_forget : ByteArray := prog_3_method_2_code
def yX1_forget : MethodName := ⟨RX1, "forget", "()V"⟩
abbrev cX1_keep : ByteArray := prog_3_method_3_code
def yX1_keep : MethodName := ⟨RX1, "keep", "(LNoonSaws$Noon;)V"⟩
abbrev cX1_giveBack : ByteArray := prog_3_method_4_code
def yX1_giveBack : MethodName := ⟨RX1, "giveBack", "(LNoonSaws$Noon;)Z"⟩
abbrev cX1_takePast : ByteArray := prog_3_method_5_code
def yX1_takePast : MethodName := ⟨RX1, "takePast", "(LNoonSaws$Past;)V"⟩
def RX2 : String := "NoonSaws$Search"
def TX2 : u_T := fun k => match k with
  | 0 => ("NoonSaws$Search", "madeFor", "LNoonSaws$Noon;", true)
  | 1 => ("NoonSaws$Search", "seats", "[I", true)
  | 2 => ("NoonSaws$Search", "found", "[I", true)
  | 3 => ("NoonSaws$Search", "made", "Z", false)
  | 4 => ("NoonSaws$Search", "hours", "I", false)
  | 5 => ("NoonSaws$Search", "worth", "I", false)
  | 6 => ("NoonSaws$Search", "moves", "I", false)
  | _ => ("NoonSaws$Search", "mostCut", "I", false)
def tyX2 : Nat → FieldType := fun k => match k with
  | 0 => .object "NoonSaws$Noon"
  | 1 => .array .int
  | 2 => .array .int
  | 3 => .boolean
  | 4 => .int
  | 5 => .int
  | 6 => .int
  | _ => .int
abbrev wsX20 : List Cond := u_ws RX2 TX2 8
theorem nmX2 : ∀ a, a < 8 → ∀ b, b < 8 → a ≠ b → (TX2 a).2.1 ≠ (TX2 b).2.1 := by decide +kernel
theorem tyX2_ok : ∀ k, k < 8 → parseFieldDescriptor (TX2 k).2.2.1 = some (tyX2 k) := by decide +kernel
abbrev cX2_init : ByteArray := prog_4_method_1_code
def yX2_init : MethodName := ⟨RX2, "<init>", "()V"⟩
abbrev cX2_told : ByteArray := prog_4_method_2_code
def yX2_told : MethodName := ⟨RX2, "told", "(I)I"⟩
abbrev cX2_make : ByteArray := prog_4_method_3_code
def yX2_make : MethodName := ⟨RX2, "make", "(LNoonSaws$Noon;ILNoonSaws$Noon;)V"⟩
abbrev cX2_weigh : ByteArray := prog_4_method_4_code
def yX2_weigh : MethodName := ⟨RX2, "weigh", "(LNoonSaws$Noon;)V"⟩
abbrev cX2_movesNow : ByteArray := prog_4_method_5_code
def yX2_movesNow : MethodName := ⟨RX2, "movesNow", "()I"⟩
abbrev cX2_toNextWay : ByteArray := prog_4_method_6_code
def yX2_toNextWay : MethodName := ⟨RX2, "toNextWay", "()V"⟩
def RX3 : String := "NoonSaws$Sheet"
def TX3 : u_T := fun k => match k with
  | 0 => ("NoonSaws$Sheet", "items", "[J", true)
  | 1 => ("NoonSaws$Sheet", "lane", "I", false)
  | _ => ("NoonSaws$Sheet", "length", "I", false)
def tyX3 : Nat → FieldType := fun k => match k with
  | 0 => .array .long
  | 1 => .int
  | _ => .int
abbrev wsX30 : List Cond := u_ws RX3 TX3 3
theorem nmX3 : ∀ a, a < 3 → ∀ b, b < 3 → a ≠ b → (TX3 a).2.1 ≠ (TX3 b).2.1 := by decide +kernel
theorem tyX3_ok : ∀ k, k < 3 → parseFieldDescriptor (TX3 k).2.2.1 = some (tyX3 k) := by decide +kernel
abbrev cX3_init : ByteArray := prog_5_method_1_code
def yX3_init : MethodName := ⟨RX3, "<init>", "()V"⟩
abbrev cX3_isNothing : ByteArray := prog_5_method_2_code
def yX3_isNothing : MethodName := ⟨RX3, "isNothing", "()Z"⟩
abbrev cX3_begin : ByteArray := prog_5_method_3_code
def yX3_begin : MethodName := ⟨RX3, "begin", "(II)V"⟩
abbrev cX3_clear : ByteArray := prog_5_method_4_code
def yX3_clear : MethodName := ⟨RX3, "clear", "()I"⟩
abbrev cX3_refusal : ByteArray := prog_5_method_5_code
def yX3_refusal : MethodName := ⟨RX3, "refusal", "(III)I"⟩
abbrev cX3_lacks : ByteArray := prog_5_method_6_code
def yX3_lacks : MethodName := ⟨RX3, "lacks", "(II)Z"⟩
abbrev cX3_put : ByteArray := prog_5_method_7_code
def yX3_put : MethodName := ⟨RX3, "put", "(IJ)V"⟩
def RX4 : String := "NoonSaws$Tape"
def TX4 : u_T := fun k => match k with
  | 0 => ("NoonSaws$Tape", "letters", "[C", true)
  | 1 => ("NoonSaws$Tape", "length", "I", false)
  | _ => ("NoonSaws$Tape", "place", "I", false)
def tyX4 : Nat → FieldType := fun k => match k with
  | 0 => .array .char
  | 1 => .int
  | _ => .int
abbrev wsX40 : List Cond := u_ws RX4 TX4 3
theorem nmX4 : ∀ a, a < 3 → ∀ b, b < 3 → a ≠ b → (TX4 a).2.1 ≠ (TX4 b).2.1 := by decide +kernel
theorem tyX4_ok : ∀ k, k < 3 → parseFieldDescriptor (TX4 k).2.2.1 = some (tyX4 k) := by decide +kernel
abbrev cX4_init : ByteArray := prog_6_method_1_code
def yX4_init : MethodName := ⟨RX4, "<init>", "()V"⟩
abbrev cX4_addLetter : ByteArray := prog_6_method_2_code
def yX4_addLetter : MethodName := ⟨RX4, "addLetter", "(C)I"⟩
abbrev cX4_wipe : ByteArray := prog_6_method_3_code
def yX4_wipe : MethodName := ⟨RX4, "wipe", "()V"⟩
abbrev cX4_tellNoon : ByteArray := prog_6_method_4_code
def yX4_tellNoon : MethodName := ⟨RX4, "tellNoon", "(LNoonSaws$Noon;)I"⟩
abbrev cX4_tellPlanks : ByteArray := prog_6_method_5_code
def yX4_tellPlanks : MethodName := ⟨RX4, "tellPlanks", "(LNoonSaws$Noon;)Z"⟩
abbrev cX4_tellPlank : ByteArray := prog_6_method_6_code
def yX4_tellPlank : MethodName := ⟨RX4, "tellPlank", "(LNoonSaws$Noon;)Z"⟩
abbrev cX4_tellSawyers : ByteArray := prog_6_method_7_code
def yX4_tellSawyers : MethodName := ⟨RX4, "tellSawyers", "(LNoonSaws$Noon;)Z"⟩
abbrev cX4_tellSawyer : ByteArray := prog_6_method_8_code
def yX4_tellSawyer : MethodName := ⟨RX4, "tellSawyer", "(LNoonSaws$Noon;)Z"⟩
abbrev cX4_nextLetter : ByteArray := prog_6_method_9_code
def yX4_nextLetter : MethodName := ⟨RX4, "nextLetter", "()C"⟩
abbrev cX4_letterHere : ByteArray := prog_6_method_10_code
def yX4_letterHere : MethodName := ⟨RX4, "letterHere", "()C"⟩
abbrev cX4_takes : ByteArray := prog_6_method_11_code
def yX4_takes : MethodName := ⟨RX4, "takes", "(C)Z"⟩
abbrev cX4_takeDigit : ByteArray := prog_6_method_12_code
def yX4_takeDigit : MethodName := ⟨RX4, "takeDigit", "(I)I"⟩
abbrev cX4_takeNumber : ByteArray := prog_6_method_13_code
def yX4_takeNumber : MethodName := ⟨RX4, "takeNumber", "(II)I"⟩
abbrev cX4_valueOf : ByteArray := prog_6_method_14_code
def yX4_valueOf : MethodName := ⟨RX4, "valueOf", "(C)I"⟩
def RX5 : String := "NoonSaws"
def TX5 : u_T := fun k => match k with
  | 0 => ("NoonSaws", "now", "LNoonSaws$Noon;", true)
  | 1 => ("NoonSaws", "past", "LNoonSaws$Past;", true)
  | 2 => ("NoonSaws", "imageNoon", "LNoonSaws$Noon;", true)
  | 3 => ("NoonSaws", "imagePast", "LNoonSaws$Past;", true)
  | 4 => ("NoonSaws", "imageKept", "Z", false)
  | 5 => ("NoonSaws", "trial", "LNoonSaws$Noon;", true)
  | 6 => ("NoonSaws", "bestSearch", "LNoonSaws$Search;", true)
  | 7 => ("NoonSaws", "mostSearch", "LNoonSaws$Search;", true)
  | 8 => ("NoonSaws", "tape", "LNoonSaws$Tape;", true)
  | _ => ("NoonSaws", "sheets", "[LNoonSaws$Sheet;", true)
def tyX5 : Nat → FieldType := fun k => match k with
  | 0 => .object "NoonSaws$Noon"
  | 1 => .object "NoonSaws$Past"
  | 2 => .object "NoonSaws$Noon"
  | 3 => .object "NoonSaws$Past"
  | 4 => .boolean
  | 5 => .object "NoonSaws$Noon"
  | 6 => .object "NoonSaws$Search"
  | 7 => .object "NoonSaws$Search"
  | 8 => .object "NoonSaws$Tape"
  | _ => .array (.object "NoonSaws$Sheet")
abbrev wsX50 : List Cond := u_ws RX5 TX5 10
theorem nmX5 : ∀ a, a < 10 → ∀ b, b < 10 → a ≠ b → (TX5 a).2.1 ≠ (TX5 b).2.1 := by decide +kernel
theorem tyX5_ok : ∀ k, k < 10 → parseFieldDescriptor (TX5 k).2.2.1 = some (tyX5 k) := by decide +kernel
abbrev cX5_init : ByteArray := prog_1_method_1_code
def yX5_init : MethodName := ⟨RX5, "<init>", "()V"⟩
abbrev cX5_plank : ByteArray := prog_1_method_2_code
def yX5_plank : MethodName := ⟨RX5, "plank", "(II)I"⟩
abbrev cX5_sawyer : ByteArray := prog_1_method_3_code
def yX5_sawyer : MethodName := ⟨RX5, "sawyer", "(II)I"⟩
abbrev cX5_of : ByteArray := prog_1_method_4_code
def yX5_of : MethodName := ⟨RX5, "of", "(II)I"⟩
abbrev cX5_at : ByteArray := prog_1_method_5_code
def yX5_at : MethodName := ⟨RX5, "at", "(II)I"⟩
abbrev cX5_type : ByteArray := prog_1_method_6_code
def yX5_type : MethodName := ⟨RX5, "type", "(I)I"⟩
abbrev cX5_read : ByteArray := prog_1_method_7_code
def yX5_read : MethodName := ⟨RX5, "read", "()I"⟩
abbrev cX5_count : ByteArray := prog_1_method_8_code
def yX5_count : MethodName := ⟨RX5, "count", "(I)I"⟩
abbrev cX5_hours : ByteArray := prog_1_method_9_code
def yX5_hours : MethodName := ⟨RX5, "hours", "(I)I"⟩
abbrev cX5_set : ByteArray := prog_1_method_10_code
def yX5_set : MethodName := ⟨RX5, "set", "(II)I"⟩
abbrev cX5_sharpen : ByteArray := prog_1_method_11_code
def yX5_sharpen : MethodName := ⟨RX5, "sharpen", "(II)I"⟩
abbrev cX5_soak : ByteArray := prog_1_method_12_code
def yX5_soak : MethodName := ⟨RX5, "soak", "(II)I"⟩
abbrev cX5_drift : ByteArray := prog_1_method_13_code
def yX5_drift : MethodName := ⟨RX5, "drift", "(I)I"⟩
abbrev cX5_undo : ByteArray := prog_1_method_14_code
def yX5_undo : MethodName := ⟨RX5, "undo", "()I"⟩
abbrev cX5_seed : ByteArray := prog_1_method_15_code
def yX5_seed : MethodName := ⟨RX5, "seed", "(I)I"⟩
abbrev cX5_left : ByteArray := prog_1_method_16_code
def yX5_left : MethodName := ⟨RX5, "left", "(II)I"⟩
abbrev cX5_ahead : ByteArray := prog_1_method_17_code
def yX5_ahead : MethodName := ⟨RX5, "ahead", "(III)I"⟩
abbrev cX5_then : ByteArray := prog_1_method_18_code
def yX5_then : MethodName := ⟨RX5, "then", "(I)I"⟩
abbrev cX5_falls : ByteArray := prog_1_method_19_code
def yX5_falls : MethodName := ⟨RX5, "falls", "(I)I"⟩
abbrev cX5_noon : ByteArray := prog_1_method_20_code
def yX5_noon : MethodName := ⟨RX5, "noon", "()I"⟩
abbrev cX5_best : ByteArray := prog_1_method_21_code
def yX5_best : MethodName := ⟨RX5, "best", "(I)I"⟩
abbrev cX5_most : ByteArray := prog_1_method_22_code
def yX5_most : MethodName := ⟨RX5, "most", "(II)I"⟩
abbrev cX5_sharp : ByteArray := prog_1_method_23_code
def yX5_sharp : MethodName := ⟨RX5, "sharp", "(II)I"⟩
abbrev cX5_without : ByteArray := prog_1_method_24_code
def yX5_without : MethodName := ⟨RX5, "without", "(I)I"⟩
abbrev cX5_thickest : ByteArray := prog_1_method_25_code
def yX5_thickest : MethodName := ⟨RX5, "thickest", "(II)I"⟩
abbrev cX5_hops : ByteArray := prog_1_method_26_code
def yX5_hops : MethodName := ⟨RX5, "hops", "(III)I"⟩
abbrev cX5_image : ByteArray := prog_1_method_27_code
def yX5_image : MethodName := ⟨RX5, "image", "()I"⟩
abbrev cX5_restore : ByteArray := prog_1_method_28_code
def yX5_restore : MethodName := ⟨RX5, "restore", "()I"⟩
abbrev cX5_dust : ByteArray := prog_1_method_29_code
def yX5_dust : MethodName := ⟨RX5, "dust", "(IIIIIII)I"⟩
abbrev cX5_film : ByteArray := prog_1_method_30_code
def yX5_film : MethodName := ⟨RX5, "film", "(IIIII)I"⟩
abbrev cX5_sheet : ByteArray := prog_1_method_31_code
def yX5_sheet : MethodName := ⟨RX5, "sheet", "(III)I"⟩
abbrev cX5_drop : ByteArray := prog_1_method_32_code
def yX5_drop : MethodName := ⟨RX5, "drop", "(I)I"⟩
abbrev cX5_item : ByteArray := prog_1_method_33_code
def yX5_item : MethodName := ⟨RX5, "item", "(IIIJ)I"⟩
abbrev cX5_copy : ByteArray := prog_1_method_34_code
def yX5_copy : MethodName := ⟨RX5, "copy", "(IIIII)I"⟩
abbrev cX5_outside : ByteArray := prog_1_method_35_code
def yX5_outside : MethodName := ⟨RX5, "outside", "(III)Z"⟩
abbrev cX5_noPlank : ByteArray := prog_1_method_36_code
def yX5_noPlank : MethodName := ⟨RX5, "noPlank", "(I)Z"⟩
abbrev cX5_noSawyer : ByteArray := prog_1_method_37_code
def yX5_noSawyer : MethodName := ⟨RX5, "noSawyer", "(I)Z"⟩
abbrev cX5_noSheet : ByteArray := prog_1_method_38_code
def yX5_noSheet : MethodName := ⟨RX5, "noSheet", "(I)Z"⟩
abbrev cX5_noLane : ByteArray := prog_1_method_39_code
def yX5_noLane : MethodName := ⟨RX5, "noLane", "(I)Z"⟩
abbrev cX5_nothingToSet : ByteArray := prog_1_method_40_code
def yX5_nothingToSet : MethodName := ⟨RX5, "nothingToSet", "()Z"⟩
abbrev cX5_foretell : ByteArray := prog_1_method_41_code
def yX5_foretell : MethodName := ⟨RX5, "foretell", "(I)V"⟩
abbrev cX5_noonOfTrial : ByteArray := prog_1_method_42_code
def yX5_noonOfTrial : MethodName := ⟨RX5, "noonOfTrial", "()I"⟩
abbrev cX5_orNone : ByteArray := prog_1_method_43_code
def yX5_orNone : MethodName := ⟨RX5, "orNone", "(I)I"⟩
abbrev cX5_trialShows : ByteArray := prog_1_method_44_code
def yX5_trialShows : MethodName := ⟨RX5, "trialShows", "(ILNoonSaws$Sheet;II)Z"⟩
abbrev cX5_power : ByteArray := prog_1_method_45_code
def yX5_power : MethodName := ⟨RX5, "power", "(II)I"⟩
abbrev cX5_sharedDivisor : ByteArray := prog_1_method_46_code
def yX5_sharedDivisor : MethodName := ⟨RX5, "sharedDivisor", "(II)I"⟩
def RX6 : String := "NoonSawsModel"
def TX6 : u_T := fun k => match k with
  | 0 => ("NoonSawsModel", "lane", "[I", true)
  | 1 => ("NoonSawsModel", "size", "[I", true)
  | 2 => ("NoonSawsModel", "item", "[J", true)
  | 3 => ("NoonSawsModel", "letters", "I", false)
  | 4 => ("NoonSawsModel", "tape", "[I", true)
  | 5 => ("NoonSawsModel", "position", "I", false)
  | 6 => ("NoonSawsModel", "number", "I", false)
  | 7 => ("NoonSawsModel", "now", "[I", true)
  | 8 => ("NoonSawsModel", "tried", "[I", true)
  | 9 => ("NoonSawsModel", "read", "[I", true)
  | 10 => ("NoonSawsModel", "kept", "[I", true)
  | 11 => ("NoonSawsModel", "isKept", "Z", false)
  | 12 => ("NoonSawsModel", "cut", "[I", true)
  | 13 => ("NoonSawsModel", "bestSits", "[I", true)
  | 14 => ("NoonSawsModel", "bestMuch", "I", false)
  | _ => ("NoonSawsModel", "bestChange", "I", false)
def tyX6 : Nat → FieldType := fun k => match k with
  | 0 => .array .int
  | 1 => .array .int
  | 2 => .array .long
  | 3 => .int
  | 4 => .array .int
  | 5 => .int
  | 6 => .int
  | 7 => .array .int
  | 8 => .array .int
  | 9 => .array .int
  | 10 => .array .int
  | 11 => .boolean
  | 12 => .array .int
  | 13 => .array .int
  | 14 => .int
  | _ => .int
abbrev wsX60 : List Cond := u_ws RX6 TX6 16
theorem nmX6 : ∀ a, a < 16 → ∀ b, b < 16 → a ≠ b → (TX6 a).2.1 ≠ (TX6 b).2.1 := by decide +kernel
theorem tyX6_ok : ∀ k, k < 16 → parseFieldDescriptor (TX6 k).2.2.1 = some (tyX6 k) := by decide +kernel
abbrev cX6_init : ByteArray := prog_8_method_1_code
def yX6_init : MethodName := ⟨RX6, "<init>", "()V"⟩
abbrev cX6_in : ByteArray := prog_8_method_2_code
def yX6_in : MethodName := ⟨RX6, "in", "(III)Z"⟩
abbrev cX6_has : ByteArray := prog_8_method_3_code
def yX6_has : MethodName := ⟨RX6, "has", "(II)Z"⟩
abbrev cX6_bits : ByteArray := prog_8_method_4_code
def yX6_bits : MethodName := ⟨RX6, "bits", "(I)I"⟩
abbrev cX6_bring : ByteArray := prog_8_method_5_code
def yX6_bring : MethodName := ⟨RX6, "bring", "([II[III)V"⟩
abbrev cX6_isPlank : ByteArray := prog_8_method_6_code
def yX6_isPlank : MethodName := ⟨RX6, "isPlank", "(I)Z"⟩
abbrev cX6_isSawyer : ByteArray := prog_8_method_7_code
def yX6_isSawyer : MethodName := ⟨RX6, "isSawyer", "(I)Z"⟩
abbrev cX6_addPlank : ByteArray := prog_8_method_8_code
def yX6_addPlank : MethodName := ⟨RX6, "addPlank", "([III)I"⟩
abbrev cX6_addSawyer : ByteArray := prog_8_method_9_code
def yX6_addSawyer : MethodName := ⟨RX6, "addSawyer", "([III)I"⟩
abbrev cX6_plank : ByteArray := prog_8_method_10_code
def yX6_plank : MethodName := ⟨RX6, "plank", "(II)I"⟩
abbrev cX6_sawyer : ByteArray := prog_8_method_11_code
def yX6_sawyer : MethodName := ⟨RX6, "sawyer", "(II)I"⟩
abbrev cX6_cuts : ByteArray := prog_8_method_12_code
def yX6_cuts : MethodName := ⟨RX6, "cuts", "([II)I"⟩
abbrev cX6_sittersOn : ByteArray := prog_8_method_13_code
def yX6_sittersOn : MethodName := ⟨RX6, "sittersOn", "([II)I"⟩
abbrev cX6_cutsOn : ByteArray := prog_8_method_14_code
def yX6_cutsOn : MethodName := ⟨RX6, "cutsOn", "(I)I"⟩
abbrev cX6_of : ByteArray := prog_8_method_15_code
def yX6_of : MethodName := ⟨RX6, "of", "(II)I"⟩
abbrev cX6_at : ByteArray := prog_8_method_16_code
def yX6_at : MethodName := ⟨RX6, "at", "(II)I"⟩
abbrev cX6_type : ByteArray := prog_8_method_17_code
def yX6_type : MethodName := ⟨RX6, "type", "(I)I"⟩
abbrev cX6_peek : ByteArray := prog_8_method_18_code
def yX6_peek : MethodName := ⟨RX6, "peek", "()I"⟩
abbrev cX6_isSign : ByteArray := prog_8_method_19_code
def yX6_isSign : MethodName := ⟨RX6, "isSign", "(I)Z"⟩
abbrev cX6_isDigit : ByteArray := prog_8_method_20_code
def yX6_isDigit : MethodName := ⟨RX6, "isDigit", "(II)Z"⟩
abbrev cX6_isNumber : ByteArray := prog_8_method_21_code
def yX6_isNumber : MethodName := ⟨RX6, "isNumber", "(II)Z"⟩
abbrev cX6_kindBy : ByteArray := prog_8_method_22_code
def yX6_kindBy : MethodName := ⟨RX6, "kindBy", "(I)I"⟩
abbrev cX6_isPlankItem : ByteArray := prog_8_method_23_code
def yX6_isPlankItem : MethodName := ⟨RX6, "isPlankItem", "()Z"⟩
abbrev cX6_isSawyerItem : ByteArray := prog_8_method_24_code
def yX6_isSawyerItem : MethodName := ⟨RX6, "isSawyerItem", "()Z"⟩
abbrev cX6_isNoon : ByteArray := prog_8_method_25_code
def yX6_isNoon : MethodName := ⟨RX6, "isNoon", "()Z"⟩
abbrev cX6_read : ByteArray := prog_8_method_26_code
def yX6_read : MethodName := ⟨RX6, "read", "()I"⟩
abbrev cX6_fallen : ByteArray := prog_8_method_27_code
def yX6_fallen : MethodName := ⟨RX6, "fallen", "([I)I"⟩
abbrev cX6_isAll : ByteArray := prog_8_method_28_code
def yX6_isAll : MethodName := ⟨RX6, "isAll", "([I)Z"⟩
abbrev cX6_leftOf : ByteArray := prog_8_method_29_code
def yX6_leftOf : MethodName := ⟨RX6, "leftOf", "([I)I"⟩
abbrev cX6_teeth : ByteArray := prog_8_method_30_code
def yX6_teeth : MethodName := ⟨RX6, "teeth", "()I"⟩
abbrev cX6_count : ByteArray := prog_8_method_31_code
def yX6_count : MethodName := ⟨RX6, "count", "(I)I"⟩
abbrev cX6_note : ByteArray := prog_8_method_32_code
def yX6_note : MethodName := ⟨RX6, "note", "()V"⟩
abbrev cX6_thickestOf : ByteArray := prog_8_method_33_code
def yX6_thickestOf : MethodName := ⟨RX6, "thickestOf", "([I)I"⟩
abbrev cX6_hourIn : ByteArray := prog_8_method_34_code
def yX6_hourIn : MethodName := ⟨RX6, "hourIn", "([II)V"⟩
abbrev cX6_hours : ByteArray := prog_8_method_35_code
def yX6_hours : MethodName := ⟨RX6, "hours", "(I)I"⟩
abbrev cX6_set : ByteArray := prog_8_method_36_code
def yX6_set : MethodName := ⟨RX6, "set", "(II)I"⟩
abbrev cX6_sharpen : ByteArray := prog_8_method_37_code
def yX6_sharpen : MethodName := ⟨RX6, "sharpen", "(II)I"⟩
abbrev cX6_soak : ByteArray := prog_8_method_38_code
def yX6_soak : MethodName := ⟨RX6, "soak", "(II)I"⟩
abbrev cX6_drift : ByteArray := prog_8_method_39_code
def yX6_drift : MethodName := ⟨RX6, "drift", "(I)I"⟩
abbrev cX6_undo : ByteArray := prog_8_method_40_code
def yX6_undo : MethodName := ⟨RX6, "undo", "()I"⟩
abbrev cX6_seed : ByteArray := prog_8_method_41_code
def yX6_seed : MethodName := ⟨RX6, "seed", "(I)I"⟩
abbrev cX6_begin : ByteArray := prog_8_method_42_code
def yX6_begin : MethodName := ⟨RX6, "begin", "()V"⟩
abbrev cX6_goOn : ByteArray := prog_8_method_43_code
def yX6_goOn : MethodName := ⟨RX6, "goOn", "(I)V"⟩
abbrev cX6_left : ByteArray := prog_8_method_44_code
def yX6_left : MethodName := ⟨RX6, "left", "(II)I"⟩
abbrev cX6_ahead : ByteArray := prog_8_method_45_code
def yX6_ahead : MethodName := ⟨RX6, "ahead", "(III)I"⟩
abbrev cX6_then : ByteArray := prog_8_method_46_code
def yX6_then : MethodName := ⟨RX6, "then", "(I)I"⟩
abbrev cX6_falls : ByteArray := prog_8_method_47_code
def yX6_falls : MethodName := ⟨RX6, "falls", "(I)I"⟩
abbrev cX6_noonOf : ByteArray := prog_8_method_48_code
def yX6_noonOf : MethodName := ⟨RX6, "noonOf", "()I"⟩
abbrev cX6_noon : ByteArray := prog_8_method_49_code
def yX6_noon : MethodName := ⟨RX6, "noon", "()I"⟩
abbrev cX6_setBy : ByteArray := prog_8_method_50_code
def yX6_setBy : MethodName := ⟨RX6, "setBy", "(I)I"⟩
abbrev cX6_layBest : ByteArray := prog_8_method_51_code
def yX6_layBest : MethodName := ⟨RX6, "layBest", "(I)V"⟩
abbrev cX6_noBest : ByteArray := prog_8_method_52_code
def yX6_noBest : MethodName := ⟨RX6, "noBest", "(I)I"⟩
abbrev cX6_best : ByteArray := prog_8_method_53_code
def yX6_best : MethodName := ⟨RX6, "best", "(I)I"⟩
abbrev cX6_most : ByteArray := prog_8_method_54_code
def yX6_most : MethodName := ⟨RX6, "most", "(II)I"⟩
abbrev cX6_sharp : ByteArray := prog_8_method_55_code
def yX6_sharp : MethodName := ⟨RX6, "sharp", "(II)I"⟩
abbrev cX6_without : ByteArray := prog_8_method_56_code
def yX6_without : MethodName := ⟨RX6, "without", "(I)I"⟩
abbrev cX6_thickest : ByteArray := prog_8_method_57_code
def yX6_thickest : MethodName := ⟨RX6, "thickest", "(II)I"⟩
abbrev cX6_hops : ByteArray := prog_8_method_58_code
def yX6_hops : MethodName := ⟨RX6, "hops", "(III)I"⟩
abbrev cX6_image : ByteArray := prog_8_method_59_code
def yX6_image : MethodName := ⟨RX6, "image", "()I"⟩
abbrev cX6_restore : ByteArray := prog_8_method_60_code
def yX6_restore : MethodName := ⟨RX6, "restore", "()I"⟩
abbrev cX6_isSheet : ByteArray := prog_8_method_61_code
def yX6_isSheet : MethodName := ⟨RX6, "isSheet", "(I)Z"⟩
abbrev cX6_isPart : ByteArray := prog_8_method_62_code
def yX6_isPart : MethodName := ⟨RX6, "isPart", "(III)Z"⟩
abbrev cX6_wrong : ByteArray := prog_8_method_63_code
def yX6_wrong : MethodName := ⟨RX6, "wrong", "(IIII)I"⟩
abbrev cX6_isDust : ByteArray := prog_8_method_64_code
def yX6_isDust : MethodName := ⟨RX6, "isDust", "(IIII)Z"⟩
abbrev cX6_dust : ByteArray := prog_8_method_65_code
def yX6_dust : MethodName := ⟨RX6, "dust", "(IIIIIII)I"⟩
abbrev cX6_cutTo : ByteArray := prog_8_method_66_code
def yX6_cutTo : MethodName := ⟨RX6, "cutTo", "(IJ)J"⟩
abbrev cX6_film : ByteArray := prog_8_method_67_code
def yX6_film : MethodName := ⟨RX6, "film", "(IIIII)I"⟩
abbrev cX6_sheet : ByteArray := prog_8_method_68_code
def yX6_sheet : MethodName := ⟨RX6, "sheet", "(III)I"⟩
abbrev cX6_drop : ByteArray := prog_8_method_69_code
def yX6_drop : MethodName := ⟨RX6, "drop", "(I)I"⟩
abbrev cX6_item : ByteArray := prog_8_method_70_code
def yX6_item : MethodName := ⟨RX6, "item", "(IIIJ)I"⟩
abbrev cX6_copy : ByteArray := prog_8_method_71_code
def yX6_copy : MethodName := ⟨RX6, "copy", "(IIIII)I"⟩
def RJ11 : String := "java/lang/Character"
def TJ11 : u_T := fun k => match k with
  | _ => ("", "", "", false)
def tyJ11 : Nat → FieldType := fun k => match k with
  | _ => .int
abbrev cJ11_isValidCodePoint_9a6ad : ByteArray := prog_9_method_11_code
def yJ11_isValidCodePoint_9a6ad : MethodName := ⟨RJ11, "isValidCodePoint", "(I)Z"⟩
abbrev cJ11_highSurrogate_5068e : ByteArray := prog_9_method_28_code
def yJ11_highSurrogate_5068e : MethodName := ⟨RJ11, "highSurrogate", "(I)C"⟩
abbrev cJ11_lowSurrogate_5068e : ByteArray := prog_9_method_29_code
def yJ11_lowSurrogate_5068e : MethodName := ⟨RJ11, "lowSurrogate", "(I)C"⟩
def RJ6 : String := "java/lang/Integer"
def TJ6 : u_T := fun k => match k with
  | _ => ("", "", "", false)
def tyJ6 : Nat → FieldType := fun k => match k with
  | _ => .int
abbrev cJ6_bitCount_0f7a4 : ByteArray := prog_10_method_49_code
def yJ6_bitCount_0f7a4 : MethodName := ⟨RJ6, "bitCount", "(I)I"⟩
def RJ9 : String := "java/lang/Math"
def TJ9 : u_T := fun k => match k with
  | _ => ("", "", "", false)
def tyJ9 : Nat → FieldType := fun k => match k with
  | _ => .int
abbrev cJ9_max_7cf53 : ByteArray := prog_11_method_65_code
def yJ9_max_7cf53 : MethodName := ⟨RJ9, "max", "(II)I"⟩
abbrev cJ9_min_7cf53 : ByteArray := prog_11_method_69_code
def yJ9_min_7cf53 : MethodName := ⟨RJ9, "min", "(II)I"⟩
def RJ0 : String := "java/lang/String"
def TJ0 : u_T := fun k => match k with
  | _ => ("", "", "", false)
def tyJ0 : Nat → FieldType := fun k => match k with
  | _ => .int
abbrev cJ0_length_8abf5 : ByteArray := prog_12_method_54_code
def yJ0_length_8abf5 : MethodName := ⟨RJ0, "length", "()I"⟩
abbrev cJ0_indexOf_0f7a4 : ByteArray := prog_12_method_79_code
def yJ0_indexOf_0f7a4 : MethodName := ⟨RJ0, "indexOf", "(I)I"⟩
abbrev cJ0_indexOf_7cf53 : ByteArray := prog_12_method_80_code
def yJ0_indexOf_7cf53 : MethodName := ⟨RJ0, "indexOf", "(II)I"⟩
abbrev cJ0_coder_7d493 : ByteArray := prog_12_method_152_code
def yJ0_coder_7d493 : MethodName := ⟨RJ0, "coder", "()B"⟩
abbrev cJ0_isLatin1_aae02 : ByteArray := prog_12_method_154_code
def yJ0_isLatin1_aae02 : MethodName := ⟨RJ0, "isLatin1", "()Z"⟩
abbrev cJ0_checkBoundsBeginEnd_23922 : ByteArray := prog_12_method_158_code
def yJ0_checkBoundsBeginEnd_23922 : MethodName := ⟨RJ0, "checkBoundsBeginEnd", "(III)V"⟩
def RJ1 : String := "java/lang/StringLatin1"
def TJ1 : u_T := fun k => match k with
  | _ => ("", "", "", false)
def tyJ1 : Nat → FieldType := fun k => match k with
  | _ => .int
abbrev cJ1_canEncode_9a6ad : ByteArray := prog_13_method_4_code
def yJ1_canEncode_9a6ad : MethodName := ⟨RJ1, "canEncode", "(I)Z"⟩
abbrev cJ1_indexOf_4cfef : ByteArray := prog_13_method_22_code
def yJ1_indexOf_4cfef : MethodName := ⟨RJ1, "indexOf", "([BIII)I"⟩
abbrev cJ1_indexOfChar_4cfef : ByteArray := prog_13_method_23_code
def yJ1_indexOfChar_4cfef : MethodName := ⟨RJ1, "indexOfChar", "([BIII)I"⟩
def RJ2 : String := "java/lang/StringUTF16"
def TJ2 : u_T := fun k => match k with
  | _ => ("", "", "", false)
def tyJ2 : Nat → FieldType := fun k => match k with
  | _ => .int
abbrev cJ2_getChar_3b067 : ByteArray := prog_14_method_5_code
def yJ2_getChar_3b067 : MethodName := ⟨RJ2, "getChar", "([BI)C"⟩
abbrev cJ2_length_9d52b : ByteArray := prog_14_method_6_code
def yJ2_length_9d52b : MethodName := ⟨RJ2, "length", "([B)I"⟩
abbrev cJ2_indexOf_4cfef : ByteArray := prog_14_method_40_code
def yJ2_indexOf_4cfef : MethodName := ⟨RJ2, "indexOf", "([BIII)I"⟩
abbrev cJ2_indexOfChar_4cfef : ByteArray := prog_14_method_47_code
def yJ2_indexOfChar_4cfef : MethodName := ⟨RJ2, "indexOfChar", "([BIII)I"⟩
abbrev cJ2_indexOfCharUnsafe_4cfef : ByteArray := prog_14_method_48_code
def yJ2_indexOfCharUnsafe_4cfef : MethodName := ⟨RJ2, "indexOfCharUnsafe", "([BIII)I"⟩
abbrev cJ2_indexOfSupplementary_4cfef : ByteArray := prog_14_method_49_code
def yJ2_indexOfSupplementary_4cfef : MethodName := ⟨RJ2, "indexOfSupplementary", "([BIII)I"⟩
abbrev cJ2_checkBoundsBeginEnd_d044e : ByteArray := prog_14_method_93_code
def yJ2_checkBoundsBeginEnd_d044e : MethodName := ⟨RJ2, "checkBoundsBeginEnd", "(II[B)V"⟩
def RJ10 : String := "java/lang/System"
def TJ10 : u_T := fun k => match k with
  | _ => ("", "", "", false)
def tyJ10 : Nat → FieldType := fun k => match k with
  | _ => .int
def RJ3 : String := "jdk/internal/util/Preconditions"
def TJ3 : u_T := fun k => match k with
  | _ => ("", "", "", false)
def tyJ3 : Nat → FieldType := fun k => match k with
  | _ => .int
abbrev cJ3_checkFromToIndex_8c36e : ByteArray := prog_16_method_12_code
def yJ3_checkFromToIndex_8c36e : MethodName := ⟨RJ3, "checkFromToIndex", "(IIILjava/util/function/BiFunction;)I"⟩
def RL : String := "NoonSawsLaw"
abbrev cL_law : ByteArray := code
def yL_law : MethodName := ⟨RL, "law", "([I)Z"⟩

abbrev vwCl : List vw_C := [(RX0, TX0, 11), (RX1, TX1, 3), (RX2, TX2, 8), (RX3, TX3, 3), (RX4, TX4, 3), (RX5, TX5, 10), (RX6, TX6, 16)]
end
section
/-! ===== the layer: ints are Ints, cells are (kind, number), a store is one function; what a method does is said of these alone ===== -/
abbrev nv_AV : Type := Int ⊕ ((Nat × Nat) ⊕ Int)
abbrev nv_LV : Type := List (Nat × nv_AV)
abbrev nv_St : Type := Nat → Nat → Nat → Int
abbrev nv_PT : Type := Option nv_AV → nv_St → Prop
abbrev nv_K : Type := Nat → nv_LV → List nv_AV → nv_St → Prop
abbrev nv_Sem : Type := nv_LV → List nv_AV → nv_St → nv_PT → nv_K → Prop
abbrev vi (z : Int) : nv_AV := Sum.inl z
abbrev vr (t i : Nat) : nv_AV := Sum.inr (Sum.inl (t, i))
abbrev vl (z : Int) : nv_AV := Sum.inr (Sum.inr z)
def nv_cat : nv_AV → Nat := fun v => match v with
  | .inl _ => 1
  | .inr (.inl _) => 1
  | .inr (.inr _) => 2
abbrev nv_X : Type := va_G × (Nat → Nat → Nat) × (Nat → ClassId)
def nv_tr (X : nv_X) : nv_AV → Value := fun v => match v with
  | .inl z => .int (Int32.ofInt z)
  | .inr (.inl r) => .ref (X.2.1 r.1 r.2)
  | .inr (.inr z) => .long (Int64.ofInt z)
theorem nv_tr_cat (X : nv_X) (v : nv_AV) : (nv_tr X v).category = nv_cat v := by
  rcases v with z | r | z <;> rfl
abbrev nv_InR (z : Int) : Prop := -2147483648 ≤ z ∧ z < 2147483648
abbrev nv_InL (z : Int) : Prop := -9223372036854775808 ≤ z ∧ z < 9223372036854775808
/-! the shape: which kinds of cells there are, how many of each, what they hold -/
def nv_cnt : Nat → Nat := fun t => if t < 8 then 21 else if t < 13 then 2 else if t < 16 then 1 else if t < 18 then 4 else if t < 30 then 1 else 0
def nv_cells : List (Nat × Nat) := (List.range 30).flatMap (fun t => (List.range (nv_cnt t)).map (fun i => (t, i)))
theorem nv_mem {t i : Nat} : (t, i) ∈ nv_cells ↔ t < 30 ∧ i < nv_cnt t := by
  simp [nv_cells]
theorem nv_nd : nv_cells.Nodup := by decide +kernel
/-- the class of a kind of objects -/
def nv_tcl : Nat → Option Nat := fun t => match t with
  | 0 => some 0
  | 8 => some 2
  | 11 => some 1
  | 13 => some 4
  | 16 => some 3
  | 18 => some 5
  | 19 => some 6
  | _ => none
def nv_nf : Nat → Nat := fun ci => match ci with
  | 0 => 11
  | 1 => 3
  | 2 => 8
  | 3 => 3
  | 4 => 3
  | 5 => 10
  | _ => 16
/-- a field that holds a reference: which -/
def nv_rf : Nat → Nat → Nat → Option (Nat × Nat) := fun t k i => match t with
  | 0 => (match k with | 4 => some (1, i) | 5 => some (2, i) | 6 => some (3, i) | 7 => some (4, i) | 8 => some (5, i) | 9 => some (6, i) | 10 => some (7, i) | _ => none)
  | 8 => (match k with | 0 => some (0, 19 + i) | 1 => some (9, i) | 2 => some (10, i) | _ => none)
  | 11 => (match k with | 0 => some (12, i) | _ => none)
  | 13 => (match k with | 0 => some (14, 0) | _ => none)
  | 16 => (match k with | 0 => some (17, i) | _ => none)
  | 18 => (match k with | 0 => some (0, 0) | 1 => some (11, 0) | 2 => some (0, 2) | 3 => some (11, 1) | 5 => some (0, 1) | 6 => some (8, 0) | 7 => some (8, 1) | 8 => some (13, 0) | 9 => some (15, 0) | _ => none)
  | 19 => (match k with | 0 => some (20, 0) | 1 => some (21, 0) | 2 => some (22, 0) | 4 => some (23, 0) | 7 => some (24, 0) | 8 => some (25, 0) | 9 => some (26, 0) | 10 => some (27, 0) | 12 => some (28, 0) | 13 => some (29, 0) | _ => none)
  | _ => none
/-- a kind of arrays: what they hold (0 ints, 1 longs, 2 chars, 3 noons, 4 sheets), how many -/
def nv_tar : Nat → Nat × Nat := fun t => match t with
  | 12 => (3, 8)
  | 14 => (2, 80)
  | 15 => (4, 4)
  | 17 => (1, 24)
  | 20 => (0, 4)
  | 21 => (0, 4)
  | 22 => (1, 96)
  | 23 => (0, 80)
  | 24 => (0, 171)
  | 25 => (0, 171)
  | 26 => (0, 171)
  | 27 => (0, 171)
  | 30 => (9, 0)
  | _ => (0, 5)
def nv_re : Nat → Nat → Nat → Nat × Nat := fun t i q => match t with
  | 12 => (0, 3 + 8 * i + q)
  | _ => (16, q)
def nv_fv (X : nv_X) (h : nv_St) (t i k : Nat) : Value := match nv_rf t k i with
  | some r => .ref (X.2.1 r.1 r.2)
  | none => .int (Int32.ofInt (h t i k))
def nv_fs (X : nv_X) (h : nv_St) (ci t i : Nat) : List Value := (List.range (nv_nf ci)).map (nv_fv X h t i)
def nv_arr (X : nv_X) (h : nv_St) (t i : Nat) : va_E := match nv_tar t with
  | (1, n) => .inl (X.2.2 1, n, .inr (.inl fun j => Int64.ofInt (h t i j)))
  | (3, n) => .inl (X.2.2 3, n, .inr (.inr (.inr (.inr fun j => some (X.2.1 (nv_re t i j).1 (nv_re t i j).2)))))
  | (4, n) => .inl (X.2.2 4, n, .inr (.inr (.inr (.inr fun j => some (X.2.1 (nv_re t i j).1 (nv_re t i j).2)))))
  | (2, n) => .inl (X.2.2 2, n, .inl fun j => Int32.ofInt (h t i j))
  | (_, n) => .inl (X.2.2 0, n, .inl fun j => Int32.ofInt (h t i j))
def nv_cell (X : nv_X) (h : nv_St) (t i : Nat) : va_E := match nv_tcl t with
  | some ci => .inr (ci, nv_fs X h ci t i)
  | none => nv_arr X h t i
def nv_ws (X : nv_X) (h : nv_St) : va_W := nv_cells.map (fun c => (X.2.1 c.1 c.2, nv_cell X h c.1 c.2))
def nv_tys (X : nv_X) : List (ClassId × FieldType) := [(X.2.2 0, .int), (X.2.2 1, .long), (X.2.2 2, .char), (X.2.2 3, .object RX0), (X.2.2 4, .object RX3)]
def nv_A (X : nv_X) : Nat → Prop := fun q => ∃ c ∈ nv_cells, q = X.2.1 c.1 c.2
theorem nv_at {X : nv_X} {t i : Nat} (hc : (t, i) ∈ nv_cells) : ∃ q : Nat, nv_cells[q]? = some (t, i) ∧ ∀ h, (nv_ws X h)[q]? = some (X.2.1 t i, nv_cell X h t i) := by
  obtain ⟨q, hq⟩ := List.getElem?_of_mem hc
  exact ⟨q, hq, fun h => by simp [nv_ws, hq]⟩
theorem nv_set {X : nv_X} {h h' : nv_St} {q t i : Nat} {e : va_E} (hq : nv_cells[q]? = some (t, i)) (he : nv_cell X h' t i = e) (ho : ∀ t' i', (t', i') ≠ (t, i) → nv_cell X h' t' i' = nv_cell X h t' i') :
    (nv_ws X h).set q (X.2.1 t i, e) = nv_ws X h' := by
  apply List.ext_getElem?
  intro j
  rw [List.getElem?_set]
  by_cases hj : q = j
  · subst hj
    obtain ⟨hl, e1⟩ := List.getElem?_eq_some_iff.mp hq
    simp [nv_ws, he, hl, e1]
  · simp only [hj, if_false, nv_ws, List.getElem?_map]
    cases hc : nv_cells[j]? with
    | none => rfl
    | some c =>
      obtain ⟨t', i'⟩ := c
      have hne : (t', i') ≠ (t, i) := by
        intro heq
        rw [heq] at hc
        exact hj ((List.getElem?_inj (List.getElem?_eq_some_iff.mp hq).1 nv_nd).mp (hq.trans hc.symm))
      simp [ho t' i' hne]
def nv_up (h : nv_St) (t i j : Nat) (x : Int) : nv_St := fun t' i' j' => if t' = t ∧ i' = i ∧ j' = j then x else h t' i' j'
def nv_row (h : nv_St) (t i : Nat) (f : Nat → Int) : nv_St := fun t' i' j' => if t' = t ∧ i' = i then f j' else h t' i' j'
theorem nv_up_same (h : nv_St) (t i j : Nat) (x : Int) : nv_up h t i j x t i j = x := by simp [nv_up]
theorem nv_cell_other {X : nv_X} {h h' : nv_St} {t i : Nat} (hh : h' t i = h t i) : nv_cell X h' t i = nv_cell X h t i := by
  have : ∀ j, h' t i j = h t i j := fun j => congrFun hh j
  unfold nv_cell nv_fs nv_arr nv_fv
  simp only [this]
theorem nv_row_other {h : nv_St} {t i t' i' : Nat} {f : Nat → Int} (hn : (t', i') ≠ (t, i)) : nv_row h t i f t' i' = h t' i' := by
  funext j
  simp only [nv_row]
  rw [if_neg]
  rintro ⟨rfl, rfl⟩
  exact hn rfl
theorem nv_up_row (h : nv_St) (t i j : Nat) (x : Int) : nv_up h t i j x = nv_row h t i (fun k => if k = j then x else h t i k) := by
  funext t' i' j'
  simp only [nv_up, nv_row]
  by_cases h1 : t' = t ∧ i' = i
  · obtain ⟨rfl, rfl⟩ := h1
    by_cases h2 : j' = j <;> simp [h2]
  · rw [if_neg h1, if_neg]
    rintro ⟨a, b, -⟩
    exact h1 ⟨a, b⟩
theorem nv_set_row {X : nv_X} {h : nv_St} {q t i : Nat} {f : Nat → Int} (hq : nv_cells[q]? = some (t, i)) : (nv_ws X h).set q (X.2.1 t i, nv_cell X (nv_row h t i f) t i) = nv_ws X (nv_row h t i f) :=
  nv_set hq rfl (fun _ _ hn => nv_cell_other (nv_row_other hn))
/-! the words -/
def nv_T : List Cond := lw_tbl.filter goodWord
theorem nv_in {w : Cond} (h : w ∈ lw_tbl) (hg : goodWord w = true) : w ∈ nv_T := List.mem_filter.mpr ⟨h, hg⟩
abbrev nv_MD : Type := String × MethodName × ByteArray × Nat × Option FieldType × Nat × Nat
abbrev nv_own (M : nv_MD) : String := M.1
abbrev nv_y (M : nv_MD) : MethodName := M.2.1
abbrev nv_c (M : nv_MD) : ByteArray := M.2.2.1
abbrev nv_mL (M : nv_MD) : Nat := M.2.2.2.1
abbrev nv_ret (M : nv_MD) : Option FieldType := M.2.2.2.2.1
def nv_rm (M : nv_MD) : Room := { frames := M.2.2.2.2.2.1, cells := 0, slots := 0, locals := M.2.2.2.2.2.2 }
def nv_W (M : nv_MD) : List Cond := Cond.code (nv_y M) (nv_c M) (nv_mL M) (nv_ret M) :: nv_T
theorem nv_good {M : nv_MD} (h : Cond.code (nv_y M) (nv_c M) (nv_mL M) (nv_ret M) ∈ lw_tbl) : GoodIn nv_T (nv_W M) := by
  intro w hw
  rcases List.mem_cons.mp hw with rfl | hw
  · exact ⟨nv_in h rfl, good_of_word rfl⟩
  · exact ⟨hw, good_of_word (List.mem_filter.mp hw).2⟩
/-! what is known of the machine's tables, and of the one String -/
def nv_n1 : Cond := .methodLinkNest "NoonSaws$Tape" 80 ⟨"NoonSaws", "outside", "(III)Z"⟩ "NoonSaws"
def nv_n2 : Cond := .methodLinkNest "NoonSaws$Search" 59 ⟨"NoonSaws", "power", "(II)I"⟩ "NoonSaws"
def nv_KK (X : nv_X) (U : State) : Prop :=
  va_K X.1 vwCl (nv_tys X) U ∧ va_Nw nv_n1 U ∧ va_Nw nv_n2 U ∧ vk_R "NoonSaws$Tape" 63 "poghs" (X.2.1 30 0) U ∧
  vk_S 1 [5] [[112, 111, 103, 104, 115]] (fun _ => X.2.1 30 0) (fun _ => X.2.1 31 0) (nv_A X) U U.heap ∧ va_Z "java/lang/String" "COMPACT_STRINGS" "Z" (.int 1) (nv_A X) U U.heap
theorem nv_KK.calling {X : nv_X} {U : State} (h : nv_KK X U) (g : JFrame) (mk : MethodId) (a : Array Value) : nv_KK X (U.calling g mk a) := by
  obtain ⟨h1, h2, h3, h4, h5, h6⟩ := h
  exact ⟨va_K.moved (u := U) (U := U.calling g mk a) (Vm.Alike.refl U.vm) h1, va_Nw.same rfl (u := U) (U := U.calling g mk a) rfl h2, va_Nw.same rfl (u := U) (U := U.calling g mk a) rfl h3, vk_R.same (u := U) (U := U.calling g mk a) rfl h4,
    vk_S.moved (u := U) (U := U.calling g mk a) (Vm.Alike.refl U.vm) h5, va_Z.moved (u := U) (U := U.calling g mk a) (Vm.Alike.refl U.vm) h6⟩
theorem nv_KK.go {X : nv_X} {s U : State} {H : Heap} {locs : List Loc} (h : nv_KK X s) (hS : va_S (nv_A X) s.heap H locs) (hU : U.heap = H) (hW : s.WarmedH U.vm) : nv_KK X U := by
  obtain ⟨h1, h2, h3, h4, h5, h6⟩ := h
  refine ⟨va_K.moved hW.alike h1, va_Nw.warmM hW h2, va_Nw.warmM hW h3, vk_R.warm hW h4, ?_, ?_⟩
  · rw [hU]; exact vk_S.moved hW.alike (h5.kept hS.2.1)
  · rw [hU]; exact va_Z.moved hW.alike (h6.kept hS.2.1)
/-! the judgement inside a method, and what a method does -/
def nv_ok : nv_AV → Prop := fun v => match v with
  | .inr (.inl r) => r ∈ nv_cells ∨ r = (30, 0)
  | _ => True
def nv_Qc (X : nv_X) (Q : nv_PT) : Array Value → State → Outcome → State → Prop := fun _ st oc t =>
  (∃ (r : Option nv_AV) (h' : nv_St), oc = .returned (r.map (nv_tr X)) ∧ (∀ v, r = some v → nv_ok v) ∧ Q r h' ∧ va_P X.1 vwCl (nv_ws X h') t.heap ∧ va_D (nv_A X) (nv_ws X h')) ∧ va_F (nv_A X) st t
def nv_C (M : nv_MD) (X : nv_X) (p : Program) (s : State) (m : MethodId) (args : Array Value) (meth : Method) (c : Code) : Prop :=
  p.tables.exec = Jvm.exec ∧ c.code = nv_c M ∧ meth.sig.returnType = nv_ret M ∧ c.maxLocals = nv_mL M ∧ meth.locks = false ∧ s.vm.findClass (nv_own M) = some m.cls ∧ (∀ w ∈ nv_T, w.before args s = true) ∧ nv_KK X s
abbrev nv_trL (X : nv_X) (lv : nv_LV) : List (Nat × Value) := lv.map (fun q => (q.1, nv_tr X q.2))
def nv_V (M : nv_MD) (pc : Nat) (lv : nv_LV) (stk : List nv_AV) (h : nv_St) (Q : nv_PT) : Prop :=
  ∀ (X : nv_X) (p : Program) (l : Launch) (e : Env) (s : State) (m : MethodId) (args : Array Value) (below : List Frame) (meth : Method) (c : Code) (H : Heap) (locs : List Loc) (ls : Array Slot),
    nv_C M X p s m args meth c → va_P X.1 vwCl (nv_ws X h) H → va_D (nv_A X) (nv_ws X h) → va_S (nv_A X) s.heap H locs → lv_has ls (nv_mL M) (nv_trL X lv) → (∀ q ∈ lv, nv_ok q.2) → (∀ v ∈ stk, nv_ok v) →
    W p l e (nv_rm M) s m args below meth c H locs 0 0 (MQ below (nv_Qc X Q) args s 0 0 (nv_A X)) (F0 m pc ls (stk.map (nv_tr X)))
def nv_R (M : nv_MD) (av : List nv_AV) (h : nv_St) (Q : nv_PT) : Prop :=
  ∀ (l : Launch) (X : nv_X), (∀ v ∈ av, nv_ok v) → Met l (nv_y M) (nv_W M) (nv_rm M) (va_Pc (av.map (nv_tr X)) (fun U => va_P X.1 vwCl (nv_ws X h) U.heap ∧ va_D (nv_A X) (nv_ws X h) ∧ nv_KK X U)) (nv_Qc X Q) 0 0 (nv_A X)
def nv_lva : Nat → List nv_AV → nv_LV
  | _, [] => []
  | i, v :: vs => (i, v) :: nv_lva (i + nv_cat v) vs
def nv_len : List nv_AV → Nat
  | [] => 0
  | v :: vs => nv_cat v + nv_len vs
theorem nv_lva_tr (X : nv_X) : ∀ (av : List nv_AV) (i : Nat), lv_args i (av.map (nv_tr X)) = nv_trL X (nv_lva i av)
  | [], _ => rfl
  | v :: vs, i => by
    have h := nv_lva_tr X vs
    rcases v with z | r | z
    · exact congrArg (List.cons _) (h (i + 1))
    · exact congrArg (List.cons _) (h (i + 1))
    · exact congrArg (List.cons _) (h (i + 2))
theorem nv_len_tr (X : nv_X) : ∀ (av : List nv_AV), (lg_sl (av.map (nv_tr X))).length = nv_len av
  | [] => rfl
  | v :: vs => by
    have h := nv_len_tr X vs
    simp only [lg_sl, List.map_cons, List.flatMap_cons, List.length_append] at h ⊢
    rw [h, nv_len]
    rcases v with z | r | z <;> simp [nv_tr, Value.category, nv_cat]
theorem nv_lva_mem : ∀ (av : List nv_AV) (i : Nat) (q : Nat × nv_AV), q ∈ nv_lva i av → q.2 ∈ av
  | [], _, q, h => by simp [nv_lva] at h
  | v :: vs, i, q, h => by
    rcases List.mem_cons.mp h with rfl | h
    · exact List.mem_cons_self
    · exact List.mem_cons_of_mem _ (nv_lva_mem vs _ q h)
theorem nv_R.of {M : nv_MD} {av : List nv_AV} {h : nv_St} {Q : nv_PT} (hpl : plainName (nv_y M).cls = true) (hcl : (nv_y M).cls = nv_own M) (hlen : nv_len av ≤ nv_mL M) (hV : nv_V M 0 (nv_lva 0 av) [] h Q) : nv_R M av h Q := by
  intro l X hok
  refine Met.ofW (cc := nv_c M) (maxL := nv_mL M) (ret := nv_ret M) hpl rfl ?_
  intro p e s m args below meth c s₁ B hml hv
  obtain ⟨rfl, hP, hD, hK⟩ := hv
  have hts := atoms_spec (ws := nv_W M) B.pre
  have hown : s.vm.findClass (nv_own M) = some m.cls := by rw [← hcl]; exact findClass_of_methodNamed B.named
  have hl := lv_entry (av.map (nv_tr X)) (n := nv_mL M) (by rw [nv_len_tr]; exact hlen)
  rw [lg_entry_eq]
  rw [nv_lva_tr] at hl
  exact hV X p l e s m _ below meth c s.heap [] _ ⟨B.exec, B.bytes, B.returns, hml, B.notSynchronized, hown, fun w hw => hts w (List.mem_cons_of_mem _ hw), hK⟩ hP hD va_S.rf hl (fun q hq => hok _ (nv_lva_mem av 0 q hq)) (fun v hv => by cases hv)
/-! a program: at each place what the instruction there means -/
def nv_Snd (M : nv_MD) (pc : Nat) (f : nv_Sem) : Prop := ∀ (lv : nv_LV) (stk : List nv_AV) (h : nv_St) (Q : nv_PT) (K : nv_K), (∀ pc' lv' stk' h', K pc' lv' stk' h' → nv_V M pc' lv' stk' h' Q) → f lv stk h Q K → nv_V M pc lv stk h Q
abbrev nv_Pg : Type := List (Nat × nv_Sem)
def nv_no : nv_Sem := fun _ _ _ _ _ => False
def nv_lk : nv_Pg → Nat → nv_Sem
  | [], _ => nv_no
  | q :: r, pc => match Nat.beq q.1 pc with
    | true => q.2
    | false => nv_lk r pc
def nv_el : List Nat → Nat → Bool
  | [], _ => false
  | q :: r, pc => match Nat.beq q pc with
    | true => true
    | false => nv_el r pc
def nv_wp (M : nv_MD) (P : nv_Pg) (stops : List Nat) (Q : nv_PT) : Nat → nv_K
  | 0, pc, lv, stk, h => nv_V M pc lv stk h Q
  | n + 1, pc, lv, stk, h => nv_lk P pc lv stk h Q (fun pc' lv' stk' h' => match nv_el stops pc' with
    | true => nv_V M pc' lv' stk' h' Q
    | false => nv_wp M P stops Q n pc' lv' stk' h')
def nv_ok_P (M : nv_MD) (P : nv_Pg) : Prop := ∀ q ∈ P, nv_Snd M q.1 q.2
theorem nv_lk_ok {M : nv_MD} : ∀ {P : nv_Pg}, nv_ok_P M P → ∀ pc, nv_Snd M pc (nv_lk P pc)
  | [], _, _ => fun _ _ _ _ _ _ hf => hf.elim
  | q :: r, hP, pc => by
    unfold nv_lk
    split
    · next hb =>
      have e : q.1 = pc := Nat.eq_of_beq_eq_true hb
      subst e
      exact hP q List.mem_cons_self
    · exact nv_lk_ok (fun x hx => hP x (List.mem_cons_of_mem _ hx)) pc
theorem nv_go {M : nv_MD} {P : nv_Pg} (hP : nv_ok_P M P) (stops : List Nat) {Q : nv_PT} : ∀ (n : Nat) {pc : Nat} {lv : nv_LV} {stk : List nv_AV} {h : nv_St}, nv_wp M P stops Q n pc lv stk h → nv_V M pc lv stk h Q
  | 0, _, _, _, _, hw => hw
  | n + 1, pc, lv, stk, h, hw => by
    refine nv_lk_ok hP pc lv stk h Q _ ?_ hw
    intro pc' lv' stk' h' hk
    split at hk
    · exact hk
    · exact nv_go hP stops n hk
theorem nv_V.eq {M : nv_MD} {pc : Nat} {lv lv' : nv_LV} {stk stk' : List nv_AV} {h h' : nv_St} {Q : nv_PT} (e1 : lv = lv') (e2 : stk = stk') (e3 : h = h') (k : nv_V M pc lv' stk' h' Q) : nv_V M pc lv stk h Q := by
  subst e1; subst e2; subst e3; exact k
/-- a contract's end may be weakened -/
theorem nv_V.post {M : nv_MD} {pc : Nat} {lv : nv_LV} {stk : List nv_AV} {h : nv_St} {Q Q' : nv_PT} (k : nv_V M pc lv stk h Q) (hq : ∀ r h', Q r h' → Q' r h') : nv_V M pc lv stk h Q' := by
  intro X p l e s m args below meth c H locs ls C hP hD hS hl ho hk T hT Y
  obtain ⟨t, a1, o, b1, b2, ⟨⟨r, h', c1, c2, c3, c4⟩, c5⟩, b4⟩ := k X p l e s m args below meth c H locs ls C hP hD hS hl ho hk T hT Y
  exact ⟨t, a1, o, b1, b2, ⟨⟨r, h', c1, c2, hq r h' c3, c4⟩, c5⟩, b4⟩
end
section
/-! ===== the instructions: what each means in the layer, and that it does ===== -/
theorem nv_toInt {z : Int} (h : nv_InR z) : (Int32.ofInt z).toInt = z := Int32.toInt_ofInt_of_le (by have := h.1; omega) (by have := h.2; omega)
theorem nv_toIntL {z : Int} (h : nv_InL z) : (Int64.ofInt z).toInt = z := Int64.toInt_ofInt_of_le (by have := h.1; omega) (by have := h.2; omega)
theorem nv_eqR {a b : Int} (ha : nv_InR a) (hb : nv_InR b) : Int32.ofInt a = Int32.ofInt b ↔ a = b := by
  rw [← Int32.toInt_inj, nv_toInt ha, nv_toInt hb]
theorem nv_ltR {a b : Int} (ha : nv_InR a) (hb : nv_InR b) : Int32.ofInt a < Int32.ofInt b ↔ a < b := by
  rw [Int32.lt_iff_toInt_lt, nv_toInt ha, nv_toInt hb]
theorem nv_leR {a b : Int} (ha : nv_InR a) (hb : nv_InR b) : Int32.ofInt a ≤ Int32.ofInt b ↔ a ≤ b := by
  rw [Int32.le_iff_toInt_le, nv_toInt ha, nv_toInt hb]
theorem nv_0R : nv_InR 0 := ⟨by decide, by decide⟩
theorem nv_ofNat (n : Nat) : Int32.ofInt (n : Int) = nI n := Int32.ofInt_eq_ofNat
theorem nv_vin {n : Nat} {q : Nat} (h : q < n) (hn : n < 2 ^ 31) : vp_in (Int32.ofInt (q : Int)) n := by
  rw [nv_ofNat]; exact vp_in_nI h hn
theorem nv_clamp {q : Nat} (h : q < 2 ^ 31) : (Int32.ofInt (q : Int)).toNatClampNeg = q := by
  rw [nv_ofNat]; exact nI_clamp h
/-! locals -/
def nv_lg : nv_LV → Nat → Option nv_AV
  | [], _ => none
  | q :: r, i => match Nat.beq q.1 i with
    | true => some q.2
    | false => nv_lg r i
theorem nv_lg_mem : ∀ {lv : nv_LV} {i : Nat} {v : nv_AV}, nv_lg lv i = some v → (i, v) ∈ lv
  | [], _, _, h => by simp [nv_lg] at h
  | q :: r, i, v, h => by
    unfold nv_lg at h
    split at h
    · next hb =>
      have e : q.1 = i := Nat.eq_of_beq_eq_true hb
      cases h
      subst e
      exact List.mem_cons_self
    · exact List.mem_cons_of_mem _ (nv_lg_mem h)
/-- a local is set: the list stays in order -/
def nv_li : nv_LV → Nat → nv_AV → nv_LV
  | [], i, v => [(i, v)]
  | q :: r, i, v => match Nat.ble i q.1 with
    | true => (i, v) :: q :: r
    | false => q :: nv_li r i v
def nv_lr : nv_LV → Nat → nv_LV
  | [], _ => []
  | q :: r, i => match Nat.beq q.1 i with
    | true => nv_lr r i
    | false => match Nat.beq (q.1 + 1) i with
      | true => (match q.2 with
        | .inr (.inr _) => nv_lr r i
        | .inl z => (q.1, .inl z) :: nv_lr r i
        | .inr (.inl z) => (q.1, .inr (.inl z)) :: nv_lr r i)
      | false => q :: nv_lr r i
def nv_ls (lv : nv_LV) (i : Nat) (v : nv_AV) : nv_LV := nv_li (nv_lr lv i) i v
theorem nv_li_mem : ∀ {lv : nv_LV} {i : Nat} {v : nv_AV} {q : Nat × nv_AV}, q ∈ nv_li lv i v → q = (i, v) ∨ q ∈ lv
  | [], _, _, _, h => by simpa [nv_li] using h
  | x :: r, i, v, q, h => by
    unfold nv_li at h
    split at h
    · rcases List.mem_cons.mp h with h | h
      · exact Or.inl h
      · exact Or.inr h
    · rcases List.mem_cons.mp h with h | h
      · exact Or.inr (by rw [h]; exact List.mem_cons_self)
      · rcases nv_li_mem h with h | h
        · exact Or.inl h
        · exact Or.inr (List.mem_cons_of_mem _ h)
theorem nv_lr_mem : ∀ {lv : nv_LV} {i : Nat} {q : Nat × nv_AV}, q ∈ nv_lr lv i → q ∈ lv ∧ q.1 ≠ i ∧ ¬ (q.1 + 1 = i ∧ nv_cat q.2 = 2)
  | [], _, _, h => by simp [nv_lr] at h
  | x :: r, i, q, h => by
    unfold nv_lr at h
    split at h
    · obtain ⟨a, b, c⟩ := nv_lr_mem h
      exact ⟨List.mem_cons_of_mem _ a, b, c⟩
    · next hb =>
      have hb : x.1 ≠ i := Nat.ne_of_beq_eq_false hb
      split at h
      · next hb2 =>
        obtain ⟨x1, z | z | z⟩ := x
        · rcases List.mem_cons.mp h with h | h
          · subst h
            exact ⟨List.mem_cons_self, hb, fun c => by simp [nv_cat] at c⟩
          · obtain ⟨a, b, c⟩ := nv_lr_mem h
            exact ⟨List.mem_cons_of_mem _ a, b, c⟩
        · rcases List.mem_cons.mp h with h | h
          · subst h
            exact ⟨List.mem_cons_self, hb, fun c => by simp [nv_cat] at c⟩
          · obtain ⟨a, b, c⟩ := nv_lr_mem h
            exact ⟨List.mem_cons_of_mem _ a, b, c⟩
        · obtain ⟨a, b, c⟩ := nv_lr_mem h
          exact ⟨List.mem_cons_of_mem _ a, b, c⟩
      · next hb2 =>
        have hb2 : x.1 + 1 ≠ i := Nat.ne_of_beq_eq_false hb2
        rcases List.mem_cons.mp h with h | h
        · subst h
          exact ⟨List.mem_cons_self, hb, fun c => hb2 c.1⟩
        · obtain ⟨a, b, c⟩ := nv_lr_mem h
          exact ⟨List.mem_cons_of_mem _ a, b, c⟩
theorem nv_ls_has {X : nv_X} {lv : nv_LV} {i n : Nat} {v : nv_AV} {ls' : Array Slot} (h : lv_has ls' n ((i, nv_tr X v) :: (nv_trL X lv).filter (fun q => !(q.1 == i) && !(q.1 + 1 == i && q.2.category == 2)))) : lv_has ls' n (nv_trL X (nv_ls lv i v)) := by
  refine ⟨h.1, h.2.1, fun q hq => h.2.2 q ?_⟩
  obtain ⟨y, hy, rfl⟩ := List.mem_map.mp hq
  rcases nv_li_mem hy with rfl | hy
  · exact List.mem_cons_self
  · obtain ⟨a, b, c⟩ := nv_lr_mem hy
    refine List.mem_cons_of_mem _ (List.mem_filter.mpr ⟨List.mem_map.mpr ⟨y, a, rfl⟩, ?_⟩)
    simp only [nv_tr_cat]
    simp only [Bool.and_eq_true, Bool.not_eq_true', beq_eq_false_iff_ne, ne_eq, Bool.and_eq_false_iff]
    refine ⟨b, ?_⟩
    by_cases h1 : y.1 + 1 = i
    · exact Or.inr (fun h2 => c ⟨h1, h2⟩)
    · exact Or.inl h1
theorem nv_ls_ok {lv : nv_LV} {i : Nat} {v : nv_AV} (hv : nv_ok v) (h : ∀ q ∈ lv, nv_ok q.2) : ∀ q ∈ nv_ls lv i v, nv_ok q.2 := by
  intro q hq
  rcases nv_li_mem hq with rfl | hq
  · exact hv
  · exact h q (nv_lr_mem hq).1
theorem nv_lg_at {X : nv_X} {lv : nv_LV} {i n : Nat} {v : nv_AV} {ls : Array Slot} (h : lv_has ls n (nv_trL X lv)) (hv : nv_lg lv i = some v) : ls[i]? = some (.val (nv_tr X v)) :=
  h.2.2 (i, nv_tr X v) (List.mem_map.mpr ⟨(i, v), nv_lg_mem hv, rfl⟩)
section nvIns
variable {M : nv_MD} {pc : Nat}
def s_ki (z : Int) (nx : Nat) : nv_Sem := fun lv stk h _ K => K nx lv (vi z :: stk) h
def s_kl (z : Int) (nx : Nat) : nv_Sem := fun lv stk h _ K => K nx lv (vl z :: stk) h
theorem n_iconst {z : Int} (hd : decode (nv_c M) pc = .ok (.iconst z, 1)) : nv_Snd M pc (s_ki z (pc + 1)) := by
  intro lv stk h Q K hK hf X p l e s m args below meth c H locs ls C hP hD hS hl ho hk
  exact lv_iconst C.1 C.2.1 hd rfl (hK _ _ _ _ hf X p l e s m args below meth c H locs ls C hP hD hS hl ho (List.forall_mem_cons.mpr ⟨trivial, hk⟩))
theorem n_bipush {z : Int} (hd : decode (nv_c M) pc = .ok (.bipush z, 2)) (hz : (Int8.ofInt z).toInt32 = Int32.ofInt z) : nv_Snd M pc (s_ki z (pc + 2)) := by
  intro lv stk h Q K hK hf X p l e s m args below meth c H locs ls C hP hD hS hl ho hk
  exact lv_bipush C.1 C.2.1 hd hz (hK _ _ _ _ hf X p l e s m args below meth c H locs ls C hP hD hS hl ho (List.forall_mem_cons.mpr ⟨trivial, hk⟩))
theorem n_sipush {z : Int} (hd : decode (nv_c M) pc = .ok (.sipush z, 3)) (hz : (Int16.ofInt z).toInt32 = Int32.ofInt z) : nv_Snd M pc (s_ki z (pc + 3)) := by
  intro lv stk h Q K hK hf X p l e s m args below meth c H locs ls C hP hD hS hl ho hk
  exact lv_sipush C.1 C.2.1 hd hz (hK _ _ _ _ hf X p l e s m args below meth c H locs ls C hP hD hS hl ho (List.forall_mem_cons.mpr ⟨trivial, hk⟩))
theorem n_lconst {z : Fin 2} {v : Int} (hd : decode (nv_c M) pc = .ok (.lconst z, 1)) (hv : Int64.ofNat (z : Nat) = Int64.ofInt v) : nv_Snd M pc (s_kl v (pc + 1)) := by
  intro lv stk h Q K hK hf X p l e s m args below meth c H locs ls C hP hD hS hl ho hk
  exact lv_lconst C.1 C.2.1 hd hv (hK _ _ _ _ hf X p l e s m args below meth c H locs ls C hP hD hS hl ho (List.forall_mem_cons.mpr ⟨trivial, hk⟩))
theorem n_ldc {i : Nat} {z : Int} (hd : decode (nv_c M) pc = .ok (.ldc i, 2)) (hw : Cond.constant (nv_own M) i (Int32.ofInt z) ∈ lw_tbl) : nv_Snd M pc (s_ki z (pc + 2)) := by
  intro lv stk h Q K hK hf X p l e s m args below meth c H locs ls C hP hD hS hl ho hk
  exact lv_ldc C.1 C.2.1 C.2.2.2.2.2.1 (C.2.2.2.2.2.2.1 _ (nv_in hw rfl)) hd (hK _ _ _ _ hf X p l e s m args below meth c H locs ls C hP hD hS hl ho (List.forall_mem_cons.mpr ⟨trivial, hk⟩))
theorem n_ldc2 {i : Nat} {z : Int} (hd : decode (nv_c M) pc = .ok (.ldc2_w i, 3)) (hw : Cond.constantLong (nv_own M) i (Int64.ofInt z) ∈ lw_tbl) : nv_Snd M pc (s_kl z (pc + 3)) := by
  intro lv stk h Q K hK hf X p l e s m args below meth c H locs ls C hP hD hS hl ho hk
  exact lv_ldc2 C.1 C.2.1 C.2.2.2.2.2.1 (C.2.2.2.2.2.2.1 _ (nv_in hw rfl)) hd (hK _ _ _ _ hf X p l e s m args below meth c H locs ls C hP hD hS hl ho (List.forall_mem_cons.mpr ⟨trivial, hk⟩))
def s_il (i nx : Nat) : nv_Sem := fun lv stk h _ K => match nv_lg lv i with
  | some (.inl z) => K nx lv (.inl z :: stk) h
  | _ => False
def s_al (i nx : Nat) : nv_Sem := fun lv stk h _ K => match nv_lg lv i with
  | some (.inr (.inl z)) => K nx lv (.inr (.inl z) :: stk) h
  | _ => False
def s_ll (i nx : Nat) : nv_Sem := fun lv stk h _ K => match nv_lg lv i with
  | some (.inr (.inr z)) => K nx lv (.inr (.inr z) :: stk) h
  | _ => False
theorem n_iload_n {k : Fin 4} (hd : decode (nv_c M) pc = .ok (.iload_n k, 1)) : nv_Snd M pc (s_il k (pc + 1)) := by
  intro lv stk h Q K hK hf X p l e s m args below meth c H locs ls C hP hD hS hl ho hk
  unfold s_il at hf
  split at hf
  · next z hz => exact lv_iload_n C.1 C.2.1 hd rfl (nv_lg_at hl hz) (hK _ _ _ _ hf X p l e s m args below meth c H locs ls C hP hD hS hl ho (List.forall_mem_cons.mpr ⟨trivial, hk⟩))
  · exact hf.elim
theorem n_iload {k : Nat} (hd : decode (nv_c M) pc = .ok (.iload k, 2)) : nv_Snd M pc (s_il k (pc + 2)) := by
  intro lv stk h Q K hK hf X p l e s m args below meth c H locs ls C hP hD hS hl ho hk
  unfold s_il at hf
  split at hf
  · next z hz => exact lv_iload C.1 C.2.1 hd (nv_lg_at hl hz) (hK _ _ _ _ hf X p l e s m args below meth c H locs ls C hP hD hS hl ho (List.forall_mem_cons.mpr ⟨trivial, hk⟩))
  · exact hf.elim
theorem n_aload_n {k : Fin 4} (hd : decode (nv_c M) pc = .ok (.aload_n k, 1)) : nv_Snd M pc (s_al k (pc + 1)) := by
  intro lv stk h Q K hK hf X p l e s m args below meth c H locs ls C hP hD hS hl ho hk
  unfold s_al at hf
  split at hf
  · next z hz => exact lv_aload_n C.1 C.2.1 hd rfl (nv_lg_at hl hz) (hK _ _ _ _ hf X p l e s m args below meth c H locs ls C hP hD hS hl ho (List.forall_mem_cons.mpr ⟨ho _ (nv_lg_mem hz), hk⟩))
  · exact hf.elim
theorem n_aload {k : Nat} (hd : decode (nv_c M) pc = .ok (.aload k, 2)) : nv_Snd M pc (s_al k (pc + 2)) := by
  intro lv stk h Q K hK hf X p l e s m args below meth c H locs ls C hP hD hS hl ho hk
  unfold s_al at hf
  split at hf
  · next z hz => exact lv_aload C.1 C.2.1 hd (nv_lg_at hl hz) (hK _ _ _ _ hf X p l e s m args below meth c H locs ls C hP hD hS hl ho (List.forall_mem_cons.mpr ⟨ho _ (nv_lg_mem hz), hk⟩))
  · exact hf.elim
theorem n_lload_n {k : Fin 4} (hd : decode (nv_c M) pc = .ok (.lload_n k, 1)) : nv_Snd M pc (s_ll k (pc + 1)) := by
  intro lv stk h Q K hK hf X p l e s m args below meth c H locs ls C hP hD hS hl ho hk
  unfold s_ll at hf
  split at hf
  · next z hz => exact lv_lload_n C.1 C.2.1 hd rfl (nv_lg_at hl hz) (hK _ _ _ _ hf X p l e s m args below meth c H locs ls C hP hD hS hl ho (List.forall_mem_cons.mpr ⟨trivial, hk⟩))
  · exact hf.elim
theorem n_lload {k : Nat} (hd : decode (nv_c M) pc = .ok (.lload k, 2)) : nv_Snd M pc (s_ll k (pc + 2)) := by
  intro lv stk h Q K hK hf X p l e s m args below meth c H locs ls C hP hD hS hl ho hk
  unfold s_ll at hf
  split at hf
  · next z hz => exact lv_lload C.1 C.2.1 hd (nv_lg_at hl hz) (hK _ _ _ _ hf X p l e s m args below meth c H locs ls C hP hD hS hl ho (List.forall_mem_cons.mpr ⟨trivial, hk⟩))
  · exact hf.elim
def s_is (i nx : Nat) : nv_Sem := fun lv stk h _ K => match stk with
  | .inl z :: r => K nx (nv_ls lv i (.inl z)) r h
  | _ => False
def s_as (i nx : Nat) : nv_Sem := fun lv stk h _ K => match stk with
  | .inr (.inl z) :: r => K nx (nv_ls lv i (.inr (.inl z))) r h
  | _ => False
theorem n_istore_n {k : Fin 4} (hd : decode (nv_c M) pc = .ok (.istore_n k, 1)) (hi : (k : Nat) < nv_mL M) : nv_Snd M pc (s_is k (pc + 1)) := by
  intro lv stk h Q K hK hf X p l e s m args below meth c H locs ls C hP hD hS hl ho hk
  unfold s_is at hf
  split at hf
  · next z r => exact lv_istore_n C.1 C.2.1 hd rfl hl hi rfl (fun ls' hl' => hK _ _ _ _ hf X p l e s m args below meth c H locs ls' C hP hD hS (nv_ls_has (v := .inl z) hl') (nv_ls_ok trivial ho) (List.forall_mem_cons.mp hk).2)
  · exact hf.elim
theorem n_istore {k : Nat} (hd : decode (nv_c M) pc = .ok (.istore k, 2)) (hi : k < nv_mL M) : nv_Snd M pc (s_is k (pc + 2)) := by
  intro lv stk h Q K hK hf X p l e s m args below meth c H locs ls C hP hD hS hl ho hk
  unfold s_is at hf
  split at hf
  · next z r => exact lv_istore C.1 C.2.1 hd hl hi rfl (fun ls' hl' => hK _ _ _ _ hf X p l e s m args below meth c H locs ls' C hP hD hS (nv_ls_has (v := .inl z) hl') (nv_ls_ok trivial ho) (List.forall_mem_cons.mp hk).2)
  · exact hf.elim
theorem n_astore_n {k : Fin 4} (hd : decode (nv_c M) pc = .ok (.astore_n k, 1)) (hi : (k : Nat) < nv_mL M) : nv_Snd M pc (s_as k (pc + 1)) := by
  intro lv stk h Q K hK hf X p l e s m args below meth c H locs ls C hP hD hS hl ho hk
  unfold s_as at hf
  split at hf
  · next z r => exact lv_astore_n C.1 C.2.1 hd rfl hl hi rfl (fun ls' hl' => hK _ _ _ _ hf X p l e s m args below meth c H locs ls' C hP hD hS (nv_ls_has (v := .inr (.inl z)) hl') (nv_ls_ok (List.forall_mem_cons.mp hk).1 ho) (List.forall_mem_cons.mp hk).2)
  · exact hf.elim
theorem n_astore {k : Nat} (hd : decode (nv_c M) pc = .ok (.astore k, 2)) (hi : k < nv_mL M) : nv_Snd M pc (s_as k (pc + 2)) := by
  intro lv stk h Q K hK hf X p l e s m args below meth c H locs ls C hP hD hS hl ho hk
  unfold s_as at hf
  split at hf
  · next z r => exact lv_astore C.1 C.2.1 hd hl hi rfl (fun ls' hl' => hK _ _ _ _ hf X p l e s m args below meth c H locs ls' C hP hD hS (nv_ls_has (v := .inr (.inl z)) hl') (nv_ls_ok (List.forall_mem_cons.mp hk).1 ho) (List.forall_mem_cons.mp hk).2)
  · exact hf.elim
def s_inc (i : Nat) (d : Int) (nx : Nat) : nv_Sem := fun lv stk h _ K => match nv_lg lv i with
  | some (.inl z) => K nx (nv_ls lv i (.inl (z + d))) stk h
  | _ => False
theorem n_iinc {k : Nat} {d : Int} (hd : decode (nv_c M) pc = .ok (.iinc k d, 3)) (hi : k < nv_mL M) : nv_Snd M pc (s_inc k d (pc + 3)) := by
  intro lv stk h Q K hK hf X p l e s m args below meth c H locs ls C hP hD hS hl ho hk
  unfold s_inc at hf
  split at hf
  · next z hz =>
    obtain ⟨j, hj⟩ := List.getElem?_of_mem (nv_lg_mem hz)
    have hj' : (nv_trL X lv)[j]? = some (k, .int (Int32.ofInt z)) := by rw [List.getElem?_map, hj]; rfl
    exact lv_iinc C.1 C.2.1 hd hl hj' (v := Int32.ofInt (z + d)) (Int32.ofInt_add z d).symm hi rfl (fun ls' hl' => hK _ _ _ _ hf X p l e s m args below meth c H locs ls' C hP hD hS (nv_ls_has (v := .inl (z + d)) hl') (nv_ls_ok trivial ho) hk)
  · exact hf.elim
/-! arithmetic -/
def s_b (f : Int → Int → Int) (nx : Nat) : nv_Sem := fun lv stk h _ K => match stk with
  | .inl b :: .inl a :: r => K nx lv (.inl (f a b) :: r) h
  | _ => False
def s_add (nx : Nat) : nv_Sem := fun lv stk h _ K => match stk with
  | .inl b :: .inl a :: r => K nx lv (.inl (a + b) :: r) h
  | _ => False
def s_sub (nx : Nat) : nv_Sem := fun lv stk h _ K => match stk with
  | .inl b :: .inl a :: r => K nx lv (.inl (a - b) :: r) h
  | _ => False
def s_mul (nx : Nat) : nv_Sem := fun lv stk h _ K => match stk with
  | .inl b :: .inl a :: r => K nx lv (.inl (a * b) :: r) h
  | _ => False
theorem n_iadd (hd : decode (nv_c M) pc = .ok (.iadd, 1)) : nv_Snd M pc (s_add (pc + 1)) := by
  intro lv stk h Q K hK hf X p l e s m args below meth c H locs ls C hP hD hS hl ho hk
  unfold s_add at hf
  split at hf
  · next b a r =>
    refine lv_iadd C.1 C.2.1 hd ?_
    rw [← Int32.ofInt_add]
    exact hK _ _ _ _ hf X p l e s m args below meth c H locs ls C hP hD hS hl ho (List.forall_mem_cons.mpr ⟨trivial, (List.forall_mem_cons.mp (List.forall_mem_cons.mp hk).2).2⟩)
  · exact hf.elim
theorem n_isub (hd : decode (nv_c M) pc = .ok (.isub, 1)) : nv_Snd M pc (s_sub (pc + 1)) := by
  intro lv stk h Q K hK hf X p l e s m args below meth c H locs ls C hP hD hS hl ho hk
  unfold s_sub at hf
  split at hf
  · next b a r =>
    refine lv_isub C.1 C.2.1 hd ?_
    rw [← Int32.ofInt_sub]
    exact hK _ _ _ _ hf X p l e s m args below meth c H locs ls C hP hD hS hl ho (List.forall_mem_cons.mpr ⟨trivial, (List.forall_mem_cons.mp (List.forall_mem_cons.mp hk).2).2⟩)
  · exact hf.elim
theorem n_imul (hd : decode (nv_c M) pc = .ok (.imul, 1)) : nv_Snd M pc (s_mul (pc + 1)) := by
  intro lv stk h Q K hK hf X p l e s m args below meth c H locs ls C hP hD hS hl ho hk
  unfold s_mul at hf
  split at hf
  · next b a r =>
    refine lv_imul C.1 C.2.1 hd ?_
    rw [← Int32.ofInt_mul]
    exact hK _ _ _ _ hf X p l e s m args below meth c H locs ls C hP hD hS hl ho (List.forall_mem_cons.mpr ⟨trivial, (List.forall_mem_cons.mp (List.forall_mem_cons.mp hk).2).2⟩)
  · exact hf.elim
def nv_and (a b : Int) : Int := (Int32.ofInt a &&& Int32.ofInt b).toInt
def nv_or (a b : Int) : Int := (Int32.ofInt a ||| Int32.ofInt b).toInt
def nv_xor (a b : Int) : Int := (Int32.ofInt a ^^^ Int32.ofInt b).toInt
theorem n_iand (hd : decode (nv_c M) pc = .ok (.iand, 1)) : nv_Snd M pc (s_b nv_and (pc + 1)) := by
  intro lv stk h Q K hK hf X p l e s m args below meth c H locs ls C hP hD hS hl ho hk
  unfold s_b at hf
  split at hf
  · next b a r =>
    refine lv_iand C.1 C.2.1 hd ?_
    have := hK _ _ _ _ hf X p l e s m args below meth c H locs ls C hP hD hS hl ho (List.forall_mem_cons.mpr ⟨trivial, (List.forall_mem_cons.mp (List.forall_mem_cons.mp hk).2).2⟩)
    rwa [List.map_cons, show nv_tr X (.inl (nv_and a b)) = .int (Int32.ofInt a &&& Int32.ofInt b) from congrArg Value.int (Int32.ofInt_toInt _)] at this
  · exact hf.elim
theorem n_ior (hd : decode (nv_c M) pc = .ok (.ior, 1)) : nv_Snd M pc (s_b nv_or (pc + 1)) := by
  intro lv stk h Q K hK hf X p l e s m args below meth c H locs ls C hP hD hS hl ho hk
  unfold s_b at hf
  split at hf
  · next b a r =>
    refine lv_ior C.1 C.2.1 hd ?_
    have := hK _ _ _ _ hf X p l e s m args below meth c H locs ls C hP hD hS hl ho (List.forall_mem_cons.mpr ⟨trivial, (List.forall_mem_cons.mp (List.forall_mem_cons.mp hk).2).2⟩)
    rwa [List.map_cons, show nv_tr X (.inl (nv_or a b)) = .int (Int32.ofInt a ||| Int32.ofInt b) from congrArg Value.int (Int32.ofInt_toInt _)] at this
  · exact hf.elim
theorem n_ixor (hd : decode (nv_c M) pc = .ok (.ixor, 1)) : nv_Snd M pc (s_b nv_xor (pc + 1)) := by
  intro lv stk h Q K hK hf X p l e s m args below meth c H locs ls C hP hD hS hl ho hk
  unfold s_b at hf
  split at hf
  · next b a r =>
    refine lv_ixor C.1 C.2.1 hd ?_
    have := hK _ _ _ _ hf X p l e s m args below meth c H locs ls C hP hD hS hl ho (List.forall_mem_cons.mpr ⟨trivial, (List.forall_mem_cons.mp (List.forall_mem_cons.mp hk).2).2⟩)
    rwa [List.map_cons, show nv_tr X (.inl (nv_xor a b)) = .int (Int32.ofInt a ^^^ Int32.ofInt b) from congrArg Value.int (Int32.ofInt_toInt _)] at this
  · exact hf.elim
/-- of numbers that are not below 0 -/
def s_div (nx : Nat) : nv_Sem := fun lv stk h _ K => match stk with
  | .inl b :: .inl a :: r => (0 ≤ a ∧ a < 2147483648) ∧ (0 < b ∧ b < 2147483648) ∧ K nx lv (.inl (a / b) :: r) h
  | _ => False
def s_rem (nx : Nat) : nv_Sem := fun lv stk h _ K => match stk with
  | .inl b :: .inl a :: r => (0 ≤ a ∧ a < 2147483648) ∧ (0 < b ∧ b < 2147483648) ∧ K nx lv (.inl (a % b) :: r) h
  | _ => False
theorem nv_nat {a : Int} (h : 0 ≤ a ∧ a < 2147483648) : ∃ n : Nat, a = (n : Int) ∧ n < 2 ^ 31 := ⟨a.toNat, by omega, by omega⟩
theorem n_idiv (hd : decode (nv_c M) pc = .ok (.idiv, 1)) : nv_Snd M pc (s_div (pc + 1)) := by
  intro lv stk h Q K hK hf X p l e s m args below meth c H locs ls C hP hD hS hl ho hk
  unfold s_div at hf
  split at hf
  · next b a r =>
    obtain ⟨h1, h2, hf⟩ := hf
    obtain ⟨x, rfl, hx⟩ := nv_nat h1
    obtain ⟨y, rfl, hy⟩ := nv_nat ⟨by omega, h2.2⟩
    have hy0 : 0 < y := by omega
    refine lv_idiv C.1 C.2.1 hd ?_ ?_
    · rw [nv_ofNat]; exact nI_ne0 hy0 hy
    · have e1 : Int32.ofInt ((x : Int) / (y : Int)) = Int32.ofInt (x : Int) / Int32.ofInt (y : Int) := by
        rw [nv_ofNat, nv_ofNat, pk_div hx hy0 hy, ← nv_ofNat]; rfl
      rw [← e1]
      exact hK _ _ _ _ hf X p l e s m args below meth c H locs ls C hP hD hS hl ho (List.forall_mem_cons.mpr ⟨trivial, (List.forall_mem_cons.mp (List.forall_mem_cons.mp hk).2).2⟩)
  · exact hf.elim
theorem n_irem (hd : decode (nv_c M) pc = .ok (.irem, 1)) : nv_Snd M pc (s_rem (pc + 1)) := by
  intro lv stk h Q K hK hf X p l e s m args below meth c H locs ls C hP hD hS hl ho hk
  unfold s_rem at hf
  split at hf
  · next b a r =>
    obtain ⟨h1, h2, hf⟩ := hf
    obtain ⟨x, rfl, hx⟩ := nv_nat h1
    obtain ⟨y, rfl, hy⟩ := nv_nat ⟨by omega, h2.2⟩
    have hy0 : 0 < y := by omega
    refine lv_irem C.1 C.2.1 hd ?_ ?_
    · rw [nv_ofNat]; exact nI_ne0 hy0 hy
    · have e1 : Int32.ofInt ((x : Int) % (y : Int)) = Int32.ofInt (x : Int) - Int32.ofInt (x : Int) / Int32.ofInt (y : Int) * Int32.ofInt (y : Int) := by
        rw [nv_ofNat, nv_ofNat, pk_rem hx hy0 hy, ← nv_ofNat]; rfl
      rw [← e1]
      exact hK _ _ _ _ hf X p l e s m args below meth c H locs ls C hP hD hS hl ho (List.forall_mem_cons.mpr ⟨trivial, (List.forall_mem_cons.mp (List.forall_mem_cons.mp hk).2).2⟩)
  · exact hf.elim
end nvIns
end
section
/-! ===== more instructions: branches, shifts, longs, cells, calls, ends ===== -/
section nvIns2
variable {M : nv_MD} {pc : Nat}
abbrev c_eq (a b : Int) : Prop := a = b
abbrev c_lt (a b : Int) : Prop := a < b
abbrev c_ge (a b : Int) : Prop := b ≤ a
abbrev c_gt (a b : Int) : Prop := b < a
abbrev c_le (a b : Int) : Prop := a ≤ b
def s_if (cm : Int → Int → Prop) (tg nx : Nat) : nv_Sem := fun lv stk h _ K => match stk with
  | .inl a :: r => nv_InR a ∧ (cm a 0 → K tg lv r h) ∧ (¬ cm a 0 → K nx lv r h)
  | _ => False
def s_ic (cm : Int → Int → Prop) (tg nx : Nat) : nv_Sem := fun lv stk h _ K => match stk with
  | .inl b :: .inl a :: r => nv_InR a ∧ nv_InR b ∧ (cm a b → K tg lv r h) ∧ (¬ cm a b → K nx lv r h)
  | _ => False
theorem n_if_eq {off : Int} {tgt : Nat} (hd : decode (nv_c M) pc = .ok (.ifCond .eq off, 3)) (ht : (pc : Int) + off = (tgt : Int)) : nv_Snd M pc (s_if c_eq tgt (pc + 3)) := by
  intro lv stk h Q K hK hf X p l e s m args below meth c H locs ls C hP hD hS hl ho hk
  unfold s_if at hf
  split at hf
  · next a r =>
    obtain ⟨ha, hT, hF⟩ := hf
    have hr := (List.forall_mem_cons.mp hk).2
    exact lv_if_eq C.1 C.2.1 hd ht (fun h0 => hK _ _ _ _ (hT ((nv_eqR ha nv_0R).mp h0)) X p l e s m args below meth c H locs ls C hP hD hS hl ho hr) (fun h0 => hK _ _ _ _ (hF (fun h1 => h0 ((nv_eqR ha nv_0R).mpr h1))) X p l e s m args below meth c H locs ls C hP hD hS hl ho hr)
  · exact hf.elim
theorem n_icmp_eq {off : Int} {tgt : Nat} (hd : decode (nv_c M) pc = .ok (.if_icmp .eq off, 3)) (ht : (pc : Int) + off = (tgt : Int)) : nv_Snd M pc (s_ic c_eq tgt (pc + 3)) := by
  intro lv stk h Q K hK hf X p l e s m args below meth c H locs ls C hP hD hS hl ho hk
  unfold s_ic at hf
  split at hf
  · next b a r =>
    obtain ⟨ha, hb, hT, hF⟩ := hf
    have hr := (List.forall_mem_cons.mp (List.forall_mem_cons.mp hk).2).2
    exact lv_icmp_eq C.1 C.2.1 hd ht (fun h0 => hK _ _ _ _ (hT ((nv_eqR ha hb).mp h0)) X p l e s m args below meth c H locs ls C hP hD hS hl ho hr) (fun h0 => hK _ _ _ _ (hF (fun h1 => h0 ((nv_eqR ha hb).mpr h1))) X p l e s m args below meth c H locs ls C hP hD hS hl ho hr)
  · exact hf.elim
theorem n_if_ne {off : Int} {tgt : Nat} (hd : decode (nv_c M) pc = .ok (.ifCond .ne off, 3)) (ht : (pc : Int) + off = (tgt : Int)) : nv_Snd M pc (s_if c_eq (pc + 3) tgt) := by
  intro lv stk h Q K hK hf X p l e s m args below meth c H locs ls C hP hD hS hl ho hk
  unfold s_if at hf
  split at hf
  · next a r =>
    obtain ⟨ha, hT, hF⟩ := hf
    have hr := (List.forall_mem_cons.mp hk).2
    exact lv_if_ne C.1 C.2.1 hd ht (fun h0 => hK _ _ _ _ (hF (fun h1 => h0 ((nv_eqR ha nv_0R).mpr h1))) X p l e s m args below meth c H locs ls C hP hD hS hl ho hr) (fun h0 => hK _ _ _ _ (hT ((nv_eqR ha nv_0R).mp h0)) X p l e s m args below meth c H locs ls C hP hD hS hl ho hr)
  · exact hf.elim
theorem n_icmp_ne {off : Int} {tgt : Nat} (hd : decode (nv_c M) pc = .ok (.if_icmp .ne off, 3)) (ht : (pc : Int) + off = (tgt : Int)) : nv_Snd M pc (s_ic c_eq (pc + 3) tgt) := by
  intro lv stk h Q K hK hf X p l e s m args below meth c H locs ls C hP hD hS hl ho hk
  unfold s_ic at hf
  split at hf
  · next b a r =>
    obtain ⟨ha, hb, hT, hF⟩ := hf
    have hr := (List.forall_mem_cons.mp (List.forall_mem_cons.mp hk).2).2
    exact lv_icmp_ne C.1 C.2.1 hd ht (fun h0 => hK _ _ _ _ (hF (fun h1 => h0 ((nv_eqR ha hb).mpr h1))) X p l e s m args below meth c H locs ls C hP hD hS hl ho hr) (fun h0 => hK _ _ _ _ (hT ((nv_eqR ha hb).mp h0)) X p l e s m args below meth c H locs ls C hP hD hS hl ho hr)
  · exact hf.elim
theorem n_if_lt {off : Int} {tgt : Nat} (hd : decode (nv_c M) pc = .ok (.ifCond .lt off, 3)) (ht : (pc : Int) + off = (tgt : Int)) : nv_Snd M pc (s_if c_lt tgt (pc + 3)) := by
  intro lv stk h Q K hK hf X p l e s m args below meth c H locs ls C hP hD hS hl ho hk
  unfold s_if at hf
  split at hf
  · next a r =>
    obtain ⟨ha, hT, hF⟩ := hf
    have hr := (List.forall_mem_cons.mp hk).2
    exact lv_if_lt C.1 C.2.1 hd ht (fun h0 => hK _ _ _ _ (hT ((nv_ltR ha nv_0R).mp h0)) X p l e s m args below meth c H locs ls C hP hD hS hl ho hr) (fun h0 => hK _ _ _ _ (hF (fun h1 => h0 ((nv_ltR ha nv_0R).mpr h1))) X p l e s m args below meth c H locs ls C hP hD hS hl ho hr)
  · exact hf.elim
theorem n_icmp_lt {off : Int} {tgt : Nat} (hd : decode (nv_c M) pc = .ok (.if_icmp .lt off, 3)) (ht : (pc : Int) + off = (tgt : Int)) : nv_Snd M pc (s_ic c_lt tgt (pc + 3)) := by
  intro lv stk h Q K hK hf X p l e s m args below meth c H locs ls C hP hD hS hl ho hk
  unfold s_ic at hf
  split at hf
  · next b a r =>
    obtain ⟨ha, hb, hT, hF⟩ := hf
    have hr := (List.forall_mem_cons.mp (List.forall_mem_cons.mp hk).2).2
    exact lv_icmp_lt C.1 C.2.1 hd ht (fun h0 => hK _ _ _ _ (hT ((nv_ltR ha hb).mp h0)) X p l e s m args below meth c H locs ls C hP hD hS hl ho hr) (fun h0 => hK _ _ _ _ (hF (fun h1 => h0 ((nv_ltR ha hb).mpr h1))) X p l e s m args below meth c H locs ls C hP hD hS hl ho hr)
  · exact hf.elim
theorem n_if_ge {off : Int} {tgt : Nat} (hd : decode (nv_c M) pc = .ok (.ifCond .ge off, 3)) (ht : (pc : Int) + off = (tgt : Int)) : nv_Snd M pc (s_if c_ge tgt (pc + 3)) := by
  intro lv stk h Q K hK hf X p l e s m args below meth c H locs ls C hP hD hS hl ho hk
  unfold s_if at hf
  split at hf
  · next a r =>
    obtain ⟨ha, hT, hF⟩ := hf
    have hr := (List.forall_mem_cons.mp hk).2
    exact lv_if_ge C.1 C.2.1 hd ht (fun h0 => hK _ _ _ _ (hT ((nv_leR nv_0R ha).mp h0)) X p l e s m args below meth c H locs ls C hP hD hS hl ho hr) (fun h0 => hK _ _ _ _ (hF (fun h1 => h0 ((nv_leR nv_0R ha).mpr h1))) X p l e s m args below meth c H locs ls C hP hD hS hl ho hr)
  · exact hf.elim
theorem n_icmp_ge {off : Int} {tgt : Nat} (hd : decode (nv_c M) pc = .ok (.if_icmp .ge off, 3)) (ht : (pc : Int) + off = (tgt : Int)) : nv_Snd M pc (s_ic c_ge tgt (pc + 3)) := by
  intro lv stk h Q K hK hf X p l e s m args below meth c H locs ls C hP hD hS hl ho hk
  unfold s_ic at hf
  split at hf
  · next b a r =>
    obtain ⟨ha, hb, hT, hF⟩ := hf
    have hr := (List.forall_mem_cons.mp (List.forall_mem_cons.mp hk).2).2
    exact lv_icmp_ge C.1 C.2.1 hd ht (fun h0 => hK _ _ _ _ (hT ((nv_leR hb ha).mp h0)) X p l e s m args below meth c H locs ls C hP hD hS hl ho hr) (fun h0 => hK _ _ _ _ (hF (fun h1 => h0 ((nv_leR hb ha).mpr h1))) X p l e s m args below meth c H locs ls C hP hD hS hl ho hr)
  · exact hf.elim
theorem n_if_gt {off : Int} {tgt : Nat} (hd : decode (nv_c M) pc = .ok (.ifCond .gt off, 3)) (ht : (pc : Int) + off = (tgt : Int)) : nv_Snd M pc (s_if c_gt tgt (pc + 3)) := by
  intro lv stk h Q K hK hf X p l e s m args below meth c H locs ls C hP hD hS hl ho hk
  unfold s_if at hf
  split at hf
  · next a r =>
    obtain ⟨ha, hT, hF⟩ := hf
    have hr := (List.forall_mem_cons.mp hk).2
    exact lv_if_gt C.1 C.2.1 hd ht (fun h0 => hK _ _ _ _ (hT ((nv_ltR nv_0R ha).mp h0)) X p l e s m args below meth c H locs ls C hP hD hS hl ho hr) (fun h0 => hK _ _ _ _ (hF (fun h1 => h0 ((nv_ltR nv_0R ha).mpr h1))) X p l e s m args below meth c H locs ls C hP hD hS hl ho hr)
  · exact hf.elim
theorem n_icmp_gt {off : Int} {tgt : Nat} (hd : decode (nv_c M) pc = .ok (.if_icmp .gt off, 3)) (ht : (pc : Int) + off = (tgt : Int)) : nv_Snd M pc (s_ic c_gt tgt (pc + 3)) := by
  intro lv stk h Q K hK hf X p l e s m args below meth c H locs ls C hP hD hS hl ho hk
  unfold s_ic at hf
  split at hf
  · next b a r =>
    obtain ⟨ha, hb, hT, hF⟩ := hf
    have hr := (List.forall_mem_cons.mp (List.forall_mem_cons.mp hk).2).2
    exact lv_icmp_gt C.1 C.2.1 hd ht (fun h0 => hK _ _ _ _ (hT ((nv_ltR hb ha).mp h0)) X p l e s m args below meth c H locs ls C hP hD hS hl ho hr) (fun h0 => hK _ _ _ _ (hF (fun h1 => h0 ((nv_ltR hb ha).mpr h1))) X p l e s m args below meth c H locs ls C hP hD hS hl ho hr)
  · exact hf.elim
theorem n_if_le {off : Int} {tgt : Nat} (hd : decode (nv_c M) pc = .ok (.ifCond .le off, 3)) (ht : (pc : Int) + off = (tgt : Int)) : nv_Snd M pc (s_if c_le tgt (pc + 3)) := by
  intro lv stk h Q K hK hf X p l e s m args below meth c H locs ls C hP hD hS hl ho hk
  unfold s_if at hf
  split at hf
  · next a r =>
    obtain ⟨ha, hT, hF⟩ := hf
    have hr := (List.forall_mem_cons.mp hk).2
    exact lv_if_le C.1 C.2.1 hd ht (fun h0 => hK _ _ _ _ (hT ((nv_leR ha nv_0R).mp h0)) X p l e s m args below meth c H locs ls C hP hD hS hl ho hr) (fun h0 => hK _ _ _ _ (hF (fun h1 => h0 ((nv_leR ha nv_0R).mpr h1))) X p l e s m args below meth c H locs ls C hP hD hS hl ho hr)
  · exact hf.elim
theorem n_icmp_le {off : Int} {tgt : Nat} (hd : decode (nv_c M) pc = .ok (.if_icmp .le off, 3)) (ht : (pc : Int) + off = (tgt : Int)) : nv_Snd M pc (s_ic c_le tgt (pc + 3)) := by
  intro lv stk h Q K hK hf X p l e s m args below meth c H locs ls C hP hD hS hl ho hk
  unfold s_ic at hf
  split at hf
  · next b a r =>
    obtain ⟨ha, hb, hT, hF⟩ := hf
    have hr := (List.forall_mem_cons.mp (List.forall_mem_cons.mp hk).2).2
    exact lv_icmp_le C.1 C.2.1 hd ht (fun h0 => hK _ _ _ _ (hT ((nv_leR ha hb).mp h0)) X p l e s m args below meth c H locs ls C hP hD hS hl ho hr) (fun h0 => hK _ _ _ _ (hF (fun h1 => h0 ((nv_leR ha hb).mpr h1))) X p l e s m args below meth c H locs ls C hP hD hS hl ho hr)
  · exact hf.elim
def s_go (tg : Nat) : nv_Sem := fun lv stk h _ K => K tg lv stk h
theorem n_goto {off : Int} {tgt : Nat} (hd : decode (nv_c M) pc = .ok (.goto off, 3)) (ht : (pc : Int) + off = (tgt : Int)) : nv_Snd M pc (s_go tgt) := by
  intro lv stk h Q K hK hf X p l e s m args below meth c H locs ls C hP hD hS hl ho hk
  exact lv_goto C.1 C.2.1 hd ht (hK _ _ _ _ hf X p l e s m args below meth c H locs ls C hP hD hS hl ho hk)
def nv_sw (x : Int) (K : Nat → Prop) : Int → List Nat → Prop
  | _, [] => True
  | lo, t :: r => (x = lo → K t) ∧ nv_sw x K (lo + 1) r
def s_sw (lo : Int) (df : Nat) (ts : List Nat) : nv_Sem := fun lv stk h _ K => match stk with
  | .inl x :: r => nv_InR x ∧ ((x < lo ∨ lo + ts.length ≤ x) → K df lv r h) ∧ nv_sw x (fun t => K t lv r h) lo ts
  | _ => False
theorem nv_sw_at {x : Int} {K : Nat → Prop} : ∀ {ts : List Nat} {lo : Int} {j : Nat} {t : Nat}, nv_sw x K lo ts → x = lo + j → ts[j]? = some t → K t
  | [], _, _, _, _, _, h => by simp at h
  | t0 :: r, lo, 0, t, hs, hx, h => by
    simp at h
    subst h
    exact hs.1 (by simpa using hx)
  | t0 :: r, lo, j + 1, t, hs, hx, h => nv_sw_at (lo := lo + 1) (j := j) hs.2 (by omega) (by simpa using h)
theorem n_tableswitch {dflt lo hi : Int} {offs : Array Int} {len df : Nat} {ts : List Nat} (hd : decode (nv_c M) pc = .ok (.tableswitch dflt lo hi offs, len)) (hdf : (pc : Int) + dflt = (df : Int)) (hts : offs.toList.map (fun o => (pc : Int) + o) = ts.map (fun t : Nat => (t : Int))) (hhi : lo + ts.length = hi + 1) : nv_Snd M pc (s_sw lo df ts) := by
  intro lv stk h Q K hK hf X p l e s m args below meth c H locs ls C hP hD hS hl ho hk
  unfold s_sw at hf
  split at hf
  · next x r =>
    obtain ⟨hx, hD1, hI⟩ := hf
    have hr := (List.forall_mem_cons.mp hk).2
    by_cases h1 : x < lo ∨ hi < x
    · exact lv_tableOut C.1 C.2.1 hd (by rw [nv_toInt hx]; exact h1) hdf (hK _ _ _ _ (hD1 (by omega)) X p l e s m args below meth c H locs ls C hP hD hS hl ho hr)
    · have hlen : offs.toList.length = ts.length := by simpa using congrArg List.length hts
      have hj : (x - lo).toNat < ts.length := by omega
      have hjo : (x - lo).toNat < offs.toList.length := by omega
      have e1 : ts[(x - lo).toNat]? = some ts[(x - lo).toNat] := List.getElem?_eq_getElem hj
      have e2 : offs[(x - lo).toNat]? = some (offs.toList[(x - lo).toNat]) := by
        rw [← Array.getElem?_toList]; exact List.getElem?_eq_getElem hjo
      have e3 : (pc : Int) + offs.toList[(x - lo).toNat] = (ts[(x - lo).toNat] : Int) := by
        have h3 := congrArg (fun z : List Int => z[(x - lo).toNat]?) hts
        simp only [List.getElem?_map, List.getElem?_eq_getElem hj, List.getElem?_eq_getElem hjo, Option.map_some, Option.some.injEq] at h3
        exact h3
      exact lv_tableIn C.1 C.2.1 hd (by rw [nv_toInt hx]; omega) (by rw [nv_toInt hx]; omega) (by rw [nv_toInt hx]; exact e2) e3 (hK _ _ _ _ (nv_sw_at hI (j := (x - lo).toNat) (by omega) e1) X p l e s m args below meth c H locs ls C hP hD hS hl ho hr)
  · exact hf.elim
/-! shifts and conversions -/
theorem nv_s31 : ∀ n : Nat, n < 32 → ((Int32.ofInt (n : Int) &&& 31).toBitVec.smod 32).toNat = n := by decide +kernel
theorem nv_u31 : ∀ n : Nat, n < 32 → (((Int32.ofInt (n : Int)).toUInt32 &&& Int32.toUInt32 31).toBitVec % 32).toNat = n := by decide +kernel
theorem nv_shl (a : Int) {n : Nat} (hn : n < 32) : Int32.ofInt a <<< (Int32.ofInt (n : Int) &&& 31) = Int32.ofInt (a * 2 ^ n) := by
  apply Int32.toBitVec.inj
  rw [Int32.toBitVec_ofInt]
  apply BitVec.eq_of_toNat_eq
  rw [pk_shl _ _ n (nv_s31 n hn), Int32.toBitVec_ofInt, BitVec.toNat_ofInt, BitVec.toNat_ofInt]
  generalize hm : (2 : Nat) ^ 32 = w
  have h1 : (w : Int) ≠ 0 := by rw [← hm]; decide
  have h2 : (0 : Int) ≤ a % (w : Int) := Int.emod_nonneg _ h1
  have h3 : (0 : Int) ≤ a * 2 ^ n % (w : Int) := Int.emod_nonneg _ h1
  apply Int.ofNat_inj.mp
  rw [Int.toNat_of_nonneg h3, Int.natCast_emod, Int.natCast_mul, Int.toNat_of_nonneg h2, Int.natCast_pow, Int.mul_emod, Int.emod_emod, ← Int.mul_emod]
  rfl
def s_sl (nx : Nat) : nv_Sem := fun lv stk h _ K => match stk with
  | .inl b :: .inl a :: r => ∃ n : Nat, b = (n : Int) ∧ n < 32 ∧ K nx lv (.inl (a * 2 ^ n) :: r) h
  | _ => False
theorem n_ishl (hd : decode (nv_c M) pc = .ok (.ishl, 1)) : nv_Snd M pc (s_sl (pc + 1)) := by
  intro lv stk h Q K hK hf X p l e s m args below meth c H locs ls C hP hD hS hl ho hk
  unfold s_sl at hf
  split at hf
  · next b a r =>
    obtain ⟨n, rfl, hn, hf⟩ := hf
    refine lv_ishl C.1 C.2.1 hd ?_
    rw [nv_shl a hn]
    exact hK _ _ _ _ hf X p l e s m args below meth c H locs ls C hP hD hS hl ho (List.forall_mem_cons.mpr ⟨trivial, (List.forall_mem_cons.mp (List.forall_mem_cons.mp hk).2).2⟩)
  · exact hf.elim
def s_sr (nx : Nat) : nv_Sem := fun lv stk h _ K => match stk with
  | .inl b :: .inl a :: r => nv_InR a ∧ ∃ n : Nat, b = (n : Int) ∧ n < 32 ∧ K nx lv (.inl (a / 2 ^ n) :: r) h
  | _ => False
theorem nv_shr {a : Int} (ha : nv_InR a) {n : Nat} (hn : n < 32) : Int32.ofInt a >>> (Int32.ofInt (n : Int) &&& 31) = Int32.ofInt (a / 2 ^ n) := by
  have h1 := pk_shr (Int32.ofInt a) (Int32.ofInt (n : Int) &&& 31) n (nv_s31 n hn)
  rw [nv_toInt ha, Int.shiftRight_eq_div_pow] at h1
  rw [← Int32.ofInt_toInt (Int32.ofInt a >>> (Int32.ofInt (n : Int) &&& 31)), h1]
  push_cast
  rfl
theorem n_ishr (hd : decode (nv_c M) pc = .ok (.ishr, 1)) : nv_Snd M pc (s_sr (pc + 1)) := by
  intro lv stk h Q K hK hf X p l e s m args below meth c H locs ls C hP hD hS hl ho hk
  unfold s_sr at hf
  split at hf
  · next b a r =>
    obtain ⟨ha, n, rfl, hn, hf⟩ := hf
    refine lv_ishr C.1 C.2.1 hd ?_
    rw [nv_shr ha hn]
    exact hK _ _ _ _ hf X p l e s m args below meth c H locs ls C hP hD hS hl ho (List.forall_mem_cons.mpr ⟨trivial, (List.forall_mem_cons.mp (List.forall_mem_cons.mp hk).2).2⟩)
  · exact hf.elim
def s_su (nx : Nat) : nv_Sem := fun lv stk h _ K => match stk with
  | .inl b :: .inl a :: r => (0 ≤ a ∧ a < 2147483648) ∧ ∃ n : Nat, b = (n : Int) ∧ n < 32 ∧ K nx lv (.inl (a / 2 ^ n) :: r) h
  | _ => False
theorem n_iushr (hd : decode (nv_c M) pc = .ok (.iushr, 1)) : nv_Snd M pc (s_su (pc + 1)) := by
  intro lv stk h Q K hK hf X p l e s m args below meth c H locs ls C hP hD hS hl ho hk
  unfold s_su at hf
  split at hf
  · next b a r =>
    obtain ⟨ha, n, rfl, hn, hf⟩ := hf
    obtain ⟨x, rfl, hx⟩ := nv_nat ha
    have e1 : ((Int32.ofInt (x : Int)).toUInt32 >>> ((Int32.ofInt (n : Int)).toUInt32 &&& Int32.toUInt32 31)).toInt32 = Int32.ofInt ((x : Int) / 2 ^ n) := by
      rw [nv_ofNat x, pk_ushrN (by omega) _ n (nv_u31 n hn), ← nv_ofNat]
      push_cast
      rfl
    exact lv_iushr C.1 C.2.1 hd e1 (hK _ _ _ _ hf X p l e s m args below meth c H locs ls C hP hD hS hl ho (List.forall_mem_cons.mpr ⟨trivial, (List.forall_mem_cons.mp (List.forall_mem_cons.mp hk).2).2⟩))
  · exact hf.elim
def s_i2l (nx : Nat) : nv_Sem := fun lv stk h _ K => match stk with
  | .inl a :: r => nv_InR a ∧ K nx lv (.inr (.inr a) :: r) h
  | _ => False
theorem n_i2l (hd : decode (nv_c M) pc = .ok (.i2l, 1)) : nv_Snd M pc (s_i2l (pc + 1)) := by
  intro lv stk h Q K hK hf X p l e s m args below meth c H locs ls C hP hD hS hl ho hk
  unfold s_i2l at hf
  split at hf
  · next a r =>
    obtain ⟨ha, hf⟩ := hf
    have e1 : (Int32.ofInt a).toInt64 = Int64.ofInt a := by
      rw [← Int64.ofInt_int32ToInt, nv_toInt ha]
    exact lv_i2l C.1 C.2.1 hd e1 (hK _ _ _ _ hf X p l e s m args below meth c H locs ls C hP hD hS hl ho (List.forall_mem_cons.mpr ⟨trivial, (List.forall_mem_cons.mp hk).2⟩))
  · exact hf.elim
def s_l2i (nx : Nat) : nv_Sem := fun lv stk h _ K => match stk with
  | .inr (.inr a) :: r => K nx lv (.inl a :: r) h
  | _ => False
theorem n_l2i (hd : decode (nv_c M) pc = .ok (.l2i, 1)) : nv_Snd M pc (s_l2i (pc + 1)) := by
  intro lv stk h Q K hK hf X p l e s m args below meth c H locs ls C hP hD hS hl ho hk
  unfold s_l2i at hf
  split at hf
  · next a r => exact lv_l2i C.1 C.2.1 hd Int64.toInt32_ofInt (hK _ _ _ _ hf X p l e s m args below meth c H locs ls C hP hD hS hl ho (List.forall_mem_cons.mpr ⟨trivial, (List.forall_mem_cons.mp hk).2⟩))
  · exact hf.elim
def s_u1 (f : Int → Int) (nx : Nat) : nv_Sem := fun lv stk h _ K => match stk with
  | .inl a :: r => K nx lv (.inl (f a) :: r) h
  | _ => False
def nv_b8 (a : Int) : Int := (Int8.ofInt a).toInt
def nv_s16 (a : Int) : Int := (Int16.ofInt a).toInt
theorem n_i2b (hd : decode (nv_c M) pc = .ok (.i2b, 1)) : nv_Snd M pc (s_u1 nv_b8 (pc + 1)) := by
  intro lv stk h Q K hK hf X p l e s m args below meth c H locs ls C hP hD hS hl ho hk
  unfold s_u1 at hf
  split at hf
  · next a r => exact lv_i2b C.1 C.2.1 hd (by rw [Int32.toInt8_ofInt]; rfl) (hK _ _ _ _ hf X p l e s m args below meth c H locs ls C hP hD hS hl ho (List.forall_mem_cons.mpr ⟨trivial, (List.forall_mem_cons.mp hk).2⟩))
  · exact hf.elim
theorem n_i2s (hd : decode (nv_c M) pc = .ok (.i2s, 1)) : nv_Snd M pc (s_u1 nv_s16 (pc + 1)) := by
  intro lv stk h Q K hK hf X p l e s m args below meth c H locs ls C hP hD hS hl ho hk
  unfold s_u1 at hf
  split at hf
  · next a r => exact lv_i2s C.1 C.2.1 hd (by rw [Int32.toInt16_ofInt]; rfl) (hK _ _ _ _ hf X p l e s m args below meth c H locs ls C hP hD hS hl ho (List.forall_mem_cons.mpr ⟨trivial, (List.forall_mem_cons.mp hk).2⟩))
  · exact hf.elim
def s_i2c (nx : Nat) : nv_Sem := fun lv stk h _ K => match stk with
  | .inl a :: r => (0 ≤ a ∧ a < 65536) ∧ K nx lv (.inl a :: r) h
  | _ => False
theorem n_i2c (hd : decode (nv_c M) pc = .ok (.i2c, 1)) : nv_Snd M pc (s_i2c (pc + 1)) := by
  intro lv stk h Q K hK hf X p l e s m args below meth c H locs ls C hP hD hS hl ho hk
  unfold s_i2c at hf
  split at hf
  · next a r =>
    obtain ⟨ha, hf⟩ := hf
    obtain ⟨x, rfl, hx⟩ := nv_nat ⟨ha.1, by omega⟩
    have hx2 : x < 65536 := by omega
    exact lv_i2c C.1 C.2.1 hd (by rw [nv_ofNat, pk_char, pk_tn (by omega), Nat.mod_eq_of_lt hx2]) (hK _ _ _ _ hf X p l e s m args below meth c H locs ls C hP hD hS hl ho (List.forall_mem_cons.mpr ⟨trivial, (List.forall_mem_cons.mp hk).2⟩))
  · exact hf.elim
def s_ladd (nx : Nat) : nv_Sem := fun lv stk h _ K => match stk with
  | .inr (.inr b) :: .inr (.inr a) :: r => K nx lv (.inr (.inr (a + b)) :: r) h
  | _ => False
def s_lmul (nx : Nat) : nv_Sem := fun lv stk h _ K => match stk with
  | .inr (.inr b) :: .inr (.inr a) :: r => K nx lv (.inr (.inr (a * b)) :: r) h
  | _ => False
theorem n_ladd (hd : decode (nv_c M) pc = .ok (.ladd, 1)) : nv_Snd M pc (s_ladd (pc + 1)) := by
  intro lv stk h Q K hK hf X p l e s m args below meth c H locs ls C hP hD hS hl ho hk
  unfold s_ladd at hf
  split at hf
  · next b a r =>
    refine lv_ladd C.1 C.2.1 hd ?_
    rw [← Int64.ofInt_add]
    exact hK _ _ _ _ hf X p l e s m args below meth c H locs ls C hP hD hS hl ho (List.forall_mem_cons.mpr ⟨trivial, (List.forall_mem_cons.mp (List.forall_mem_cons.mp hk).2).2⟩)
  · exact hf.elim
theorem n_lmul (hd : decode (nv_c M) pc = .ok (.lmul, 1)) : nv_Snd M pc (s_lmul (pc + 1)) := by
  intro lv stk h Q K hK hf X p l e s m args below meth c H locs ls C hP hD hS hl ho hk
  unfold s_lmul at hf
  split at hf
  · next b a r =>
    refine lv_lmul C.1 C.2.1 hd ?_
    rw [← Int64.ofInt_mul]
    exact hK _ _ _ _ hf X p l e s m args below meth c H locs ls C hP hD hS hl ho (List.forall_mem_cons.mpr ⟨trivial, (List.forall_mem_cons.mp (List.forall_mem_cons.mp hk).2).2⟩)
  · exact hf.elim
def s_lrem (nx : Nat) : nv_Sem := fun lv stk h _ K => match stk with
  | .inr (.inr b) :: .inr (.inr a) :: r => (0 ≤ a ∧ a < 9223372036854775808) ∧ (0 < b ∧ b < 9223372036854775808) ∧ K nx lv (.inr (.inr (a % b)) :: r) h
  | _ => False
theorem n_lrem (hd : decode (nv_c M) pc = .ok (.lrem, 1)) : nv_Snd M pc (s_lrem (pc + 1)) := by
  intro lv stk h Q K hK hf X p l e s m args below meth c H locs ls C hP hD hS hl ho hk
  unfold s_lrem at hf
  split at hf
  · next b a r =>
    obtain ⟨h1, h2, hf⟩ := hf
    obtain ⟨x, rfl⟩ : ∃ n : Nat, a = (n : Int) := ⟨a.toNat, by omega⟩
    obtain ⟨y, rfl⟩ : ∃ n : Nat, b = (n : Int) := ⟨b.toNat, by omega⟩
    have hx : x < 2 ^ 63 := by omega
    have hy : y < 2 ^ 63 := by omega
    have hy0 : 0 < y := by omega
    have ex : ∀ n : Nat, Int64.ofInt (n : Int) = lN n := fun n => Int64.ofInt_eq_ofNat
    refine lv_lrem C.1 C.2.1 hd ?_ ?_
    · rw [ex]; intro h0
      have := (pk_lEQ (b := 0) hy (by decide)).mp h0
      omega
    · have e1 : Int64.ofInt ((x : Int) % (y : Int)) = Int64.ofInt (x : Int) - Int64.ofInt (x : Int) / Int64.ofInt (y : Int) * Int64.ofInt (y : Int) := by
        rw [ex, ex, pk_lRem hx hy0 hy, ← ex]; rfl
      rw [← e1]
      exact hK _ _ _ _ hf X p l e s m args below meth c H locs ls C hP hD hS hl ho (List.forall_mem_cons.mpr ⟨trivial, (List.forall_mem_cons.mp (List.forall_mem_cons.mp hk).2).2⟩)
  · exact hf.elim
def s_lcmp (nx : Nat) : nv_Sem := fun lv stk h _ K => match stk with
  | .inr (.inr b) :: .inr (.inr a) :: r => nv_InL a ∧ nv_InL b ∧ K nx lv (.inl (if b < a then 1 else if a = b then 0 else -1) :: r) h
  | _ => False
theorem n_lcmp (hd : decode (nv_c M) pc = .ok (.lcmp, 1)) : nv_Snd M pc (s_lcmp (pc + 1)) := by
  intro lv stk h Q K hK hf X p l e s m args below meth c H locs ls C hP hD hS hl ho hk
  unfold s_lcmp at hf
  split at hf
  · next b a r =>
    obtain ⟨ha, hb, hf⟩ := hf
    refine W.lcmp C.1 C.2.1 hd ?_
    have e1 : lg_cmp (Int64.ofInt a) (Int64.ofInt b) = Int32.ofInt (if b < a then 1 else if a = b then 0 else -1) := by
      unfold lg_cmp
      simp only [gt_iff_lt, Int64.lt_iff_toInt_lt, ← Int64.toInt_inj, nv_toIntL ha, nv_toIntL hb]
      split
      · rfl
      · split <;> rfl
    rw [e1]
    exact hK _ _ _ _ hf X p l e s m args below meth c H locs ls C hP hD hS hl ho (List.forall_mem_cons.mpr ⟨trivial, (List.forall_mem_cons.mp (List.forall_mem_cons.mp hk).2).2⟩)
  · exact hf.elim
def s_dup (nx : Nat) : nv_Sem := fun lv stk h _ K => match stk with
  | .inl a :: r => K nx lv (.inl a :: .inl a :: r) h
  | .inr (.inl a) :: r => K nx lv (.inr (.inl a) :: .inr (.inl a) :: r) h
  | _ => False
theorem n_dup (hd : decode (nv_c M) pc = .ok (.dup, 1)) : nv_Snd M pc (s_dup (pc + 1)) := by
  intro lv stk h Q K hK hf X p l e s m args below meth c H locs ls C hP hD hS hl ho hk
  unfold s_dup at hf
  split at hf
  · next a r => exact lv_dup C.1 C.2.1 hd rfl (hK _ _ _ _ hf X p l e s m args below meth c H locs ls C hP hD hS hl ho (List.forall_mem_cons.mpr ⟨(List.forall_mem_cons.mp hk).1, hk⟩))
  · next a r => exact lv_dup C.1 C.2.1 hd rfl (hK _ _ _ _ hf X p l e s m args below meth c H locs ls C hP hD hS hl ho (List.forall_mem_cons.mpr ⟨(List.forall_mem_cons.mp hk).1, hk⟩))
  · exact hf.elim
def s_pop (nx : Nat) : nv_Sem := fun lv stk h _ K => match stk with
  | .inl _ :: r => K nx lv r h
  | .inr (.inl _) :: r => K nx lv r h
  | _ => False
theorem n_pop (hd : decode (nv_c M) pc = .ok (.pop, 1)) : nv_Snd M pc (s_pop (pc + 1)) := by
  intro lv stk h Q K hK hf X p l e s m args below meth c H locs ls C hP hD hS hl ho hk
  unfold s_pop at hf
  split at hf
  · next a r => exact lv_pop C.1 C.2.1 hd rfl (hK _ _ _ _ hf X p l e s m args below meth c H locs ls C hP hD hS hl ho (List.forall_mem_cons.mp hk).2)
  · next a r => exact lv_pop C.1 C.2.1 hd rfl (hK _ _ _ _ hf X p l e s m args below meth c H locs ls C hP hD hS hl ho (List.forall_mem_cons.mp hk).2)
  · exact hf.elim
/-- of an array and a place in it -/
def s_dup2 (nx : Nat) : nv_Sem := fun lv stk h _ K => match stk with
  | .inl b :: .inr (.inl a) :: r => K nx lv (.inl b :: .inr (.inl a) :: .inl b :: .inr (.inl a) :: r) h
  | _ => False
theorem n_dup2 (hd : decode (nv_c M) pc = .ok (.dup2, 1)) : nv_Snd M pc (s_dup2 (pc + 1)) := by
  intro lv stk h Q K hK hf X p l e s m args below meth c H locs ls C hP hD hS hl ho hk
  unfold s_dup2 at hf
  split at hf
  · next b a r => exact lv_dup2_11 C.1 C.2.1 hd rfl rfl (hK _ _ _ _ hf X p l e s m args below meth c H locs ls C hP hD hS hl ho (List.forall_mem_cons.mpr ⟨(List.forall_mem_cons.mp hk).1, List.forall_mem_cons.mpr ⟨(List.forall_mem_cons.mp (List.forall_mem_cons.mp hk).2).1, hk⟩⟩))
  · exact hf.elim
/-! ends -/
def s_ir : nv_Sem := fun _ stk h Q _ => match stk with
  | [.inl z] => Q (some (.inl z)) h
  | _ => False
def s_zr : nv_Sem := fun _ stk h Q _ => match stk with
  | [.inl z] => (z = 0 ∨ z = 1) ∧ Q (some (.inl z)) h
  | _ => False
def s_cr : nv_Sem := fun _ stk h Q _ => match stk with
  | [.inl z] => (0 ≤ z ∧ z < 65536) ∧ Q (some (.inl z)) h
  | _ => False
def s_lret : nv_Sem := fun _ stk h Q _ => match stk with
  | [.inr (.inr z)] => Q (some (.inr (.inr z))) h
  | _ => False
def s_vr : nv_Sem := fun _ stk h Q _ => match stk with
  | [] => Q none h
  | _ => False
theorem n_iret (hd : decode (nv_c M) pc = .ok (.ireturn, 1)) (hr : nv_ret M = some .int) : nv_Snd M pc s_ir := by
  intro lv stk h Q K hK hf X p l e s m args below meth c H locs ls C hP hD hS hl ho hk
  unfold s_ir at hf
  split at hf
  · next z => exact W.iret C.1 C.2.1 (C.2.2.1.trans hr) (fun t ht _ => ⟨⟨some (.inl z), h, rfl, fun v hv => by cases hv; trivial, hf, by rw [ht]; exact hP, hD⟩, hS.F ht⟩) hS.2.2 hd C.2.2.2.2.1
  · exact hf.elim
theorem n_zret (hd : decode (nv_c M) pc = .ok (.ireturn, 1)) (hr : nv_ret M = some .boolean) : nv_Snd M pc s_zr := by
  intro lv stk h Q K hK hf X p l e s m args below meth c H locs ls C hP hD hS hl ho hk
  unfold s_zr at hf
  split at hf
  · next z =>
    obtain ⟨hz, hf⟩ := hf
    refine W.zret C.1 C.2.1 (C.2.2.1.trans hr) ?_ (fun t ht _ => ⟨⟨some (.inl z), h, rfl, fun v hv => by cases hv; trivial, hf, by rw [ht]; exact hP, hD⟩, hS.F ht⟩) hS.2.2 hd C.2.2.2.2.1
    rcases hz with rfl | rfl <;> rfl
  · exact hf.elim
theorem n_cret (hd : decode (nv_c M) pc = .ok (.ireturn, 1)) (hr : nv_ret M = some .char) : nv_Snd M pc s_cr := by
  intro lv stk h Q K hK hf X p l e s m args below meth c H locs ls C hP hD hS hl ho hk
  unfold s_cr at hf
  split at hf
  · next z =>
    obtain ⟨hz, hf⟩ := hf
    refine W.zret C.1 C.2.1 (C.2.2.1.trans hr) ?_ (fun t ht _ => ⟨⟨some (.inl z), h, rfl, fun v hv => by cases hv; trivial, hf, by rw [ht]; exact hP, hD⟩, hS.F ht⟩) hS.2.2 hd C.2.2.2.2.1
    obtain ⟨x, rfl, hx⟩ := nv_nat ⟨hz.1, by omega⟩
    rw [nv_ofNat]
    exact (pk_charN (by omega)).1
  · exact hf.elim
theorem n_lret (hd : decode (nv_c M) pc = .ok (.lreturn, 1)) (hr : nv_ret M = some .long) : nv_Snd M pc s_lret := by
  intro lv stk h Q K hK hf X p l e s m args below meth c H locs ls C hP hD hS hl ho hk
  unfold s_lret at hf
  split at hf
  · next z => exact W.lret C.1 C.2.1 (C.2.2.1.trans hr) (fun t ht _ => ⟨⟨some (.inr (.inr z)), h, rfl, fun v hv => by cases hv; trivial, hf, by rw [ht]; exact hP, hD⟩, hS.F ht⟩) hS.2.2 hd C.2.2.2.2.1
  · exact hf.elim
theorem n_vret (hd : decode (nv_c M) pc = .ok (.return_, 1)) (hr : nv_ret M = none) : nv_Snd M pc s_vr := by
  intro lv stk h Q K hK hf X p l e s m args below meth c H locs ls C hP hD hS hl ho hk
  unfold s_vr at hf
  split at hf
  · exact W.vret C.1 C.2.1 (C.2.2.1.trans hr) (fun t ht _ => ⟨⟨none, h, rfl, (fun v hv => by cases hv), hf, by rw [ht]; exact hP, hD⟩, hS.F ht⟩) hS.2.2 hd C.2.2.2.2.1
  · exact hf.elim
end nvIns2
end
section
/-! ===== fields, arrays, calls ===== -/
theorem nv_okc {t i : Nat} (h : nv_ok (.inr (.inl (t, i)))) (ht : t ≠ 30) : (t, i) ∈ nv_cells := by
  rcases h with h | h
  · exact h
  · exact absurd (congrArg Prod.fst h) ht
theorem nv_tar_len (t : Nat) : (nv_tar t).2 < 2 ^ 31 := by
  unfold nv_tar
  split <;> decide
theorem nv_rf_ok {t k i : Nat} {x : Nat × Nat} (hc : (t, i) ∈ nv_cells) (h : nv_rf t k i = some x) : x ∈ nv_cells := by
  obtain ⟨a, b⟩ := x
  rw [nv_mem] at hc ⊢
  unfold nv_rf at h
  split at h <;> (try split at h) <;> simp at h <;> (obtain ⟨rfl, rfl⟩ := h; simp [nv_cnt] at hc ⊢) <;> (try omega)
def nv_gv (h : nv_St) (t i k : Nat) : nv_AV := match nv_rf t k i with
  | some x => .inr (.inl x)
  | none => .inl (h t i k)
theorem nv_gv_tr (X : nv_X) (h : nv_St) (t i k : Nat) : nv_fv X h t i k = nv_tr X (nv_gv h t i k) := by
  unfold nv_fv nv_gv
  cases nv_rf t k i <;> rfl
theorem nv_gv_ok {h : nv_St} {t i k : Nat} (hc : (t, i) ∈ nv_cells) : nv_ok (nv_gv h t i k) := by
  unfold nv_gv
  split
  · next x hx => exact Or.inl (nv_rf_ok hc hx)
  · trivial
theorem nv_cell_obj {X : nv_X} {h : nv_St} {t i ci : Nat} (ht : nv_tcl t = some ci) : nv_cell X h t i = .inr (ci, nv_fs X h ci t i) := by
  unfold nv_cell; rw [ht]
theorem nv_fs_at {X : nv_X} {h : nv_St} {t i ci k : Nat} (hk : k < nv_nf ci) : (nv_fs X h ci t i)[k]? = some (nv_fv X h t i k) := by
  simp [nv_fs, hk]
theorem nv_fs_set {X : nv_X} {h : nv_St} {t i ci k : Nat} {x : Int} (hr : nv_rf t k i = none) : (nv_fs X h ci t i).set k (.int (Int32.ofInt x)) = nv_fs X (nv_up h t i k x) ci t i := by
  apply List.ext_getElem?
  intro j
  rw [List.getElem?_set]
  by_cases hj : k = j
  · subst hj
    rw [if_pos rfl]
    by_cases hl : k < nv_nf ci
    · rw [nv_fs_at hl]
      simp [nv_fs, hl, nv_fv, hr, nv_up]
    · simp [nv_fs, hl]
  · rw [if_neg hj]
    by_cases hl : j < nv_nf ci
    · rw [nv_fs_at hl, nv_fs_at hl]
      simp [nv_fv, nv_up, Ne.symm hj]
    · simp [nv_fs, hl]
theorem nv_set_up {X : nv_X} {h : nv_St} {q t i j : Nat} {x : Int} {e : va_E} (hq : nv_cells[q]? = some (t, i)) (he : nv_cell X (nv_up h t i j x) t i = e) : (nv_ws X h).set q (X.2.1 t i, e) = nv_ws X (nv_up h t i j x) :=
  nv_set hq he (fun _ _ hn => nv_cell_other (by rw [nv_up_row]; exact nv_row_other hn))
section nvIns3
variable {M : nv_MD} {pc : Nat}
def s_gf (ci k nx : Nat) : nv_Sem := fun lv stk h _ K => match stk with
  | .inr (.inl (t, i)) :: r => (match nv_tcl t with
    | some c => (match Nat.beq c ci with
      | true => K nx lv (nv_gv h t i k :: r) h
      | false => False)
    | none => False)
  | _ => False
theorem n_getfield {idx ci k N : Nat} {D : String} {T : u_T} (hd : decode (nv_c M) pc = .ok (.getfield idx, 3)) (hc : vwCl[ci]? = some (D, T, N)) (hin : ∀ w ∈ u_ws D T N, w ∈ lw_tbl) (hkN : k < N) (hnf : k < nv_nf ci) (hw : Cond.fieldLink (nv_own M) idx (T k).1 (T k).2.1 (T k).2.2.1 ∈ lw_tbl) : nv_Snd M pc (s_gf ci k (pc + 3)) := by
  intro lv stk h Q K hK hf X p l e s m args below meth c H locs ls C hP hD hS hl ho hk
  unfold s_gf at hf
  split at hf
  · next t i r =>
    split at hf
    · next c0 hc0 =>
      split at hf
      · next hb =>
        have e0 : c0 = ci := Nat.eq_of_beq_eq_true hb
        subst e0
        have hmem : (t, i) ∈ nv_cells := nv_okc (List.forall_mem_cons.mp hk).1 (by rintro rfl; simp [nv_tcl] at hc0)
        obtain ⟨q, hq, hws⟩ := nv_at (X := X) hmem
        refine va_get (C := D) (T := T) (N := N) (ci := c0) (v := nv_tr X (nv_gv h t i k)) C.1 C.2.1 C.2.2.2.2.2.2.1 (fun w hw => nv_in (hin w hw) ?_) C.2.2.2.2.2.1 C.2.2.2.2.2.2.2.1 hP q (by rw [hws h, nv_cell_obj hc0]) hc k hkN (C.2.2.2.2.2.2.1 _ (nv_in hw rfl)) (fun _ h9 => h9) (by rw [nv_fs_at hnf, nv_gv_tr]) hd ?_
        · obtain ⟨j, -, rfl⟩ := List.mem_map.mp hw
          unfold u_lay; split <;> rfl
        · exact hK _ _ _ _ hf X p l e s m args below meth c H locs ls C hP hD hS hl ho (List.forall_mem_cons.mpr ⟨nv_gv_ok hmem, (List.forall_mem_cons.mp hk).2⟩)
      · exact hf.elim
    · exact hf.elim
  · exact hf.elim
def s_pf (ci k nx : Nat) : nv_Sem := fun lv stk h _ K => match stk with
  | .inl x :: .inr (.inl (t, i)) :: r => (match nv_tcl t with
    | some c => (match Nat.beq c ci with
      | true => (match nv_rf t k i with
        | none => K nx lv r (nv_up h t i k x)
        | some _ => False)
      | false => False)
    | none => False)
  | _ => False
def s_pz (ci k nx : Nat) : nv_Sem := fun lv stk h Q K => match stk with
  | .inl x :: r => (x = 0 ∨ x = 1) ∧ s_pf ci k nx lv (.inl x :: r) h Q K
  | _ => False
theorem n_put0 {idx ci k N : Nat} {D : String} {T : u_T} (ty0 : Nat → FieldType) (hty : ∀ k, k < N → parseFieldDescriptor (T k).2.2.1 = some (ty0 k)) (hnm : ∀ a, a < N → ∀ b, b < N → a ≠ b → (T a).2.1 ≠ (T b).2.1) (hd : decode (nv_c M) pc = .ok (.putfield idx, 3)) (hc : vwCl[ci]? = some (D, T, N)) (hin : ∀ w ∈ u_ws D T N, w ∈ lw_tbl) (hkN : k < N) (hnf : k < nv_nf ci) (hfin : (T k).2.2.2 = false)
    (hw : Cond.fieldLink (nv_own M) idx (T k).1 (T k).2.1 (T k).2.2.1 ∈ lw_tbl) {lv : nv_LV} {stk : List nv_AV} {h : nv_St} {Q : nv_PT} {K : nv_K} {x : Int} (hK : ∀ pc' lv' stk' h', K pc' lv' stk' h' → nv_V M pc' lv' stk' h' Q) (hx : narrow (ty0 k) (.int (Int32.ofInt x)) = .int (Int32.ofInt x) ∧ fits (ty0 k) (.int (Int32.ofInt x)) = true) (hf : s_pf ci k (pc + 3) lv (.inl x :: stk) h Q K) : nv_V M pc lv (.inl x :: stk) h Q := by
  intro X p l e s m args below meth c H locs ls C hP hD hS hl ho hk
  unfold s_pf at hf
  split at hf
  · next x' t i r heq =>
    cases heq
    split at hf
    · next c0 hc0 =>
      split at hf
      · next hb =>
        split at hf
        · next hrf =>
          have e0 : c0 = ci := Nat.eq_of_beq_eq_true hb
          subst e0
          have hk2 := (List.forall_mem_cons.mp hk).2
          have hmem : (t, i) ∈ nv_cells := nv_okc (List.forall_mem_cons.mp hk2).1 (by rintro rfl; simp [nv_tcl] at hc0)
          obtain ⟨q, hq, hws⟩ := nv_at (X := X) hmem
          refine va_put (C := D) (T := T) (N := N) (ci := c0) (v := .int (Int32.ofInt x)) (ty := ty0 k) C.1 C.2.1 C.2.2.2.2.2.2.1 (fun w hw => nv_in (hin w hw) ?_) ty0 hty hnm C.2.2.2.2.2.1 C.2.2.2.2.2.2.2.1 hP hD hS q (by rw [hws h, nv_cell_obj hc0]) hc k hkN (C.2.2.2.2.2.2.1 _ (nv_in hw rfl)) (fun _ h9 => h9) hfin (hty k hkN) hx.1 hx.2 (by simp [nv_fs, hnf]) hd (fun H1 locs1 hP1 hD1 hS1 => ?_)
          · obtain ⟨j, -, rfl⟩ := List.mem_map.mp hw
            unfold u_lay; split <;> rfl
          · rw [nv_set_up (j := k) (x := x) hq (by rw [nv_cell_obj hc0, nv_fs_set hrf])] at hP1 hD1
            exact hK _ _ _ _ hf X p l e s m args below meth c H1 locs1 ls C hP1 hD1 hS1 hl ho (List.forall_mem_cons.mp hk2).2
        · exact hf.elim
      · exact hf.elim
    · exact hf.elim
  · exact hf.elim
theorem n_putfield {idx ci k N : Nat} {D : String} {T : u_T} (ty0 : Nat → FieldType) (hty : ∀ k, k < N → parseFieldDescriptor (T k).2.2.1 = some (ty0 k)) (hnm : ∀ a, a < N → ∀ b, b < N → a ≠ b → (T a).2.1 ≠ (T b).2.1) (hd : decode (nv_c M) pc = .ok (.putfield idx, 3)) (hc : vwCl[ci]? = some (D, T, N)) (hin : ∀ w ∈ u_ws D T N, w ∈ lw_tbl) (hkN : k < N) (hnf : k < nv_nf ci) (hfin : (T k).2.2.2 = false)
    (hw : Cond.fieldLink (nv_own M) idx (T k).1 (T k).2.1 (T k).2.2.1 ∈ lw_tbl) (hi : ty0 k = .int) : nv_Snd M pc (s_pf ci k (pc + 3)) := by
  intro lv stk h Q K hK hf
  match stk, hf with
  | .inl x :: r, hf => exact n_put0 ty0 hty hnm hd hc hin hkN hnf hfin hw hK (by rw [hi]; exact ⟨rfl, rfl⟩) hf
  | [], hf => exact hf.elim
  | .inr _ :: _, hf => exact hf.elim
theorem n_putbool {idx ci k N : Nat} {D : String} {T : u_T} (ty0 : Nat → FieldType) (hty : ∀ k, k < N → parseFieldDescriptor (T k).2.2.1 = some (ty0 k)) (hnm : ∀ a, a < N → ∀ b, b < N → a ≠ b → (T a).2.1 ≠ (T b).2.1) (hd : decode (nv_c M) pc = .ok (.putfield idx, 3)) (hc : vwCl[ci]? = some (D, T, N)) (hin : ∀ w ∈ u_ws D T N, w ∈ lw_tbl) (hkN : k < N) (hnf : k < nv_nf ci) (hfin : (T k).2.2.2 = false)
    (hw : Cond.fieldLink (nv_own M) idx (T k).1 (T k).2.1 (T k).2.2.1 ∈ lw_tbl) (hi : ty0 k = .boolean) : nv_Snd M pc (s_pz ci k (pc + 3)) := by
  intro lv stk h Q K hK hf
  match stk, hf with
  | .inl x :: r, hf => exact n_put0 ty0 hty hnm hd hc hin hkN hnf hfin hw hK (by rw [hi]; rcases hf.1 with rfl | rfl <;> exact ⟨rfl, rfl⟩) hf.2
  | [], hf => exact hf.elim
  | .inr _ :: _, hf => exact hf.elim
/-! arrays -/
def s_ia (nx : Nat) : nv_Sem := fun lv stk h _ K => match stk with
  | .inl j :: .inr (.inl (t, i)) :: r => (match nv_tcl t with
    | some _ => False
    | none => (match nv_tar t with
      | (0, n) => ∃ q : Nat, j = (q : Int) ∧ q < n ∧ K nx lv (.inl (h t i q) :: r) h
      | _ => False))
  | _ => False
theorem n_iaload (hd : decode (nv_c M) pc = .ok (.iaload, 1)) : nv_Snd M pc (s_ia (pc + 1)) := by
  intro lv stk h Q K hK hf X p l e s m args below meth c H locs ls C hP hD hS hl ho hk
  unfold s_ia at hf
  split at hf
  · next j t i r =>
    split at hf
    · exact hf.elim
    · next hcl =>
      split at hf
      · next n htar =>
        obtain ⟨q, rfl, hqn, hf⟩ := hf
        have hk2 := (List.forall_mem_cons.mp hk).2
        have hmem : (t, i) ∈ nv_cells := nv_okc (List.forall_mem_cons.mp hk2).1 (by rintro rfl; simp [nv_tar] at htar)
        have hn : n < 2 ^ 31 := by have h9 := nv_tar_len t; rw [htar] at h9; exact h9
        obtain ⟨q0, hq0, hws⟩ := nv_at (X := X) hmem
        refine va_iald C.1 C.2.1 C.2.2.2.2.2.2.2.1 hP q0 0 (f := fun j => Int32.ofInt (h t i j)) (by rw [hws h]; unfold nv_cell nv_arr; rw [hcl]; simp only [htar]) rfl (nv_vin hqn hn) hd ?_
        rw [nv_clamp (by omega)]
        exact hK _ _ _ _ hf X p l e s m args below meth c H locs ls C hP hD hS hl ho (List.forall_mem_cons.mpr ⟨trivial, (List.forall_mem_cons.mp hk2).2⟩)
      · exact hf.elim
  · exact hf.elim
def s_ca (nx : Nat) : nv_Sem := fun lv stk h _ K => match stk with
  | .inl j :: .inr (.inl (t, i)) :: r => (match nv_tcl t with
    | some _ => False
    | none => (match nv_tar t with
      | (2, n) => ∃ q : Nat, j = (q : Int) ∧ q < n ∧ K nx lv (.inl (h t i q) :: r) h
      | _ => False))
  | _ => False
theorem n_caload (hd : decode (nv_c M) pc = .ok (.caload, 1)) : nv_Snd M pc (s_ca (pc + 1)) := by
  intro lv stk h Q K hK hf X p l e s m args below meth c H locs ls C hP hD hS hl ho hk
  unfold s_ca at hf
  split at hf
  · next j t i r =>
    split at hf
    · exact hf.elim
    · next hcl =>
      split at hf
      · next n htar =>
        obtain ⟨q, rfl, hqn, hf⟩ := hf
        have hk2 := (List.forall_mem_cons.mp hk).2
        have hmem : (t, i) ∈ nv_cells := nv_okc (List.forall_mem_cons.mp hk2).1 (by rintro rfl; simp [nv_tar] at htar)
        have hn : n < 2 ^ 31 := by have h9 := nv_tar_len t; rw [htar] at h9; exact h9
        obtain ⟨q0, hq0, hws⟩ := nv_at (X := X) hmem
        refine va_cald C.1 C.2.1 C.2.2.2.2.2.2.2.1 hP q0 2 (f := fun j => Int32.ofInt (h t i j)) (by rw [hws h]; unfold nv_cell nv_arr; rw [hcl]; simp only [htar]) rfl (nv_vin hqn hn) hd ?_
        rw [nv_clamp (by omega)]
        exact hK _ _ _ _ hf X p l e s m args below meth c H locs ls C hP hD hS hl ho (List.forall_mem_cons.mpr ⟨trivial, (List.forall_mem_cons.mp hk2).2⟩)
      · exact hf.elim
  · exact hf.elim
def s_la (nx : Nat) : nv_Sem := fun lv stk h _ K => match stk with
  | .inl j :: .inr (.inl (t, i)) :: r => (match nv_tcl t with
    | some _ => False
    | none => (match nv_tar t with
      | (1, n) => ∃ q : Nat, j = (q : Int) ∧ q < n ∧ K nx lv (.inr (.inr (h t i q)) :: r) h
      | _ => False))
  | _ => False
theorem n_laload (hd : decode (nv_c M) pc = .ok (.laload, 1)) : nv_Snd M pc (s_la (pc + 1)) := by
  intro lv stk h Q K hK hf X p l e s m args below meth c H locs ls C hP hD hS hl ho hk
  unfold s_la at hf
  split at hf
  · next j t i r =>
    split at hf
    · exact hf.elim
    · next hcl =>
      split at hf
      · next n htar =>
        obtain ⟨q, rfl, hqn, hf⟩ := hf
        have hk2 := (List.forall_mem_cons.mp hk).2
        have hmem : (t, i) ∈ nv_cells := nv_okc (List.forall_mem_cons.mp hk2).1 (by rintro rfl; simp [nv_tar] at htar)
        have hn : n < 2 ^ 31 := by have h9 := nv_tar_len t; rw [htar] at h9; exact h9
        obtain ⟨q0, hq0, hws⟩ := nv_at (X := X) hmem
        refine va_lald C.1 C.2.1 C.2.2.2.2.2.2.2.1 hP q0 1 (f := fun j => Int64.ofInt (h t i j)) (by rw [hws h]; unfold nv_cell nv_arr; rw [hcl]; simp only [htar]) rfl (nv_vin hqn hn) hd ?_
        rw [nv_clamp (by omega)]
        exact hK _ _ _ _ hf X p l e s m args below meth c H locs ls C hP hD hS hl ho (List.forall_mem_cons.mpr ⟨trivial, (List.forall_mem_cons.mp hk2).2⟩)
      · exact hf.elim
  · exact hf.elim
def s_iw (nx : Nat) : nv_Sem := fun lv stk h _ K => match stk with
  | .inl x :: .inl j :: .inr (.inl (t, i)) :: r => (match nv_tcl t with
    | some _ => False
    | none => (match nv_tar t with
      | (0, n) => ∃ q : Nat, j = (q : Int) ∧ q < n ∧ K nx lv r (nv_up h t i q x)
      | _ => False))
  | _ => False
theorem n_iastore (hd : decode (nv_c M) pc = .ok (.iastore, 1)) : nv_Snd M pc (s_iw (pc + 1)) := by
  intro lv stk h Q K hK hf X p l e s m args below meth c H locs ls C hP hD hS hl ho hk
  unfold s_iw at hf
  split at hf
  · next x j t i r =>
    split at hf
    · exact hf.elim
    · next hcl =>
      split at hf
      · next n htar =>
        obtain ⟨q, rfl, hqn, hf⟩ := hf
        have hk2 := (List.forall_mem_cons.mp (List.forall_mem_cons.mp hk).2).2
        have hmem : (t, i) ∈ nv_cells := nv_okc (List.forall_mem_cons.mp hk2).1 (by rintro rfl; simp [nv_tar] at htar)
        have hn : n < 2 ^ 31 := by have h9 := nv_tar_len t; rw [htar] at h9; exact h9
        obtain ⟨q0, hq0, hws⟩ := nv_at (X := X) hmem
        refine va_iast C.1 C.2.1 C.2.2.2.2.2.2.2.1 hP hD hS q0 0 (f := fun j => Int32.ofInt (h t i j)) (by rw [hws h]; unfold nv_cell nv_arr; rw [hcl]; simp only [htar]) rfl (nv_vin hqn hn) hd (fun H1 locs1 hP1 hD1 hS1 => ?_)
        rw [nv_clamp (by omega)] at hP1 hD1
        rw [nv_set_up (j := q) (x := x) hq0 (by unfold nv_cell nv_arr; rw [hcl]; simp only [htar]; congr 4; funext k; simp only [nv_up, upd, true_and]; split <;> rfl)] at hP1 hD1
        exact hK _ _ _ _ hf X p l e s m args below meth c H1 locs1 ls C hP1 hD1 hS1 hl ho (List.forall_mem_cons.mp hk2).2
      · exact hf.elim
  · exact hf.elim
def s_lw (nx : Nat) : nv_Sem := fun lv stk h _ K => match stk with
  | .inr (.inr x) :: .inl j :: .inr (.inl (t, i)) :: r => (match nv_tcl t with
    | some _ => False
    | none => (match nv_tar t with
      | (1, n) => ∃ q : Nat, j = (q : Int) ∧ q < n ∧ K nx lv r (nv_up h t i q x)
      | _ => False))
  | _ => False
theorem n_lastore (hd : decode (nv_c M) pc = .ok (.lastore, 1)) : nv_Snd M pc (s_lw (pc + 1)) := by
  intro lv stk h Q K hK hf X p l e s m args below meth c H locs ls C hP hD hS hl ho hk
  unfold s_lw at hf
  split at hf
  · next x j t i r =>
    split at hf
    · exact hf.elim
    · next hcl =>
      split at hf
      · next n htar =>
        obtain ⟨q, rfl, hqn, hf⟩ := hf
        have hk2 := (List.forall_mem_cons.mp (List.forall_mem_cons.mp hk).2).2
        have hmem : (t, i) ∈ nv_cells := nv_okc (List.forall_mem_cons.mp hk2).1 (by rintro rfl; simp [nv_tar] at htar)
        have hn : n < 2 ^ 31 := by have h9 := nv_tar_len t; rw [htar] at h9; exact h9
        obtain ⟨q0, hq0, hws⟩ := nv_at (X := X) hmem
        refine va_last C.1 C.2.1 C.2.2.2.2.2.2.2.1 hP hD hS q0 1 (f := fun j => Int64.ofInt (h t i j)) (by rw [hws h]; unfold nv_cell nv_arr; rw [hcl]; simp only [htar]) rfl (nv_vin hqn hn) hd (fun H1 locs1 hP1 hD1 hS1 => ?_)
        rw [nv_clamp (by omega)] at hP1 hD1
        rw [nv_set_up (j := q) (x := x) hq0 (by unfold nv_cell nv_arr; rw [hcl]; simp only [htar]; congr 5; funext k; simp only [nv_up, vp_updL, true_and]; split <;> rfl)] at hP1 hD1
        exact hK _ _ _ _ hf X p l e s m args below meth c H1 locs1 ls C hP1 hD1 hS1 hl ho (List.forall_mem_cons.mp hk2).2
      · exact hf.elim
  · exact hf.elim
theorem nv_nar {x : Int} (hx : 0 ≤ x ∧ x < 65536) : vp_nar .char (Int32.ofInt x) = Int32.ofInt x := by
  obtain ⟨n, rfl, hn⟩ := nv_nat ⟨hx.1, by omega⟩
  have h := (pk_charN (q := n) (by omega)).1
  rw [nv_ofNat]
  unfold vp_nar
  rw [h]
def s_cw (nx : Nat) : nv_Sem := fun lv stk h _ K => match stk with
  | .inl x :: .inl j :: .inr (.inl (t, i)) :: r => (match nv_tcl t with
    | some _ => False
    | none => (match nv_tar t with
      | (2, n) => (0 ≤ x ∧ x < 65536) ∧ ∃ q : Nat, j = (q : Int) ∧ q < n ∧ K nx lv r (nv_up h t i q x)
      | _ => False))
  | _ => False
theorem n_castore (hd : decode (nv_c M) pc = .ok (.castore, 1)) : nv_Snd M pc (s_cw (pc + 1)) := by
  intro lv stk h Q K hK hf X p l e s m args below meth c H locs ls C hP hD hS hl ho hk
  unfold s_cw at hf
  split at hf
  · next x j t i r =>
    split at hf
    · exact hf.elim
    · next hcl =>
      split at hf
      · next n htar =>
        obtain ⟨hx, q, rfl, hqn, hf⟩ := hf
        have hk2 := (List.forall_mem_cons.mp (List.forall_mem_cons.mp hk).2).2
        have hmem : (t, i) ∈ nv_cells := nv_okc (List.forall_mem_cons.mp hk2).1 (by rintro rfl; simp [nv_tar] at htar)
        have hn : n < 2 ^ 31 := by have h9 := nv_tar_len t; rw [htar] at h9; exact h9
        obtain ⟨q0, hq0, hws⟩ := nv_at (X := X) hmem
        refine va_cast C.1 C.2.1 C.2.2.2.2.2.2.2.1 hP hD hS q0 2 (f := fun j => Int32.ofInt (h t i j)) (by rw [hws h]; unfold nv_cell nv_arr; rw [hcl]; simp only [htar]) rfl (nv_vin hqn hn) hd (fun H1 locs1 hP1 hD1 hS1 => ?_)
        rw [nv_clamp (by omega)] at hP1 hD1
        rw [nv_set_up (j := q) (x := x) hq0 (by unfold nv_cell nv_arr; rw [hcl]; simp only [htar]; congr 4; funext k; simp only [nv_up, upd, true_and]; rw [nv_nar hx]; split <;> rfl)] at hP1 hD1
        exact hK _ _ _ _ hf X p l e s m args below meth c H1 locs1 ls C hP1 hD1 hS1 hl ho (List.forall_mem_cons.mp hk2).2
      · exact hf.elim
  · exact hf.elim
def s_a3 (nx : Nat) : nv_Sem := fun lv stk h _ K => match stk with
  | .inl j :: .inr (.inl (t, i)) :: r => (match Nat.beq t 12 with
    | true => ∃ q : Nat, j = (q : Int) ∧ q < 8 ∧ K nx lv (.inr (.inl (nv_re 12 i q)) :: r) h
    | false => False)
  | _ => False
theorem n_aaload3 (hd : decode (nv_c M) pc = .ok (.aaload, 1)) : nv_Snd M pc (s_a3 (pc + 1)) := by
  intro lv stk h Q K hK hf X p l e s m args below meth c H locs ls C hP hD hS hl ho hk
  unfold s_a3 at hf
  split at hf
  · next j t i r =>
    split at hf
    · next hb =>
      have e0 : t = 12 := Nat.eq_of_beq_eq_true hb
      subst e0
      obtain ⟨q, rfl, hqn, hf⟩ := hf
      have hk2 := (List.forall_mem_cons.mp hk).2
      have hmem : (12, i) ∈ nv_cells := nv_okc (List.forall_mem_cons.mp hk2).1 (by decide)
      obtain ⟨q0, hq0, hws⟩ := nv_at (X := X) hmem
      refine va_aldq (C := RX0) (n := 8) C.1 C.2.1 C.2.2.2.2.2.2.2.1 hP q0 3 (f := fun j => some (X.2.1 (nv_re 12 i j).1 (nv_re 12 i j).2)) (hws h) rfl (nv_vin hqn (by decide)) hd ?_
      rw [nv_clamp (by omega)]
      have hm2 : nv_re 12 i q ∈ nv_cells := by
        rw [nv_mem] at hmem
        show (0, 3 + 8 * i + q) ∈ nv_cells
        rw [nv_mem]
        simp [nv_cnt] at hmem ⊢
        omega
      exact hK _ _ _ _ hf X p l e s m args below meth c H locs ls C hP hD hS hl ho (List.forall_mem_cons.mpr ⟨Or.inl hm2, (List.forall_mem_cons.mp hk2).2⟩)
    · exact hf.elim
  · exact hf.elim
def s_a4 (nx : Nat) : nv_Sem := fun lv stk h _ K => match stk with
  | .inl j :: .inr (.inl (t, i)) :: r => (match Nat.beq t 15 with
    | true => ∃ q : Nat, j = (q : Int) ∧ q < 4 ∧ K nx lv (.inr (.inl (nv_re 15 i q)) :: r) h
    | false => False)
  | _ => False
theorem n_aaload4 (hd : decode (nv_c M) pc = .ok (.aaload, 1)) : nv_Snd M pc (s_a4 (pc + 1)) := by
  intro lv stk h Q K hK hf X p l e s m args below meth c H locs ls C hP hD hS hl ho hk
  unfold s_a4 at hf
  split at hf
  · next j t i r =>
    split at hf
    · next hb =>
      have e0 : t = 15 := Nat.eq_of_beq_eq_true hb
      subst e0
      obtain ⟨q, rfl, hqn, hf⟩ := hf
      have hk2 := (List.forall_mem_cons.mp hk).2
      have hmem : (15, i) ∈ nv_cells := nv_okc (List.forall_mem_cons.mp hk2).1 (by decide)
      obtain ⟨q0, hq0, hws⟩ := nv_at (X := X) hmem
      refine va_aldq (C := RX3) (n := 4) C.1 C.2.1 C.2.2.2.2.2.2.2.1 hP q0 4 (f := fun j => some (X.2.1 (nv_re 15 i j).1 (nv_re 15 i j).2)) (hws h) rfl (nv_vin hqn (by decide)) hd ?_
      rw [nv_clamp (by omega)]
      have hm2 : nv_re 15 i q ∈ nv_cells := by
        rw [nv_mem] at hmem
        show (16, q) ∈ nv_cells
        rw [nv_mem]
        simp [nv_cnt] at hmem ⊢
        omega
      exact hK _ _ _ _ hf X p l e s m args below meth c H locs ls C hP hD hS hl ho (List.forall_mem_cons.mpr ⟨Or.inl hm2, (List.forall_mem_cons.mp hk2).2⟩)
    · exact hf.elim
  · exact hf.elim
end nvIns3
end
section
/-! ===== calls ===== -/
def nv_take : Nat → List nv_AV → List nv_AV → Option (List nv_AV × List nv_AV)
  | 0, acc, r => some (acc, r)
  | _ + 1, _, [] => none
  | n + 1, acc, v :: r => nv_take n (v :: acc) r
theorem nv_take_eq : ∀ {n : Nat} {acc stk as r : List nv_AV}, nv_take n acc stk = some (as, r) → as.length = n + acc.length ∧ as.reverse ++ r = acc.reverse ++ stk
  | 0, acc, stk, as, r, h => by
    simp [nv_take] at h
    obtain ⟨rfl, rfl⟩ := h
    simp
  | n + 1, acc, [], as, r, h => by simp [nv_take] at h
  | n + 1, acc, v :: stk, as, r, h => by
    obtain ⟨h1, h2⟩ := nv_take_eq (n := n) (acc := v :: acc) h
    simp at h1 h2 ⊢
    exact ⟨by omega, h2⟩
def nv_co (v : Option nv_AV) (r : List nv_AV) : List nv_AV := match v with
  | some x => x :: r
  | none => r
theorem nv_len_cat (X : nv_X) : ∀ r : List nv_AV, ((r.map (nv_tr X)).map fun v => v.category).sum = nv_len r
  | [] => rfl
  | v :: r => by
    have h := nv_len_cat X r
    simp only [List.map_cons, List.sum_cons, nv_len, nv_tr_cat] at h ⊢
    rw [h]
theorem nv_callW {p : Program} {l : Launch} {e : Env} {R : Room} {s : State} {m : MethodId} {args : Array Value} {below : List Frame} {meth : Method} {c : Code} {H : Heap} {locs : List Loc} {Qw : State → Prop} {pc : Nat} {ls : Array Slot} {rest st0 : List Value} {a : Array Value} {X : nv_X} {P' : nv_PT}
    (hr : va_Run p l e R s m args below meth c H locs 0 0 0 0 (F0 m pc ls st0) rest (nv_Qc X P' a) (nv_A X)) (hS : va_S (nv_A X) s.heap H locs)
    (kk : ∀ (r : Option nv_AV) (h' : nv_St) (H1 : Heap) (locs1 : List Loc), (∀ v, r = some v → nv_ok v) → P' r h' → va_P X.1 vwCl (nv_ws X h') H1 → va_D (nv_A X) (nv_ws X h') → va_S (nv_A X) s.heap H1 locs1 → W p l e R s m args below meth c H1 locs1 0 0 Qw (F0 m (pc + 3) ls ((r.map (nv_tr X)).toList ++ rest))) :
    W p l e R s m args below meth c H locs 0 0 Qw (F0 m pc ls st0) := by
  intro T hT Y
  obtain ⟨v, st₀, t, T', L, h0, Y', hL, e1, e2, ⟨⟨r, h', hv, hok, hp, hP1, hD1⟩, hz, hk⟩, st⟩ := hr T hT Y
  cases hv
  rw [h0] at hz hk
  obtain ⟨t2, a1, b1⟩ := kk r h' T'.heap (locs ++ L) hok hp (by rw [e1]; exact hP1) hD1
    ⟨Nat.le_trans hS.1 (by rw [e1]; exact hz), fun q h1 h2 => by rw [e1, hk q (Nat.lt_of_lt_of_le h1 hS.1) h2]; exact hS.2.1 q h1 h2, fun q hq => by
      rcases List.mem_append.mp hq with h | h
      · exact hS.2.2 q h
      · exact hL q h⟩ T' rfl Y'
  exact ⟨t2, st t2 a1, b1⟩
theorem nv_co_tr (X : nv_X) (r : Option nv_AV) (rest : List nv_AV) : (r.map (nv_tr X)).toList ++ rest.map (nv_tr X) = (nv_co r rest).map (nv_tr X) := by
  cases r <;> rfl
theorem nv_co_ok {r : Option nv_AV} {rest : List nv_AV} (h1 : ∀ v, r = some v → nv_ok v) (h2 : ∀ v ∈ rest, nv_ok v) : ∀ v ∈ nv_co r rest, nv_ok v := by
  cases r with
  | none => exact h2
  | some x => exact List.forall_mem_cons.mpr ⟨h1 x rfl, h2⟩
/-- a method that can be called: its code and class stand in the tables -/
def nv_fn (M : nv_MD) (n : Nat) : Prop := Cond.code (nv_y M) (nv_c M) (nv_mL M) (nv_ret M) ∈ lw_tbl ∧ Cond.initialized (nv_y M).cls ∈ lw_tbl ∧ ((nv_y M).cls ≠ "java/lang/invoke/MethodHandle" ∧ (nv_y M).cls ≠ "java/lang/invoke/VarHandle" ∧ (parseMethodDescriptor (nv_y M).desc).map (fun d => d.parameters.length) = some n)
def nv_fnV (M : nv_MD) : Prop := Cond.instanceMethod (nv_y M) ∈ lw_tbl ∧ Cond.selects (nv_y M).cls (nv_y M) (nv_y M) ∈ lw_tbl
def nv_fit (M M' : nv_MD) : Prop := (nv_rm M').frames + 1 ≤ (nv_rm M).frames ∧ 8 + (nv_mL M' + 11) + (nv_rm M').locals ≤ (nv_rm M).locals
theorem nv_pre {M' : nv_MD} {X : nv_X} {h : nv_St} {av : List nv_AV} : FrameBlind (va_Pc (av.map (nv_tr X)) (fun U => va_P X.1 vwCl (nv_ws X h) U.heap ∧ va_D (nv_A X) (nv_ws X h) ∧ nv_KK X U)) :=
  fun a U g mk q => by
    obtain ⟨q0, q1, q2, q3⟩ := q
    exact ⟨q0, q1, q2, q3.calling g mk a⟩
section nvCalls
variable {M : nv_MD} {pc : Nat}
def s_cs (M' : nv_MD) (n nx : Nat) : nv_Sem := fun lv stk h _ K => match nv_take n [] stk with
  | some (as, r) => (match Nat.ble (nv_len r) 8 with
    | true => ∃ P' : nv_PT, nv_R M' as h P' ∧ ∀ v h', P' v h' → K nx lv (nv_co v r) h'
    | false => False)
  | none => False
theorem n_static {M' : nv_MD} {idx n : Nat} (hd : decode (nv_c M) pc = .ok (.invokestatic idx, 3)) (hfn : nv_fn M' n) (hst : Cond.static (nv_y M') ∈ lw_tbl) (hl : Cond.methodLink (nv_own M) idx (nv_y M') ∈ lw_tbl) (hfit : nv_fit M M') : nv_Snd M pc (s_cs M' n (pc + 3)) := by
  intro lv stk h Q K hK hf X p l e s m args below meth c H locs ls C hP hD hS hl' ho hk
  unfold s_cs at hf
  split at hf
  · next as r hta =>
    split at hf
    · next hb =>
      obtain ⟨P', hR, hf⟩ := hf
      obtain ⟨hlen, hsk⟩ := nv_take_eq hta
      simp at hlen hsk
      have ht := C.2.2.2.2.2.2.1
      have hok1 : ∀ v ∈ as, nv_ok v := fun v hv => hk v (by rw [← hsk]; exact List.mem_append_left _ (List.mem_reverse.mpr hv))
      have hok2 : ∀ v ∈ r, nv_ok v := fun v hv => hk v (by rw [← hsk]; exact List.mem_append_right _ hv)
      refine nv_callW (rest := r.map (nv_tr X)) (va_runS (As := as.map (nv_tr X)) (n := n) ⟨C.1, C.2.1, C.2.2.2.1, C.2.2.2.2.2.1, ht⟩ (hR l X hok1)
        ⟨callB_of n ht (nv_good hfn.1) rfl rfl rfl (ht _ (nv_in hfn.2.1 rfl)) (ht _ (nv_in hl rfl)) hfn.2.2 hfit, ht _ (nv_in hst rfl)⟩
        ⟨nv_pre (M' := M'), fun U hU hW => ⟨rfl, by rw [hU]; exact hP, hD, C.2.2.2.2.2.2.2.go hS hU hW⟩⟩ rfl (by simp [hlen]) hl'.1 ?_ (lv_room (by rw [nv_len_cat]; exact Nat.le_of_ble_eq_true hb)) hd ⟨Nat.le_refl _, Nat.le_refl _⟩) hS (fun r' h' H1 locs1 hok3 hp hP1 hD1 hS1 => ?_)
      · rw [← hsk]; simp [List.map_append, List.map_reverse]
      · rw [nv_co_tr]
        exact hK _ _ _ _ (hf r' h' hp) X p l e s m args below meth c H1 locs1 ls C hP1 hD1 hS1 hl' ho (nv_co_ok hok3 hok2)
    · exact hf.elim
  · exact hf.elim
theorem n_staticN {M' : nv_MD} {idx n : Nat} {host : String} (hd : decode (nv_c M) pc = .ok (.invokestatic idx, 3)) (hfn : nv_fn M' n) (hst : Cond.static (nv_y M') ∈ lw_tbl) (hl : ∀ X U, nv_KK X U → va_Nw (.methodLinkNest (nv_own M) idx (nv_y M') host) U) (hfit : nv_fit M M') : nv_Snd M pc (s_cs M' n (pc + 3)) := by
  intro lv stk h Q K hK hf X p l e s m args below meth c H locs ls C hP hD hS hl' ho hk
  unfold s_cs at hf
  split at hf
  · next as r hta =>
    split at hf
    · next hb =>
      obtain ⟨P', hR, hf⟩ := hf
      obtain ⟨hlen, hsk⟩ := nv_take_eq hta
      simp at hlen hsk
      have ht := C.2.2.2.2.2.2.1
      have hok1 : ∀ v ∈ as, nv_ok v := fun v hv => hk v (by rw [← hsk]; exact List.mem_append_left _ (List.mem_reverse.mpr hv))
      have hok2 : ∀ v ∈ r, nv_ok v := fun v hv => hk v (by rw [← hsk]; exact List.mem_append_right _ hv)
      refine nv_callW (rest := r.map (nv_tr X)) (va_runSN (As := as.map (nv_tr X)) (n := n) ⟨C.1, C.2.1, C.2.2.2.1, C.2.2.2.2.2.1, ht⟩ (hR l X hok1)
        ⟨va_cnB n ht (nv_good hfn.1) rfl rfl rfl (hl X s C.2.2.2.2.2.2.2) (ht _ (nv_in hfn.2.1 rfl)) hfn.2.2 hfit, ht _ (nv_in hst rfl), trivial⟩
        ⟨nv_pre (M' := M'), fun U hU hW => ⟨rfl, by rw [hU]; exact hP, hD, C.2.2.2.2.2.2.2.go hS hU hW⟩⟩ rfl (by simp [hlen]) hl'.1 ?_ (lv_room (by rw [nv_len_cat]; exact Nat.le_of_ble_eq_true hb)) hd ⟨Nat.le_refl _, Nat.le_refl _⟩) hS (fun r' h' H1 locs1 hok3 hp hP1 hD1 hS1 => ?_)
      · rw [← hsk]; simp [List.map_append, List.map_reverse]
      · rw [nv_co_tr]
        exact hK _ _ _ _ (hf r' h' hp) X p l e s m args below meth c H1 locs1 ls C hP1 hD1 hS1 hl' ho (nv_co_ok hok3 hok2)
    · exact hf.elim
  · exact hf.elim
def s_cv (ci : Nat) (M' : nv_MD) (n nx : Nat) : nv_Sem := fun lv stk h _ K => match nv_take (n + 1) [] stk with
  | some (.inr (.inl (t, i)) :: as, r) => (match nv_tcl t with
    | some c => (match Nat.beq c ci with
      | true => (match Nat.ble (nv_len r) 8 with
        | true => ∃ P' : nv_PT, nv_R M' (.inr (.inl (t, i)) :: as) h P' ∧ ∀ v h', P' v h' → K nx lv (nv_co v r) h'
        | false => False)
      | false => False)
    | none => False)
  | _ => False
theorem n_virtual {M' : nv_MD} {idx n ci N : Nat} {D : String} {T : u_T} (hd : decode (nv_c M) pc = .ok (.invokevirtual idx, 3)) (hfn : nv_fn M' n) (hfv : nv_fnV M') (hc : vwCl[ci]? = some (D, T, N)) (hDy : D = (nv_y M').cls) (hl : Cond.methodLink (nv_own M) idx (nv_y M') ∈ lw_tbl) (hfit : nv_fit M M') : nv_Snd M pc (s_cv ci M' n (pc + 3)) := by
  intro lv stk h Q K hK hf X p l e s m args below meth c H locs ls C hP hD hS hl' ho hk
  unfold s_cv at hf
  split at hf
  · next t i as r hta =>
    split at hf
    · next c0 hc0 =>
      split at hf
      · next hb0 =>
        have e0 : c0 = ci := Nat.eq_of_beq_eq_true hb0
        subst e0
        split at hf
        · next hb =>
          obtain ⟨P', hR, hf⟩ := hf
          obtain ⟨hlen, hsk⟩ := nv_take_eq hta
          simp at hlen hsk
          have ht := C.2.2.2.2.2.2.1
          have hok1 : ∀ v ∈ (.inr (.inl (t, i)) :: as : List nv_AV), nv_ok v := fun v hv => hk v (by
            rw [← hsk]
            rcases List.mem_cons.mp hv with rfl | hv
            · simp
            · simp [hv])
          have hok2 : ∀ v ∈ r, nv_ok v := fun v hv => hk v (by rw [← hsk]; simp [hv])
          have hmem : (t, i) ∈ nv_cells := nv_okc (hok1 _ List.mem_cons_self) (by rintro rfl; simp [nv_tcl] at hc0)
          obtain ⟨q, hq, hws⟩ := nv_at (X := X) hmem
          have hrec := va_recv C.2.2.2.2.2.2.2.1 hP hc (show (nv_ws X h)[q]? = some (X.2.1 t i, .inr (c0, nv_fs X h c0 t i)) by rw [hws h, nv_cell_obj hc0])
          refine nv_callW (rest := r.map (nv_tr X)) (va_runV (C := D) (b := X.2.1 t i) (As := as.map (nv_tr X)) (n := n) ⟨C.1, C.2.1, C.2.2.2.1, C.2.2.2.2.2.1, ht⟩ (hR l X hok1)
            ⟨callB_of n ht (nv_good hfn.1) rfl rfl rfl (ht _ (nv_in hfn.2.1 rfl)) (ht _ (nv_in hl rfl)) hfn.2.2 hfit, ht _ (nv_in hfv.1 rfl), by rw [hDy]; exact ht _ (nv_in hfv.2 rfl)⟩
            ⟨nv_pre (M' := M'), hrec, fun U hU hW => ⟨rfl, by rw [hU]; exact hP, hD, C.2.2.2.2.2.2.2.go hS hU hW⟩⟩ rfl (by simp; omega) hl'.1 ?_ (lv_room (by rw [nv_len_cat]; exact Nat.le_of_ble_eq_true hb)) hd ⟨Nat.le_refl _, Nat.le_refl _⟩) hS (fun r' h' H1 locs1 hok3 hp hP1 hD1 hS1 => ?_)
          · rw [← hsk]; simp [List.map_append, List.map_reverse, nv_tr]
          · rw [nv_co_tr]
            exact hK _ _ _ _ (hf r' h' hp) X p l e s m args below meth c H1 locs1 ls C hP1 hD1 hS1 hl' ho (nv_co_ok hok3 hok2)
        · exact hf.elim
      · exact hf.elim
    · exact hf.elim
  · exact hf.elim
/-- the letters of the kinds, and the one method of String that is called -/
def s_str (nx : Nat) : nv_Sem := fun lv stk h _ K => K nx lv (.inr (.inl (30, 0)) :: stk) h
theorem n_ldcS (hd : decode (nv_c M) pc = .ok (.ldc 63, 2)) (ho' : nv_own M = "NoonSaws$Tape") : nv_Snd M pc (s_str (pc + 2)) := by
  intro lv stk h Q K hK hf X p l e s m args below meth c H locs ls C hP hD hS hl ho hk
  exact va_ldcS (own := "NoonSaws$Tape") (tx := "poghs") C.1 C.2.1 (by rw [← ho']; exact C.2.2.2.2.2.1) C.2.2.2.2.2.2.2.2.2.2.1 hd (hK _ _ _ _ hf X p l e s m args below meth c H locs ls C hP hD hS hl ho (List.forall_mem_cons.mpr ⟨Or.inr rfl, hk⟩))
def s_cS (M' : nv_MD) (n nx : Nat) : nv_Sem := fun lv stk h _ K => match nv_take (n + 1) [] stk with
  | some (.inr (.inl (t, i)) :: as, r) => (match Nat.beq t 30 with
    | true => (match Nat.ble (nv_len r) 8 with
      | true => ∃ P' : nv_PT, nv_R M' (.inr (.inl (t, i)) :: as) h P' ∧ ∀ v h', P' v h' → K nx lv (nv_co v r) h'
      | false => False)
    | false => False)
  | _ => False
theorem n_virtualS {M' : nv_MD} {idx n : Nat} (hd : decode (nv_c M) pc = .ok (.invokevirtual idx, 3)) (hfn : nv_fn M' n) (hfv : nv_fnV M') (hDy : (nv_y M').cls = "java/lang/String") (hl : Cond.methodLink (nv_own M) idx (nv_y M') ∈ lw_tbl) (hfit : nv_fit M M') : nv_Snd M pc (s_cS M' n (pc + 3)) := by
  intro lv stk h Q K hK hf X p l e s m args below meth c H locs ls C hP hD hS hl' ho hk
  unfold s_cS at hf
  split at hf
  · next t i as r hta =>
    split at hf
    · next hb0 =>
      have e0 : t = 30 := Nat.eq_of_beq_eq_true hb0
      subst e0
      split at hf
      · next hb =>
        obtain ⟨P', hR, hf⟩ := hf
        obtain ⟨hlen, hsk⟩ := nv_take_eq hta
        simp at hlen hsk
        have ht := C.2.2.2.2.2.2.1
        have hok1 : ∀ v ∈ (.inr (.inl (30, i)) :: as : List nv_AV), nv_ok v := fun v hv => hk v (by
          rw [← hsk]
          rcases List.mem_cons.mp hv with rfl | hv
          · simp
          · simp [hv])
        have hok2 : ∀ v ∈ r, nv_ok v := fun v hv => hk v (by rw [← hsk]; simp [hv])
        have hi : i = 0 := by
          rcases hok1 _ List.mem_cons_self with h0 | h0
          · rw [nv_mem] at h0; omega
          · exact congrArg Prod.snd h0
        subst hi
        have hrec := vk_recv (i := 0) C.2.2.2.2.2.2.2.2.2.2.2.1 (by decide) hS
        refine nv_callW (rest := r.map (nv_tr X)) (va_runV (C := "java/lang/String") (b := X.2.1 30 0) (As := as.map (nv_tr X)) (n := n) ⟨C.1, C.2.1, C.2.2.2.1, C.2.2.2.2.2.1, ht⟩ (hR l X hok1)
          ⟨callB_of n ht (nv_good hfn.1) rfl rfl rfl (ht _ (nv_in hfn.2.1 rfl)) (ht _ (nv_in hl rfl)) hfn.2.2 hfit, ht _ (nv_in hfv.1 rfl), by rw [← hDy]; exact ht _ (nv_in hfv.2 rfl)⟩
          ⟨nv_pre (M' := M'), hrec, fun U hU hW => ⟨rfl, by rw [hU]; exact hP, hD, C.2.2.2.2.2.2.2.go hS hU hW⟩⟩ rfl (by simp; omega) hl'.1 ?_ (lv_room (by rw [nv_len_cat]; exact Nat.le_of_ble_eq_true hb)) hd ⟨Nat.le_refl _, Nat.le_refl _⟩) hS (fun r' h' H1 locs1 hok3 hp hP1 hD1 hS1 => ?_)
        · rw [← hsk]; simp [List.map_append, List.map_reverse, nv_tr]
        · rw [nv_co_tr]
          exact hK _ _ _ _ (hf r' h' hp) X p l e s m args below meth c H1 locs1 ls C hP1 hD1 hS1 hl' ho (nv_co_ok hok3 hok2)
      · exact hf.elim
    · exact hf.elim
  · exact hf.elim
def s_cpi (nx : Nat) : nv_Sem := fun lv stk h _ K => match stk with
  | [.inl n, .inl dp, .inr (.inl (t1, i1)), .inl sp, .inr (.inl (t0, i0))] => (match nv_tcl t0 with
    | some _ => False
    | none => (match nv_tcl t1 with
      | some _ => False
      | none => (match nv_tar t0 with
        | (0, n0) => (match nv_tar t1 with
          | (0, n1) => ∃ a b c : Nat, sp = (a : Int) ∧ dp = (b : Int) ∧ n = (c : Int) ∧ a + c ≤ n0 ∧ b + c ≤ n1 ∧ K nx lv [] (nv_row h t1 i1 (va_cpy (h t0 i0) (h t1 i1) a b c))
          | _ => False)
        | _ => False)))
  | _ => False
theorem n_cpi {idx : Nat} (hd : decode (nv_c M) pc = .ok (.invokestatic idx, 3)) (hl : Cond.methodLink (nv_own M) idx arraycopyName ∈ lw_tbl) (hna : Cond.native arraycopyName ∈ lw_tbl) (hst : Cond.static arraycopyName ∈ lw_tbl) (hin : Cond.initialized "java/lang/System" ∈ lw_tbl) (hfr : 1 ≤ (nv_rm M).frames) (hlo : nativeFrameWords "java/lang/System" "arraycopy" 5 + 11 ≤ (nv_rm M).locals) : nv_Snd M pc (s_cpi (pc + 3)) := by
  intro lv stk h Q K hK hf X p l e s m args below meth c H locs ls C hP hD hS hl' ho hk
  unfold s_cpi at hf
  split at hf
  · next n dp t1 i1 sp t0 i0 =>
    split at hf
    · exact hf.elim
    · next hcl0 =>
      split at hf
      · exact hf.elim
      · next hcl1 =>
        split at hf
        · next n0 htar0 =>
          split at hf
          · next n1 htar1 =>
            obtain ⟨a, b, c', rfl, rfl, rfl, h1, h2, hf⟩ := hf
            have ht := C.2.2.2.2.2.2.1
            have hm1 : (t1, i1) ∈ nv_cells := nv_okc (hk _ (by simp)) (by rintro rfl; simp [nv_tar] at htar1)
            have hm0 : (t0, i0) ∈ nv_cells := nv_okc (hk _ (by simp)) (by rintro rfl; simp [nv_tar] at htar0)
            have hn0 : n0 < 2 ^ 31 := by have h9 := nv_tar_len t0; rw [htar0] at h9; exact h9
            have hn1 : n1 < 2 ^ 31 := by have h9 := nv_tar_len t1; rw [htar1] at h9; exact h9
            obtain ⟨q0, hq0, hws0⟩ := nv_at (X := X) hm0
            obtain ⟨q1, hq1, hws1⟩ := nv_at (X := X) hm1
            have np : ∀ z : Nat, z < 2 ^ 31 → ¬ Int32.ofInt (z : Int) < 0 := fun z hz => by rw [nv_ofNat]; exact nI_pos hz
            refine va_copyi (rest := []) C.1 C.2.1 (C.2.2.2.1.trans hl'.1.symm) C.2.2.2.2.2.1 (ht _ (nv_in hl rfl)) (ht _ (nv_in hna rfl)) (ht _ (nv_in hst rfl)) (ht _ (nv_in hin rfl)) C.2.2.2.2.2.2.2.1 hP hD hS q0 q1 0 0 (n0 := n0) (n1 := n1) (f := fun j => Int32.ofInt (h t0 i0 j)) (g := fun j => Int32.ofInt (h t1 i1 j)) (by rw [hws0 h]; unfold nv_cell nv_arr; rw [hcl0]; simp only [htar0]) (by rw [hws1 h]; unfold nv_cell nv_arr; rw [hcl1]; simp only [htar1]) rfl rfl rfl (np a (by omega)) (np b (by omega)) (np c' (by omega)) (by rw [nv_clamp (by omega), nv_clamp (by omega)]; exact h1) (by rw [nv_clamp (by omega), nv_clamp (by omega)]; exact h2) (fun _ _ => rfl) hfr (by simpa using hlo) hd (fun H1 locs1 hP1 hD1 hS1 => ?_)
            rw [nv_clamp (by omega), nv_clamp (by omega), nv_clamp (by omega)] at hP1 hD1
            have he : nv_cell X (nv_row h t1 i1 (va_cpy (h t0 i0) (h t1 i1) a b c')) t1 i1 = .inl (X.2.2 0, n1, .inl (va_cpy (fun j => Int32.ofInt (h t0 i0 j)) (fun j => Int32.ofInt (h t1 i1 j)) a b c')) := by
              unfold nv_cell nv_arr
              rw [hcl1]
              simp only [htar1]
              congr 4
              funext k
              simp only [nv_row, va_cpy, and_self, if_true]
              split <;> rfl
            rw [nv_set hq1 he (fun _ _ hn => nv_cell_other (nv_row_other hn))] at hP1 hD1
            exact hK _ _ _ _ hf X p l e s m args below meth c H1 locs1 ls C hP1 hD1 hS1 hl' ho (fun v hv => by cases hv)
          · exact hf.elim
        · exact hf.elim
  · exact hf.elim
def s_cpl (nx : Nat) : nv_Sem := fun lv stk h _ K => match stk with
  | [.inl n, .inl dp, .inr (.inl (t1, i1)), .inl sp, .inr (.inl (t0, i0))] => (match nv_tcl t0 with
    | some _ => False
    | none => (match nv_tcl t1 with
      | some _ => False
      | none => (match nv_tar t0 with
        | (1, n0) => (match nv_tar t1 with
          | (1, n1) => ∃ a b c : Nat, sp = (a : Int) ∧ dp = (b : Int) ∧ n = (c : Int) ∧ a + c ≤ n0 ∧ b + c ≤ n1 ∧ K nx lv [] (nv_row h t1 i1 (va_cpy (h t0 i0) (h t1 i1) a b c))
          | _ => False)
        | _ => False)))
  | _ => False
theorem n_cpl {idx : Nat} (hd : decode (nv_c M) pc = .ok (.invokestatic idx, 3)) (hl : Cond.methodLink (nv_own M) idx arraycopyName ∈ lw_tbl) (hna : Cond.native arraycopyName ∈ lw_tbl) (hst : Cond.static arraycopyName ∈ lw_tbl) (hin : Cond.initialized "java/lang/System" ∈ lw_tbl) (hfr : 1 ≤ (nv_rm M).frames) (hlo : nativeFrameWords "java/lang/System" "arraycopy" 5 + 11 ≤ (nv_rm M).locals) : nv_Snd M pc (s_cpl (pc + 3)) := by
  intro lv stk h Q K hK hf X p l e s m args below meth c H locs ls C hP hD hS hl' ho hk
  unfold s_cpl at hf
  split at hf
  · next n dp t1 i1 sp t0 i0 =>
    split at hf
    · exact hf.elim
    · next hcl0 =>
      split at hf
      · exact hf.elim
      · next hcl1 =>
        split at hf
        · next n0 htar0 =>
          split at hf
          · next n1 htar1 =>
            obtain ⟨a, b, c', rfl, rfl, rfl, h1, h2, hf⟩ := hf
            have ht := C.2.2.2.2.2.2.1
            have hm1 : (t1, i1) ∈ nv_cells := nv_okc (hk _ (by simp)) (by rintro rfl; simp [nv_tar] at htar1)
            have hm0 : (t0, i0) ∈ nv_cells := nv_okc (hk _ (by simp)) (by rintro rfl; simp [nv_tar] at htar0)
            have hn0 : n0 < 2 ^ 31 := by have h9 := nv_tar_len t0; rw [htar0] at h9; exact h9
            have hn1 : n1 < 2 ^ 31 := by have h9 := nv_tar_len t1; rw [htar1] at h9; exact h9
            obtain ⟨q0, hq0, hws0⟩ := nv_at (X := X) hm0
            obtain ⟨q1, hq1, hws1⟩ := nv_at (X := X) hm1
            have np : ∀ z : Nat, z < 2 ^ 31 → ¬ Int32.ofInt (z : Int) < 0 := fun z hz => by rw [nv_ofNat]; exact nI_pos hz
            refine va_copyl (rest := []) C.1 C.2.1 (C.2.2.2.1.trans hl'.1.symm) C.2.2.2.2.2.1 (ht _ (nv_in hl rfl)) (ht _ (nv_in hna rfl)) (ht _ (nv_in hst rfl)) (ht _ (nv_in hin rfl)) C.2.2.2.2.2.2.2.1 hP hD hS q0 q1 1 1 (n0 := n0) (n1 := n1) (f := fun j => Int64.ofInt (h t0 i0 j)) (g := fun j => Int64.ofInt (h t1 i1 j)) (by rw [hws0 h]; unfold nv_cell nv_arr; rw [hcl0]; simp only [htar0]) (by rw [hws1 h]; unfold nv_cell nv_arr; rw [hcl1]; simp only [htar1]) rfl rfl rfl (np a (by omega)) (np b (by omega)) (np c' (by omega)) (by rw [nv_clamp (by omega), nv_clamp (by omega)]; exact h1) (by rw [nv_clamp (by omega), nv_clamp (by omega)]; exact h2) (fun _ _ => rfl) hfr (by simpa using hlo) hd (fun H1 locs1 hP1 hD1 hS1 => ?_)
            rw [nv_clamp (by omega), nv_clamp (by omega), nv_clamp (by omega)] at hP1 hD1
            have he : nv_cell X (nv_row h t1 i1 (va_cpy (h t0 i0) (h t1 i1) a b c')) t1 i1 = .inl (X.2.2 1, n1, .inr (.inl (va_cpy (fun j => Int64.ofInt (h t0 i0 j)) (fun j => Int64.ofInt (h t1 i1 j)) a b c'))) := by
              unfold nv_cell nv_arr
              rw [hcl1]
              simp only [htar1]
              congr 5
              funext k
              simp only [nv_row, va_cpy, and_self, if_true]
              split <;> rfl
            rw [nv_set hq1 he (fun _ _ hn => nv_cell_other (nv_row_other hn))] at hP1 hD1
            exact hK _ _ _ _ hf X p l e s m args below meth c H1 locs1 ls C hP1 hD1 hS1 hl' ho (fun v hv => by cases hv)
          · exact hf.elim
        · exact hf.elim
  · exact hf.elim
end nvCalls
end
section
/-! ===== printed by wip/whole/gen_tab.py: the words that the methods link, then for each method its descriptor, its program, and that the program is its code ===== -/
theorem nv_oc {M : nv_MD} {pc : Nat} {f : nv_Sem} {r : nv_Pg} (h : nv_Snd M pc f) (t : nv_ok_P M r) : nv_ok_P M ((pc, f) :: r) := fun q hq => (List.mem_cons.mp hq).elim (fun e => by subst e; exact h) (t q)
theorem nv_on {M : nv_MD} : nv_ok_P M [] := fun q hq => by cases hq
section nvLdcw
variable {M : nv_MD} {pc : Nat}
theorem n_ldc_w {i : Nat} {z : Int} (hd : decode (nv_c M) pc = .ok (.ldc_w i, 3)) (hw : Cond.constant (nv_own M) i (Int32.ofInt z) ∈ lw_tbl) : nv_Snd M pc (s_ki z (pc + 3)) := by
  intro lv stk h Q K hK hf X p l e s m args below meth c H locs ls C hP hD hS hl ho hk
  exact lv_ldcw C.1 C.2.1 C.2.2.2.2.2.1 (C.2.2.2.2.2.2.1 _ (nv_in hw rfl)) hd (hK _ _ _ _ hf X p l e s m args below meth c H locs ls C hP hD hS hl ho (List.forall_mem_cons.mpr ⟨trivial, hk⟩))
end nvLdcw
theorem i_X0 : ∀ w ∈ u_ws RX0 TX0 11, w ∈ lw_tbl := by decide +kernel
theorem i_X1 : ∀ w ∈ u_ws RX1 TX1 3, w ∈ lw_tbl := by decide +kernel
theorem i_X2 : ∀ w ∈ u_ws RX2 TX2 8, w ∈ lw_tbl := by decide +kernel
theorem i_X3 : ∀ w ∈ u_ws RX3 TX3 3, w ∈ lw_tbl := by decide +kernel
theorem i_X4 : ∀ w ∈ u_ws RX4 TX4 3, w ∈ lw_tbl := by decide +kernel
theorem i_X5 : ∀ w ∈ u_ws RX5 TX5 10, w ∈ lw_tbl := by decide +kernel
theorem i_X6 : ∀ w ∈ u_ws RX6 TX6 16, w ∈ lw_tbl := by decide +kernel
theorem w_nat : Cond.native arraycopyName ∈ lw_tbl := List.mem_of_getElem? (i := 462) (by decide +kernel)
theorem w_natst : Cond.static arraycopyName ∈ lw_tbl := List.mem_of_getElem? (i := 461) (by decide +kernel)
theorem w_natin : Cond.initialized "java/lang/System" ∈ lw_tbl := List.mem_of_getElem? (i := 57) (by decide +kernel)
theorem f_X0_37 : Cond.fieldLink RX0 37 (TX0 0).1 (TX0 0).2.1 (TX0 0).2.2.1 ∈ lw_tbl := List.mem_of_getElem? (i := 73) (by decide +kernel)
theorem f_X0_40 : Cond.fieldLink RX0 40 (TX0 1).1 (TX0 1).2.1 (TX0 1).2.2.1 ∈ lw_tbl := List.mem_of_getElem? (i := 77) (by decide +kernel)
theorem f_X0_43 : Cond.fieldLink RX0 43 (TX0 2).1 (TX0 2).2.1 (TX0 2).2.2.1 ∈ lw_tbl := List.mem_of_getElem? (i := 80) (by decide +kernel)
theorem f_X0_9 : Cond.fieldLink RX0 9 (TX0 3).1 (TX0 3).2.1 (TX0 3).2.2.1 ∈ lw_tbl := List.mem_of_getElem? (i := 82) (by decide +kernel)
theorem f_X0_22 : Cond.fieldLink RX0 22 (TX0 6).1 (TX0 6).2.1 (TX0 6).2.2.1 ∈ lw_tbl := List.mem_of_getElem? (i := 88) (by decide +kernel)
theorem l_X0_46 : Cond.methodLink RX0 46 arraycopyName ∈ lw_tbl := List.mem_of_getElem? (i := 460) (by decide +kernel)
theorem f_X0_28 : Cond.fieldLink RX0 28 (TX0 8).1 (TX0 8).2.1 (TX0 8).2.2.1 ∈ lw_tbl := List.mem_of_getElem? (i := 92) (by decide +kernel)
theorem f_X0_31 : Cond.fieldLink RX0 31 (TX0 9).1 (TX0 9).2.1 (TX0 9).2.2.1 ∈ lw_tbl := List.mem_of_getElem? (i := 94) (by decide +kernel)
theorem f_X0_15 : Cond.fieldLink RX0 15 (TX0 4).1 (TX0 4).2.1 (TX0 4).2.2.1 ∈ lw_tbl := List.mem_of_getElem? (i := 84) (by decide +kernel)
theorem f_X0_19 : Cond.fieldLink RX0 19 (TX0 5).1 (TX0 5).2.1 (TX0 5).2.2.1 ∈ lw_tbl := List.mem_of_getElem? (i := 86) (by decide +kernel)
theorem f_X0_25 : Cond.fieldLink RX0 25 (TX0 7).1 (TX0 7).2.1 (TX0 7).2.2.1 ∈ lw_tbl := List.mem_of_getElem? (i := 90) (by decide +kernel)
theorem l_X0_52 : Cond.methodLink RX0 52 yX0_takeMoment ∈ lw_tbl := List.mem_of_getElem? (i := 463) (by decide +kernel)
theorem l_X0_56 : Cond.methodLink RX0 56 Lib.Math.min.name ∈ lw_tbl := List.mem_of_getElem? (i := 523) (by decide +kernel)
theorem l_X0_66 : Cond.methodLink RX0 66 yX0_hoppersRest ∈ lw_tbl := List.mem_of_getElem? (i := 287) (by decide +kernel)
theorem l_X0_70 : Cond.methodLink RX0 70 yX0_cutBy ∈ lw_tbl := List.mem_of_getElem? (i := 291) (by decide +kernel)
theorem l_X0_62 : Cond.methodLink RX0 62 yX0_cutOf ∈ lw_tbl := List.mem_of_getElem? (i := 283) (by decide +kernel)
theorem l_X0_74 : Cond.methodLink RX0 74 Lib.Math.max.name ∈ lw_tbl := List.mem_of_getElem? (i := 498) (by decide +kernel)
theorem f_X0_34 : Cond.fieldLink RX0 34 (TX0 10).1 (TX0 10).2.1 (TX0 10).2.2.1 ∈ lw_tbl := List.mem_of_getElem? (i := 97) (by decide +kernel)
theorem l_X0_83 : Cond.methodLink RX0 83 yX0_plankMostLeft ∈ lw_tbl := List.mem_of_getElem? (i := 507) (by decide +kernel)
theorem l_X0_77 : Cond.methodLink RX0 77 yX0_growBlunt ∈ lw_tbl := List.mem_of_getElem? (i := 499) (by decide +kernel)
theorem l_X0_80 : Cond.methodLink RX0 80 yX0_leaveFallen ∈ lw_tbl := List.mem_of_getElem? (i := 503) (by decide +kernel)
theorem l_X0_87 : Cond.methodLink RX0 87 yX0_passHour ∈ lw_tbl := List.mem_of_getElem? (i := 564) (by decide +kernel)
theorem k_X0_90 : Cond.constant RX0 90 (Int32.ofInt 1103515245) ∈ lw_tbl := List.mem_of_getElem? (i := 537) (by decide +kernel)
theorem k_X0_91 : Cond.constant RX0 91 (Int32.ofInt 2147483647) ∈ lw_tbl := List.mem_of_getElem? (i := 538) (by decide +kernel)
theorem k_X0_92 : Cond.constant RX0 92 (Int32.ofInt 65536) ∈ lw_tbl := List.mem_of_getElem? (i := 539) (by decide +kernel)
theorem l_X0_93 : Cond.methodLink RX0 93 yX0_leftOfAll ∈ lw_tbl := List.mem_of_getElem? (i := 593) (by decide +kernel)
theorem k_J6_265 : Cond.constant RJ6 265 (Int32.ofInt 1431655765) ∈ lw_tbl := List.mem_of_getElem? (i := 636) (by decide +kernel)
theorem k_J6_266 : Cond.constant RJ6 266 (Int32.ofInt 858993459) ∈ lw_tbl := List.mem_of_getElem? (i := 637) (by decide +kernel)
theorem k_J6_267 : Cond.constant RJ6 267 (Int32.ofInt 252645135) ∈ lw_tbl := List.mem_of_getElem? (i := 638) (by decide +kernel)
theorem l_X0_96 : Cond.methodLink RX0 96 yX0_fallenSet ∈ lw_tbl := List.mem_of_getElem? (i := 632) (by decide +kernel)
theorem l_X0_99 : Cond.methodLink RX0 99 yJ6_bitCount_0f7a4 ∈ lw_tbl := List.mem_of_getElem? (i := 633) (by decide +kernel)
theorem f_X1_16 : Cond.fieldLink RX1 16 (TX1 1).1 (TX1 1).2.1 (TX1 1).2.2.1 ∈ lw_tbl := List.mem_of_getElem? (i := 132) (by decide +kernel)
theorem f_X1_11 : Cond.fieldLink RX1 11 (TX1 0).1 (TX1 0).2.1 (TX1 0).2.2.1 ∈ lw_tbl := List.mem_of_getElem? (i := 131) (by decide +kernel)
theorem f_X1_20 : Cond.fieldLink RX1 20 (TX1 2).1 (TX1 2).2.1 (TX1 2).2.2.1 ∈ lw_tbl := List.mem_of_getElem? (i := 134) (by decide +kernel)
theorem l_X1_23 : Cond.methodLink RX1 23 yX0_takeMoment ∈ lw_tbl := List.mem_of_getElem? (i := 492) (by decide +kernel)
theorem l_X1_27 : Cond.methodLink RX1 27 Lib.Math.min.name ∈ lw_tbl := List.mem_of_getElem? (i := 493) (by decide +kernel)
theorem f_X2_25 : Cond.fieldLink RX2 25 (TX2 6).1 (TX2 6).2.1 (TX2 6).2.2.1 ∈ lw_tbl := List.mem_of_getElem? (i := 157) (by decide +kernel)
theorem f_X2_22 : Cond.fieldLink RX2 22 (TX2 2).1 (TX2 2).2.1 (TX2 2).2.2.1 ∈ lw_tbl := List.mem_of_getElem? (i := 152) (by decide +kernel)
theorem f_X2_12 : Cond.fieldLink RX2 12 (TX2 0).1 (TX2 0).2.1 (TX2 0).2.2.1 ∈ lw_tbl := List.mem_of_getElem? (i := 150) (by decide +kernel)
theorem f_X2_56 : Cond.fieldLink RX2 56 (TX0 1).1 (TX0 1).2.1 (TX0 1).2.2.1 ∈ lw_tbl := List.mem_of_getElem? (i := 78) (by decide +kernel)
theorem f_X2_18 : Cond.fieldLink RX2 18 (TX2 1).1 (TX2 1).2.1 (TX2 1).2.2.1 ∈ lw_tbl := List.mem_of_getElem? (i := 151) (by decide +kernel)
theorem f_X2_75 : Cond.fieldLink RX2 75 (TX0 9).1 (TX0 9).2.1 (TX0 9).2.2.1 ∈ lw_tbl := List.mem_of_getElem? (i := 95) (by decide +kernel)
theorem l_X2_69 : Cond.methodLink RX2 69 yX2_movesNow ∈ lw_tbl := List.mem_of_getElem? (i := 622) (by decide +kernel)
theorem f_X2_44 : Cond.fieldLink RX2 44 (TX2 5).1 (TX2 5).2.1 (TX2 5).2.2.1 ∈ lw_tbl := List.mem_of_getElem? (i := 155) (by decide +kernel)
theorem l_X2_72 : Cond.methodLink RX2 72 yX0_takeMoment ∈ lw_tbl := List.mem_of_getElem? (i := 626) (by decide +kernel)
theorem l_X2_78 : Cond.methodLink RX2 78 arraycopyName ∈ lw_tbl := List.mem_of_getElem? (i := 627) (by decide +kernel)
theorem f_X2_33 : Cond.fieldLink RX2 33 (TX2 4).1 (TX2 4).2.1 (TX2 4).2.2.1 ∈ lw_tbl := List.mem_of_getElem? (i := 154) (by decide +kernel)
theorem l_X2_84 : Cond.methodLink RX2 84 yX0_standingBehind ∈ lw_tbl := List.mem_of_getElem? (i := 628) (by decide +kernel)
theorem l_X2_88 : Cond.methodLink RX2 88 Lib.Math.min.name ∈ lw_tbl := List.mem_of_getElem? (i := 639) (by decide +kernel)
theorem f_X2_51 : Cond.fieldLink RX2 51 (TX2 7).1 (TX2 7).2.1 (TX2 7).2.2.1 ∈ lw_tbl := List.mem_of_getElem? (i := 158) (by decide +kernel)
theorem l_X2_93 : Cond.methodLink RX2 93 yX0_noonWithin ∈ lw_tbl := List.mem_of_getElem? (i := 640) (by decide +kernel)
theorem f_X2_53 : Cond.fieldLink RX2 53 (TX0 0).1 (TX0 0).2.1 (TX0 0).2.2.1 ∈ lw_tbl := List.mem_of_getElem? (i := 74) (by decide +kernel)
theorem f_X2_29 : Cond.fieldLink RX2 29 (TX2 3).1 (TX2 3).2.1 (TX2 3).2.2.1 ∈ lw_tbl := List.mem_of_getElem? (i := 153) (by decide +kernel)
theorem l_X2_36 : Cond.methodLink RX2 36 yX0_isLike ∈ lw_tbl := List.mem_of_getElem? (i := 609) (by decide +kernel)
theorem l_X2_40 : Cond.methodLink RX2 40 yX0_takeAll ∈ lw_tbl := List.mem_of_getElem? (i := 613) (by decide +kernel)
theorem l_X2_47 : Cond.methodLink RX2 47 yX0_mostCut ∈ lw_tbl := List.mem_of_getElem? (i := 614) (by decide +kernel)
theorem l_X2_63 : Cond.methodLink RX2 63 yX2_weigh ∈ lw_tbl := List.mem_of_getElem? (i := 618) (by decide +kernel)
theorem l_X2_66 : Cond.methodLink RX2 66 yX2_toNextWay ∈ lw_tbl := List.mem_of_getElem? (i := 641) (by decide +kernel)
theorem f_X3_15 : Cond.fieldLink RX3 15 (TX3 1).1 (TX3 1).2.1 (TX3 1).2.2.1 ∈ lw_tbl := List.mem_of_getElem? (i := 202) (by decide +kernel)
theorem f_X3_19 : Cond.fieldLink RX3 19 (TX3 2).1 (TX3 2).2.1 (TX3 2).2.2.1 ∈ lw_tbl := List.mem_of_getElem? (i := 204) (by decide +kernel)
theorem f_X3_9 : Cond.fieldLink RX3 9 (TX3 0).1 (TX3 0).2.1 (TX3 0).2.2.1 ∈ lw_tbl := List.mem_of_getElem? (i := 200) (by decide +kernel)
theorem l_X3_22 : Cond.methodLink RX3 22 yX3_isNothing ∈ lw_tbl := List.mem_of_getElem? (i := 701) (by decide +kernel)
theorem l_X3_26 : Cond.methodLink RX3 26 yX3_lacks ∈ lw_tbl := List.mem_of_getElem? (i := 705) (by decide +kernel)
theorem f_X4_15 : Cond.fieldLink RX4 15 (TX4 1).1 (TX4 1).2.1 (TX4 1).2.2.1 ∈ lw_tbl := List.mem_of_getElem? (i := 183) (by decide +kernel)
theorem f_X4_11 : Cond.fieldLink RX4 11 (TX4 0).1 (TX4 0).2.1 (TX4 0).2.2.1 ∈ lw_tbl := List.mem_of_getElem? (i := 182) (by decide +kernel)
theorem f_X4_24 : Cond.fieldLink RX4 24 (TX4 2).1 (TX4 2).2.1 (TX4 2).2.2.1 ∈ lw_tbl := List.mem_of_getElem? (i := 184) (by decide +kernel)
theorem l_X4_73 : Cond.methodLink RX4 73 yX4_letterHere ∈ lw_tbl := List.mem_of_getElem? (i := 339) (by decide +kernel)
theorem l_X4_38 : Cond.methodLink RX4 38 yX4_nextLetter ∈ lw_tbl := List.mem_of_getElem? (i := 335) (by decide +kernel)
theorem l_X4_76 : Cond.methodLink RX4 76 yX4_valueOf ∈ lw_tbl := List.mem_of_getElem? (i := 343) (by decide +kernel)
theorem l_X4_48 : Cond.methodLink RX4 48 yX4_takeNumber ∈ lw_tbl := List.mem_of_getElem? (i := 331) (by decide +kernel)
theorem l_X4_31 : Cond.methodLink RX4 31 yX4_takes ∈ lw_tbl := List.mem_of_getElem? (i := 347) (by decide +kernel)
theorem l_X4_52 : Cond.methodLink RX4 52 yX4_takeDigit ∈ lw_tbl := List.mem_of_getElem? (i := 351) (by decide +kernel)
theorem l_X4_56 : Cond.methodLink RX4 56 yX0_addPlank ∈ lw_tbl := List.mem_of_getElem? (i := 355) (by decide +kernel)
theorem l_X4_45 : Cond.methodLink RX4 45 yX4_tellPlank ∈ lw_tbl := List.mem_of_getElem? (i := 327) (by decide +kernel)
theorem l_X4_65 : Cond.methodLink RX4 65 yJ0_indexOf_0f7a4 ∈ lw_tbl := List.mem_of_getElem? (i := 365) (by decide +kernel)
theorem l_X4_70 : Cond.methodLink RX4 70 yX0_addSawyer ∈ lw_tbl := List.mem_of_getElem? (i := 451) (by decide +kernel)
theorem f_X4_42 : Cond.fieldLink RX4 42 (TX0 0).1 (TX0 0).2.1 (TX0 0).2.2.1 ∈ lw_tbl := List.mem_of_getElem? (i := 75) (by decide +kernel)
theorem l_X4_60 : Cond.methodLink RX4 60 yX4_tellSawyer ∈ lw_tbl := List.mem_of_getElem? (i := 360) (by decide +kernel)
theorem l_X4_19 : Cond.methodLink RX4 19 yX0_empty ∈ lw_tbl := List.mem_of_getElem? (i := 319) (by decide +kernel)
theorem l_X4_27 : Cond.methodLink RX4 27 yX4_tellPlanks ∈ lw_tbl := List.mem_of_getElem? (i := 323) (by decide +kernel)
theorem l_X4_35 : Cond.methodLink RX4 35 yX4_tellSawyers ∈ lw_tbl := List.mem_of_getElem? (i := 356) (by decide +kernel)
theorem l_X5_56 : Cond.methodLink RX5 56 yX5_outside ∈ lw_tbl := List.mem_of_getElem? (i := 248) (by decide +kernel)
theorem f_X5_12 : Cond.fieldLink RX5 12 (TX5 0).1 (TX5 0).2.1 (TX5 0).2.2.1 ∈ lw_tbl := List.mem_of_getElem? (i := 213) (by decide +kernel)
theorem l_X5_60 : Cond.methodLink RX5 60 yX0_addPlank ∈ lw_tbl := List.mem_of_getElem? (i := 251) (by decide +kernel)
theorem f_X5_19 : Cond.fieldLink RX5 19 (TX5 1).1 (TX5 1).2.1 (TX5 1).2.2.1 ∈ lw_tbl := List.mem_of_getElem? (i := 214) (by decide +kernel)
theorem l_X5_64 : Cond.methodLink RX5 64 yX1_forget ∈ lw_tbl := List.mem_of_getElem? (i := 255) (by decide +kernel)
theorem l_X5_67 : Cond.methodLink RX5 67 yX0_addSawyer ∈ lw_tbl := List.mem_of_getElem? (i := 263) (by decide +kernel)
theorem f_X5_125 : Cond.fieldLink RX5 125 (TX0 0).1 (TX0 0).2.1 (TX0 0).2.2.1 ∈ lw_tbl := List.mem_of_getElem? (i := 76) (by decide +kernel)
theorem l_X5_70 : Cond.methodLink RX5 70 yX5_noPlank ∈ lw_tbl := List.mem_of_getElem? (i := 271) (by decide +kernel)
theorem f_X5_74 : Cond.fieldLink RX5 74 (TX0 4).1 (TX0 4).2.1 (TX0 4).2.2.1 ∈ lw_tbl := List.mem_of_getElem? (i := 85) (by decide +kernel)
theorem f_X5_78 : Cond.fieldLink RX5 78 (TX0 5).1 (TX0 5).2.1 (TX0 5).2.2.1 ∈ lw_tbl := List.mem_of_getElem? (i := 87) (by decide +kernel)
theorem f_X5_81 : Cond.fieldLink RX5 81 (TX0 6).1 (TX0 6).2.1 (TX0 6).2.2.1 ∈ lw_tbl := List.mem_of_getElem? (i := 89) (by decide +kernel)
theorem l_X5_84 : Cond.methodLink RX5 84 yX0_sittersOn ∈ lw_tbl := List.mem_of_getElem? (i := 275) (by decide +kernel)
theorem l_X5_88 : Cond.methodLink RX5 88 yX0_cutByAll ∈ lw_tbl := List.mem_of_getElem? (i := 279) (by decide +kernel)
theorem f_X5_128 : Cond.fieldLink RX5 128 (TX0 1).1 (TX0 1).2.1 (TX0 1).2.2.1 ∈ lw_tbl := List.mem_of_getElem? (i := 79) (by decide +kernel)
theorem l_X5_91 : Cond.methodLink RX5 91 yX5_noSawyer ∈ lw_tbl := List.mem_of_getElem? (i := 298) (by decide +kernel)
theorem f_X5_94 : Cond.fieldLink RX5 94 (TX0 7).1 (TX0 7).2.1 (TX0 7).2.2.1 ∈ lw_tbl := List.mem_of_getElem? (i := 91) (by decide +kernel)
theorem f_X5_97 : Cond.fieldLink RX5 97 (TX0 8).1 (TX0 8).2.1 (TX0 8).2.2.1 ∈ lw_tbl := List.mem_of_getElem? (i := 93) (by decide +kernel)
theorem f_X5_100 : Cond.fieldLink RX5 100 (TX0 9).1 (TX0 9).2.1 (TX0 9).2.2.1 ∈ lw_tbl := List.mem_of_getElem? (i := 96) (by decide +kernel)
theorem l_X5_103 : Cond.methodLink RX5 103 yX0_cutOf ∈ lw_tbl := List.mem_of_getElem? (i := 302) (by decide +kernel)
theorem f_X5_45 : Cond.fieldLink RX5 45 (TX5 8).1 (TX5 8).2.1 (TX5 8).2.2.1 ∈ lw_tbl := List.mem_of_getElem? (i := 221) (by decide +kernel)
theorem l_X5_106 : Cond.methodLink RX5 106 yX4_addLetter ∈ lw_tbl := List.mem_of_getElem? (i := 307) (by decide +kernel)
theorem f_X5_29 : Cond.fieldLink RX5 29 (TX5 5).1 (TX5 5).2.1 (TX5 5).2.2.1 ∈ lw_tbl := List.mem_of_getElem? (i := 218) (by decide +kernel)
theorem l_X5_110 : Cond.methodLink RX5 110 yX4_tellNoon ∈ lw_tbl := List.mem_of_getElem? (i := 315) (by decide +kernel)
theorem l_X5_114 : Cond.methodLink RX5 114 yX4_wipe ∈ lw_tbl := List.mem_of_getElem? (i := 452) (by decide +kernel)
theorem f_X5_117 : Cond.fieldLink RX5 117 (TX0 3).1 (TX0 3).2.1 (TX0 3).2.2.1 ∈ lw_tbl := List.mem_of_getElem? (i := 83) (by decide +kernel)
theorem l_X5_121 : Cond.methodLink RX5 121 yX0_takeAll ∈ lw_tbl := List.mem_of_getElem? (i := 456) (by decide +kernel)
theorem f_X5_131 : Cond.fieldLink RX5 131 (TX0 2).1 (TX0 2).2.1 (TX0 2).2.2.1 ∈ lw_tbl := List.mem_of_getElem? (i := 81) (by decide +kernel)
theorem l_X5_134 : Cond.methodLink RX5 134 yX0_fallenSet ∈ lw_tbl := List.mem_of_getElem? (i := 472) (by decide +kernel)
theorem l_X5_138 : Cond.methodLink RX5 138 yX0_leftOfAll ∈ lw_tbl := List.mem_of_getElem? (i := 476) (by decide +kernel)
theorem l_X5_141 : Cond.methodLink RX5 141 yX0_teethOfAll ∈ lw_tbl := List.mem_of_getElem? (i := 480) (by decide +kernel)
theorem f_X5_144 : Cond.fieldLink RX5 144 (TX1 1).1 (TX1 1).2.1 (TX1 1).2.2.1 ∈ lw_tbl := List.mem_of_getElem? (i := 133) (by decide +kernel)
theorem l_X5_147 : Cond.methodLink RX5 147 yX1_keep ∈ lw_tbl := List.mem_of_getElem? (i := 488) (by decide +kernel)
theorem l_X5_150 : Cond.methodLink RX5 150 yX0_passHour ∈ lw_tbl := List.mem_of_getElem? (i := 494) (by decide +kernel)
theorem l_X5_154 : Cond.methodLink RX5 154 yX0_addTeeth ∈ lw_tbl := List.mem_of_getElem? (i := 519) (by decide +kernel)
theorem l_X5_158 : Cond.methodLink RX5 158 Lib.Math.min.name ∈ lw_tbl := List.mem_of_getElem? (i := 528) (by decide +kernel)
theorem l_X5_164 : Cond.methodLink RX5 164 yX0_drawAndSet ∈ lw_tbl := List.mem_of_getElem? (i := 533) (by decide +kernel)
theorem l_X5_167 : Cond.methodLink RX5 167 yX1_giveBack ∈ lw_tbl := List.mem_of_getElem? (i := 544) (by decide +kernel)
theorem l_X5_194 : Cond.methodLink RX5 194 yX0_passHours ∈ lw_tbl := List.mem_of_getElem? (i := 560) (by decide +kernel)
theorem l_X5_171 : Cond.methodLink RX5 171 yX5_foretell ∈ lw_tbl := List.mem_of_getElem? (i := 556) (by decide +kernel)
theorem l_X5_263 : Cond.methodLink RX5 263 yX0_mostCut ∈ lw_tbl := List.mem_of_getElem? (i := 585) (by decide +kernel)
theorem l_X5_266 : Cond.methodLink RX5 266 yX0_noonWithin ∈ lw_tbl := List.mem_of_getElem? (i := 589) (by decide +kernel)
theorem l_X5_188 : Cond.methodLink RX5 188 yX5_orNone ∈ lw_tbl := List.mem_of_getElem? (i := 594) (by decide +kernel)
theorem l_X5_175 : Cond.methodLink RX5 175 yX5_noonOfTrial ∈ lw_tbl := List.mem_of_getElem? (i := 581) (by decide +kernel)
theorem l_X5_178 : Cond.methodLink RX5 178 yX5_nothingToSet ∈ lw_tbl := List.mem_of_getElem? (i := 601) (by decide +kernel)
theorem f_X5_35 : Cond.fieldLink RX5 35 (TX5 6).1 (TX5 6).2.1 (TX5 6).2.2.1 ∈ lw_tbl := List.mem_of_getElem? (i := 219) (by decide +kernel)
theorem l_X5_181 : Cond.methodLink RX5 181 yX2_make ∈ lw_tbl := List.mem_of_getElem? (i := 605) (by decide +kernel)
theorem f_X5_185 : Cond.fieldLink RX5 185 (TX2 5).1 (TX2 5).2.1 (TX2 5).2.2.1 ∈ lw_tbl := List.mem_of_getElem? (i := 156) (by decide +kernel)
theorem l_X5_191 : Cond.methodLink RX5 191 yX2_told ∈ lw_tbl := List.mem_of_getElem? (i := 645) (by decide +kernel)
theorem f_X5_39 : Cond.fieldLink RX5 39 (TX5 7).1 (TX5 7).2.1 (TX5 7).2.2.1 ∈ lw_tbl := List.mem_of_getElem? (i := 220) (by decide +kernel)
theorem l_X5_269 : Cond.methodLink RX5 269 Lib.Math.max.name ∈ lw_tbl := List.mem_of_getElem? (i := 674) (by decide +kernel)
theorem l_X5_197 : Cond.methodLink RX5 197 yJ6_bitCount_0f7a4 ∈ lw_tbl := List.mem_of_getElem? (i := 669) (by decide +kernel)
theorem l_X5_202 : Cond.methodLink RX5 202 yX5_power ∈ lw_tbl := List.mem_of_getElem? (i := 670) (by decide +kernel)
theorem l_X5_205 : Cond.methodLink RX5 205 yX5_sharedDivisor ∈ lw_tbl := List.mem_of_getElem? (i := 671) (by decide +kernel)
theorem f_X5_23 : Cond.fieldLink RX5 23 (TX5 2).1 (TX5 2).2.1 (TX5 2).2.2.1 ∈ lw_tbl := List.mem_of_getElem? (i := 215) (by decide +kernel)
theorem f_X5_26 : Cond.fieldLink RX5 26 (TX5 3).1 (TX5 3).2.1 (TX5 3).2.2.1 ∈ lw_tbl := List.mem_of_getElem? (i := 216) (by decide +kernel)
theorem l_X5_208 : Cond.methodLink RX5 208 yX1_takePast ∈ lw_tbl := List.mem_of_getElem? (i := 679) (by decide +kernel)
theorem f_X5_212 : Cond.fieldLink RX5 212 (TX5 4).1 (TX5 4).2.1 (TX5 4).2.2.1 ∈ lw_tbl := List.mem_of_getElem? (i := 217) (by decide +kernel)
theorem f_X5_253 : Cond.fieldLink RX5 253 (TX3 0).1 (TX3 0).2.1 (TX3 0).2.2.1 ∈ lw_tbl := List.mem_of_getElem? (i := 201) (by decide +kernel)
theorem l_X5_216 : Cond.methodLink RX5 216 yX5_noSheet ∈ lw_tbl := List.mem_of_getElem? (i := 691) (by decide +kernel)
theorem l_X5_219 : Cond.methodLink RX5 219 yX5_noLane ∈ lw_tbl := List.mem_of_getElem? (i := 694) (by decide +kernel)
theorem f_X5_51 : Cond.fieldLink RX5 51 (TX5 9).1 (TX5 9).2.1 (TX5 9).2.2.1 ∈ lw_tbl := List.mem_of_getElem? (i := 222) (by decide +kernel)
theorem l_X5_222 : Cond.methodLink RX5 222 yX3_refusal ∈ lw_tbl := List.mem_of_getElem? (i := 697) (by decide +kernel)
theorem l_X5_225 : Cond.methodLink RX5 225 yX0_suppose ∈ lw_tbl := List.mem_of_getElem? (i := 709) (by decide +kernel)
theorem l_X5_229 : Cond.methodLink RX5 229 yX5_trialShows ∈ lw_tbl := List.mem_of_getElem? (i := 713) (by decide +kernel)
theorem l_X5_233 : Cond.methodLink RX5 233 yX3_put ∈ lw_tbl := List.mem_of_getElem? (i := 721) (by decide +kernel)
theorem l_X5_237 : Cond.methodLink RX5 237 yX3_begin ∈ lw_tbl := List.mem_of_getElem? (i := 729) (by decide +kernel)
theorem l_X5_240 : Cond.methodLink RX5 240 yX3_clear ∈ lw_tbl := List.mem_of_getElem? (i := 737) (by decide +kernel)
theorem l_X5_243 : Cond.methodLink RX5 243 yX3_isNothing ∈ lw_tbl := List.mem_of_getElem? (i := 749) (by decide +kernel)
theorem f_X5_246 : Cond.fieldLink RX5 246 (TX3 1).1 (TX3 1).2.1 (TX3 1).2.2.1 ∈ lw_tbl := List.mem_of_getElem? (i := 203) (by decide +kernel)
theorem l_X5_249 : Cond.methodLink RX5 249 yX3_lacks ∈ lw_tbl := List.mem_of_getElem? (i := 750) (by decide +kernel)
theorem l_X5_257 : Cond.methodLink RX5 257 arraycopyName ∈ lw_tbl := List.mem_of_getElem? (i := 751) (by decide +kernel)
theorem f_X6_23 : Cond.fieldLink RX6 23 (TX6 7).1 (TX6 7).2.1 (TX6 7).2.2.1 ∈ lw_tbl := List.mem_of_getElem? (i := 765) (by decide +kernel)
theorem l_X6_41 : Cond.methodLink RX6 41 yX6_in ∈ lw_tbl := List.mem_of_getElem? (i := 811) (by decide +kernel)
theorem l_X6_45 : Cond.methodLink RX6 45 yX6_addPlank ∈ lw_tbl := List.mem_of_getElem? (i := 814) (by decide +kernel)
theorem l_X6_49 : Cond.methodLink RX6 49 yX6_addSawyer ∈ lw_tbl := List.mem_of_getElem? (i := 821) (by decide +kernel)
theorem l_X6_52 : Cond.methodLink RX6 52 yX6_cuts ∈ lw_tbl := List.mem_of_getElem? (i := 839) (by decide +kernel)
theorem l_X6_56 : Cond.methodLink RX6 56 yX6_isPlank ∈ lw_tbl := List.mem_of_getElem? (i := 828) (by decide +kernel)
theorem l_X6_60 : Cond.methodLink RX6 60 yX6_sittersOn ∈ lw_tbl := List.mem_of_getElem? (i := 832) (by decide +kernel)
theorem l_X6_63 : Cond.methodLink RX6 63 yX6_cutsOn ∈ lw_tbl := List.mem_of_getElem? (i := 835) (by decide +kernel)
theorem l_X6_67 : Cond.methodLink RX6 67 yX6_isSawyer ∈ lw_tbl := List.mem_of_getElem? (i := 846) (by decide +kernel)
theorem f_X6_70 : Cond.fieldLink RX6 70 (TX6 3).1 (TX6 3).2.1 (TX6 3).2.2.1 ∈ lw_tbl := List.mem_of_getElem? (i := 761) (by decide +kernel)
theorem f_X6_20 : Cond.fieldLink RX6 20 (TX6 4).1 (TX6 4).2.1 (TX6 4).2.2.1 ∈ lw_tbl := List.mem_of_getElem? (i := 762) (by decide +kernel)
theorem f_X6_74 : Cond.fieldLink RX6 74 (TX6 5).1 (TX6 5).2.1 (TX6 5).2.2.1 ∈ lw_tbl := List.mem_of_getElem? (i := 763) (by decide +kernel)
theorem l_X6_77 : Cond.methodLink RX6 77 yX6_peek ∈ lw_tbl := List.mem_of_getElem? (i := 874) (by decide +kernel)
theorem f_X6_81 : Cond.fieldLink RX6 81 (TX6 6).1 (TX6 6).2.1 (TX6 6).2.2.1 ∈ lw_tbl := List.mem_of_getElem? (i := 764) (by decide +kernel)
theorem l_X6_84 : Cond.methodLink RX6 84 yX6_isDigit ∈ lw_tbl := List.mem_of_getElem? (i := 870) (by decide +kernel)
theorem l_X6_88 : Cond.methodLink RX6 88 yX6_isNumber ∈ lw_tbl := List.mem_of_getElem? (i := 866) (by decide +kernel)
theorem f_X6_29 : Cond.fieldLink RX6 29 (TX6 9).1 (TX6 9).2.1 (TX6 9).2.2.1 ∈ lw_tbl := List.mem_of_getElem? (i := 767) (by decide +kernel)
theorem l_X6_91 : Cond.methodLink RX6 91 yX6_isSign ∈ lw_tbl := List.mem_of_getElem? (i := 878) (by decide +kernel)
theorem l_X6_94 : Cond.methodLink RX6 94 yX6_kindBy ∈ lw_tbl := List.mem_of_getElem? (i := 886) (by decide +kernel)
theorem l_X6_97 : Cond.methodLink RX6 97 yX6_isPlankItem ∈ lw_tbl := List.mem_of_getElem? (i := 862) (by decide +kernel)
theorem l_X6_101 : Cond.methodLink RX6 101 yX6_isSawyerItem ∈ lw_tbl := List.mem_of_getElem? (i := 882) (by decide +kernel)
theorem l_X6_104 : Cond.methodLink RX6 104 yX6_isNoon ∈ lw_tbl := List.mem_of_getElem? (i := 858) (by decide +kernel)
theorem l_X6_107 : Cond.methodLink RX6 107 yX6_bring ∈ lw_tbl := List.mem_of_getElem? (i := 889) (by decide +kernel)
theorem l_X6_111 : Cond.methodLink RX6 111 yX6_fallen ∈ lw_tbl := List.mem_of_getElem? (i := 896) (by decide +kernel)
theorem l_X6_115 : Cond.methodLink RX6 115 yX6_leftOf ∈ lw_tbl := List.mem_of_getElem? (i := 899) (by decide +kernel)
theorem l_X6_118 : Cond.methodLink RX6 118 yX6_teeth ∈ lw_tbl := List.mem_of_getElem? (i := 902) (by decide +kernel)
theorem f_X6_35 : Cond.fieldLink RX6 35 (TX6 12).1 (TX6 12).2.1 (TX6 12).2.2.1 ∈ lw_tbl := List.mem_of_getElem? (i := 770) (by decide +kernel)
theorem l_X6_121 : Cond.methodLink RX6 121 yX6_has ∈ lw_tbl := List.mem_of_getElem? (i := 918) (by decide +kernel)
theorem l_X6_124 : Cond.methodLink RX6 124 yX6_isAll ∈ lw_tbl := List.mem_of_getElem? (i := 921) (by decide +kernel)
theorem l_X6_128 : Cond.methodLink RX6 128 yX6_thickestOf ∈ lw_tbl := List.mem_of_getElem? (i := 924) (by decide +kernel)
theorem l_X6_131 : Cond.methodLink RX6 131 yX6_note ∈ lw_tbl := List.mem_of_getElem? (i := 910) (by decide +kernel)
theorem l_X6_134 : Cond.methodLink RX6 134 yX6_hourIn ∈ lw_tbl := List.mem_of_getElem? (i := 914) (by decide +kernel)
theorem k_X6_138 : Cond.constantLong RX6 138 (Int64.ofInt 1103515245) ∈ lw_tbl := List.mem_of_getElem? (i := 943) (by decide +kernel)
theorem k_X6_140 : Cond.constantLong RX6 140 (Int64.ofInt 12345) ∈ lw_tbl := List.mem_of_getElem? (i := 944) (by decide +kernel)
theorem k_X6_142 : Cond.constantLong RX6 142 (Int64.ofInt 2147483648) ∈ lw_tbl := List.mem_of_getElem? (i := 945) (by decide +kernel)
theorem k_X6_144 : Cond.constant RX6 144 (Int32.ofInt 65536) ∈ lw_tbl := List.mem_of_getElem? (i := 946) (by decide +kernel)
theorem f_X6_26 : Cond.fieldLink RX6 26 (TX6 8).1 (TX6 8).2.1 (TX6 8).2.2.1 ∈ lw_tbl := List.mem_of_getElem? (i := 766) (by decide +kernel)
theorem l_X6_145 : Cond.methodLink RX6 145 yX6_begin ∈ lw_tbl := List.mem_of_getElem? (i := 959) (by decide +kernel)
theorem l_X6_148 : Cond.methodLink RX6 148 yX6_goOn ∈ lw_tbl := List.mem_of_getElem? (i := 963) (by decide +kernel)
theorem l_X6_152 : Cond.methodLink RX6 152 yX6_noonOf ∈ lw_tbl := List.mem_of_getElem? (i := 983) (by decide +kernel)
theorem f_X6_155 : Cond.fieldLink RX6 155 (TX6 14).1 (TX6 14).2.1 (TX6 14).2.2.1 ∈ lw_tbl := List.mem_of_getElem? (i := 772) (by decide +kernel)
theorem l_X6_158 : Cond.methodLink RX6 158 yX6_setBy ∈ lw_tbl := List.mem_of_getElem? (i := 999) (by decide +kernel)
theorem l_X6_161 : Cond.methodLink RX6 161 yX6_bits ∈ lw_tbl := List.mem_of_getElem? (i := 1003) (by decide +kernel)
theorem f_X6_164 : Cond.fieldLink RX6 164 (TX6 15).1 (TX6 15).2.1 (TX6 15).2.2.1 ∈ lw_tbl := List.mem_of_getElem? (i := 773) (by decide +kernel)
theorem f_X6_38 : Cond.fieldLink RX6 38 (TX6 13).1 (TX6 13).2.1 (TX6 13).2.2.1 ∈ lw_tbl := List.mem_of_getElem? (i := 771) (by decide +kernel)
theorem l_X6_167 : Cond.methodLink RX6 167 yX6_noBest ∈ lw_tbl := List.mem_of_getElem? (i := 991) (by decide +kernel)
theorem l_X6_170 : Cond.methodLink RX6 170 yX6_layBest ∈ lw_tbl := List.mem_of_getElem? (i := 995) (by decide +kernel)
theorem f_X6_32 : Cond.fieldLink RX6 32 (TX6 10).1 (TX6 10).2.1 (TX6 10).2.2.1 ∈ lw_tbl := List.mem_of_getElem? (i := 768) (by decide +kernel)
theorem f_X6_173 : Cond.fieldLink RX6 173 (TX6 11).1 (TX6 11).2.1 (TX6 11).2.2.1 ∈ lw_tbl := List.mem_of_getElem? (i := 769) (by decide +kernel)
theorem f_X6_7 : Cond.fieldLink RX6 7 (TX6 0).1 (TX6 0).2.1 (TX6 0).2.2.1 ∈ lw_tbl := List.mem_of_getElem? (i := 758) (by decide +kernel)
theorem f_X6_13 : Cond.fieldLink RX6 13 (TX6 1).1 (TX6 1).2.1 (TX6 1).2.2.1 ∈ lw_tbl := List.mem_of_getElem? (i := 759) (by decide +kernel)
theorem l_X6_177 : Cond.methodLink RX6 177 yX6_isPart ∈ lw_tbl := List.mem_of_getElem? (i := 1045) (by decide +kernel)
theorem f_X6_16 : Cond.fieldLink RX6 16 (TX6 2).1 (TX6 2).2.1 (TX6 2).2.2.1 ∈ lw_tbl := List.mem_of_getElem? (i := 760) (by decide +kernel)
theorem l_X6_180 : Cond.methodLink RX6 180 yX6_isSheet ∈ lw_tbl := List.mem_of_getElem? (i := 1038) (by decide +kernel)
theorem l_X6_183 : Cond.methodLink RX6 183 yX6_wrong ∈ lw_tbl := List.mem_of_getElem? (i := 1041) (by decide +kernel)
theorem l_X6_187 : Cond.methodLink RX6 187 yX6_isDust ∈ lw_tbl := List.mem_of_getElem? (i := 1048) (by decide +kernel)
theorem l_X6_191 : Cond.methodLink RX6 191 yX6_cutTo ∈ lw_tbl := List.mem_of_getElem? (i := 1056) (by decide +kernel)
theorem w_mathin : Cond.initialized "java/lang/Math" ∈ lw_tbl := List.mem_of_getElem? (i := 53) (by decide +kernel)
section nvMath
variable {M : nv_MD} {pc : Nat}
theorem w_maxs : Cond.static Lib.Math.max.name ∈ lw_tbl := List.mem_of_getElem? (i := 394) (by decide +kernel)
theorem w_maxc : Cond.code Lib.Math.max.name Lib.Math.max.code 2 (some .int) ∈ lw_tbl := List.mem_of_getElem? (i := 395) (by decide +kernel)
def s_max (nx : Nat) : nv_Sem := fun lv stk h _ K => match stk with
  | .inl y :: .inl x :: r => (match Nat.ble (nv_len r) 8 with
    | true => nv_InR x ∧ nv_InR y ∧ K nx lv (.inl (max x y) :: r) h
    | false => False)
  | _ => False
theorem n_max {idx : Nat} (hd : decode (nv_c M) pc = .ok (.invokestatic idx, 3)) (hl : Cond.methodLink (nv_own M) idx Lib.Math.max.name ∈ lw_tbl) (hfr : 1 ≤ (nv_rm M).frames) (hlo : 21 ≤ (nv_rm M).locals) : nv_Snd M pc (s_max (pc + 3)) := by
  intro lv stk h Q K hK hf X p l e s m args below meth c H locs ls C hP hD hS hl' ho hk
  unfold s_max at hf
  split at hf
  · next y x r =>
    split at hf
    · next hb =>
      obtain ⟨hx, hy, hf⟩ := hf
      have ht := C.2.2.2.2.2.2.1
      have hb := Nat.le_of_ble_eq_true hb
      refine va_mmax (rest := r.map (nv_tr X)) C.1 C.2.1 (C.2.2.2.1.trans hl'.1.symm) C.2.2.2.2.2.1 (ht _ (nv_in hl rfl)) (ht _ (nv_in w_maxs rfl)) (ht _ (nv_in w_mathin rfl)) (ht _ (nv_in w_maxc rfl)) hfr (by rw [nv_len_cat]; omega) (Nat.zero_le _) (Nat.zero_le _) hd ?_
      have e1 : (if Int32.ofInt x < Int32.ofInt y then Int32.ofInt y else Int32.ofInt x) = Int32.ofInt (max x y) := by
        by_cases hc : x < y
        · rw [if_pos ((nv_ltR hx hy).mpr hc), Int.max_eq_right (by omega)]
        · rw [if_neg (fun q => hc ((nv_ltR hx hy).mp q)), Int.max_eq_left (by omega)]
      rw [e1]
      exact hK _ _ _ _ hf X p l e s m args below meth c H locs ls C hP hD hS hl' ho (List.forall_mem_cons.mpr ⟨trivial, (List.forall_mem_cons.mp (List.forall_mem_cons.mp hk).2).2⟩)
    · exact hf.elim
  · exact hf.elim
theorem w_mins : Cond.static Lib.Math.min.name ∈ lw_tbl := List.mem_of_getElem? (i := 397) (by decide +kernel)
theorem w_minc : Cond.code Lib.Math.min.name Lib.Math.min.code 2 (some .int) ∈ lw_tbl := List.mem_of_getElem? (i := 398) (by decide +kernel)
def s_min (nx : Nat) : nv_Sem := fun lv stk h _ K => match stk with
  | .inl y :: .inl x :: r => (match Nat.ble (nv_len r) 8 with
    | true => nv_InR x ∧ nv_InR y ∧ K nx lv (.inl (min x y) :: r) h
    | false => False)
  | _ => False
theorem n_min {idx : Nat} (hd : decode (nv_c M) pc = .ok (.invokestatic idx, 3)) (hl : Cond.methodLink (nv_own M) idx Lib.Math.min.name ∈ lw_tbl) (hfr : 1 ≤ (nv_rm M).frames) (hlo : 21 ≤ (nv_rm M).locals) : nv_Snd M pc (s_min (pc + 3)) := by
  intro lv stk h Q K hK hf X p l e s m args below meth c H locs ls C hP hD hS hl' ho hk
  unfold s_min at hf
  split at hf
  · next y x r =>
    split at hf
    · next hb =>
      obtain ⟨hx, hy, hf⟩ := hf
      have ht := C.2.2.2.2.2.2.1
      have hb := Nat.le_of_ble_eq_true hb
      refine va_mmin (rest := r.map (nv_tr X)) C.1 C.2.1 (C.2.2.2.1.trans hl'.1.symm) C.2.2.2.2.2.1 (ht _ (nv_in hl rfl)) (ht _ (nv_in w_mins rfl)) (ht _ (nv_in w_mathin rfl)) (ht _ (nv_in w_minc rfl)) hfr (by rw [nv_len_cat]; omega) (Nat.zero_le _) (Nat.zero_le _) hd ?_
      have e1 : (if Int32.ofInt y < Int32.ofInt x then Int32.ofInt y else Int32.ofInt x) = Int32.ofInt (min x y) := by
        by_cases hc : y < x
        · rw [if_pos ((nv_ltR hy hx).mpr hc), Int.min_eq_right (by omega)]
        · rw [if_neg (fun q => hc ((nv_ltR hy hx).mp q)), Int.min_eq_left (by omega)]
      rw [e1]
      exact hK _ _ _ _ hf X p l e s m args below meth c H locs ls C hP hD hS hl' ho (List.forall_mem_cons.mpr ⟨trivial, (List.forall_mem_cons.mp (List.forall_mem_cons.mp hk).2).2⟩)
    · exact hf.elim
  · exact hf.elim
end nvMath
def M_J0_indexOf_0f7a4 : nv_MD := (RJ0, yJ0_indexOf_0f7a4, cJ0_indexOf_0f7a4, 2, (some .int), 6, 200)
theorem fn_J0_indexOf_0f7a4 : nv_fn M_J0_indexOf_0f7a4 1 := ⟨List.mem_of_getElem? (i := 368) (by decide +kernel), List.mem_of_getElem? (i := 51) (by decide +kernel), by decide +kernel⟩
theorem fv_J0_indexOf_0f7a4 : nv_fnV M_J0_indexOf_0f7a4 := ⟨List.mem_of_getElem? (i := 366) (by decide +kernel), List.mem_of_getElem? (i := 367) (by decide +kernel)⟩
end
section
def M_X0_empty : nv_MD := (RX0, yX0_empty, cX0_empty, 1, none, 0, 0)
theorem fn_X0_empty : nv_fn M_X0_empty 0 := ⟨List.mem_of_getElem? (i := 322) (by decide +kernel), List.mem_of_getElem? (i := 45) (by decide +kernel), by decide +kernel⟩
theorem fv_X0_empty : nv_fnV M_X0_empty := ⟨List.mem_of_getElem? (i := 320) (by decide +kernel), List.mem_of_getElem? (i := 321) (by decide +kernel)⟩
def P_X0_empty : nv_Pg := [(0, s_al 0 1), (1, s_ki (0) 2), (2, s_pf 0 0 5), (5, s_al 0 6), (6, s_ki (0) 7), (7, s_pf 0 1 10), (10, s_al 0 11), (11, s_ki (0) 12), (12, s_pf 0 2 15), (15, s_vr)]
set_option maxRecDepth 100000 in
set_option maxHeartbeats 4000000 in
theorem ok_X0_empty : nv_ok_P M_X0_empty P_X0_empty :=
  nv_oc (n_aload_n (k := 0) (by decide +kernel)) <|
  nv_oc (n_iconst (z := 0) (by decide +kernel)) <|
  nv_oc (n_putfield (idx := 37) (ci := 0) (k := 0) (N := 11) (D := RX0) (T := TX0) tyX0 tyX0_ok nmX0 (by decide +kernel) rfl i_X0 (by decide) (by decide) rfl f_X0_37 rfl) <|
  nv_oc (n_aload_n (k := 0) (by decide +kernel)) <|
  nv_oc (n_iconst (z := 0) (by decide +kernel)) <|
  nv_oc (n_putfield (idx := 40) (ci := 0) (k := 1) (N := 11) (D := RX0) (T := TX0) tyX0 tyX0_ok nmX0 (by decide +kernel) rfl i_X0 (by decide) (by decide) rfl f_X0_40 rfl) <|
  nv_oc (n_aload_n (k := 0) (by decide +kernel)) <|
  nv_oc (n_iconst (z := 0) (by decide +kernel)) <|
  nv_oc (n_putfield (idx := 43) (ci := 0) (k := 2) (N := 11) (D := RX0) (T := TX0) tyX0 tyX0_ok nmX0 (by decide +kernel) rfl i_X0 (by decide) (by decide) rfl f_X0_43 rfl) <|
  nv_oc (n_vret (by decide +kernel) rfl) <|
  nv_on
def M_X0_takeMoment : nv_MD := (RX0, yX0_takeMoment, cX0_takeMoment, 2, none, 1, 40)
theorem fn_X0_takeMoment : nv_fn M_X0_takeMoment 1 := ⟨List.mem_of_getElem? (i := 466) (by decide +kernel), List.mem_of_getElem? (i := 45) (by decide +kernel), by decide +kernel⟩
theorem fv_X0_takeMoment : nv_fnV M_X0_takeMoment := ⟨List.mem_of_getElem? (i := 464) (by decide +kernel), List.mem_of_getElem? (i := 465) (by decide +kernel)⟩
def P_X0_takeMoment : nv_Pg := [(0, s_al 0 1), (1, s_al 1 2), (2, s_gf 0 2 5), (5, s_pf 0 2 8), (8, s_al 0 9), (9, s_al 1 10), (10, s_gf 0 3 13), (13, s_pf 0 3 16), (16, s_al 1 17), (17, s_gf 0 6 20), (20, s_ki (0) 21), (21, s_al 0 22), (22, s_gf 0 6 25), (25, s_ki (0) 26), (26, s_ki (5) 27), (27, s_cpi 30), (30, s_al 1 31), (31, s_gf 0 8 34), (34, s_ki (0) 35), (35, s_al 0 36), (36, s_gf 0 8 39), (39, s_ki (0) 40), (40, s_ki (5) 41), (41, s_cpi 44), (44, s_al 1 45), (45, s_gf 0 9 48), (48, s_ki (0) 49), (49, s_al 0 50), (50, s_gf 0 9 53), (53, s_ki (0) 54), (54, s_ki (5) 55), (55, s_cpi 58), (58, s_vr)]
set_option maxRecDepth 100000 in
set_option maxHeartbeats 4000000 in
theorem ok_X0_takeMoment : nv_ok_P M_X0_takeMoment P_X0_takeMoment :=
  nv_oc (n_aload_n (k := 0) (by decide +kernel)) <|
  nv_oc (n_aload_n (k := 1) (by decide +kernel)) <|
  nv_oc (n_getfield (idx := 43) (ci := 0) (k := 2) (N := 11) (D := RX0) (T := TX0) (by decide +kernel) rfl i_X0 (by decide) (by decide) f_X0_43) <|
  nv_oc (n_putfield (idx := 43) (ci := 0) (k := 2) (N := 11) (D := RX0) (T := TX0) tyX0 tyX0_ok nmX0 (by decide +kernel) rfl i_X0 (by decide) (by decide) rfl f_X0_43 rfl) <|
  nv_oc (n_aload_n (k := 0) (by decide +kernel)) <|
  nv_oc (n_aload_n (k := 1) (by decide +kernel)) <|
  nv_oc (n_getfield (idx := 9) (ci := 0) (k := 3) (N := 11) (D := RX0) (T := TX0) (by decide +kernel) rfl i_X0 (by decide) (by decide) f_X0_9) <|
  nv_oc (n_putfield (idx := 9) (ci := 0) (k := 3) (N := 11) (D := RX0) (T := TX0) tyX0 tyX0_ok nmX0 (by decide +kernel) rfl i_X0 (by decide) (by decide) rfl f_X0_9 rfl) <|
  nv_oc (n_aload_n (k := 1) (by decide +kernel)) <|
  nv_oc (n_getfield (idx := 22) (ci := 0) (k := 6) (N := 11) (D := RX0) (T := TX0) (by decide +kernel) rfl i_X0 (by decide) (by decide) f_X0_22) <|
  nv_oc (n_iconst (z := 0) (by decide +kernel)) <|
  nv_oc (n_aload_n (k := 0) (by decide +kernel)) <|
  nv_oc (n_getfield (idx := 22) (ci := 0) (k := 6) (N := 11) (D := RX0) (T := TX0) (by decide +kernel) rfl i_X0 (by decide) (by decide) f_X0_22) <|
  nv_oc (n_iconst (z := 0) (by decide +kernel)) <|
  nv_oc (n_iconst (z := 5) (by decide +kernel)) <|
  nv_oc (n_cpi (idx := 46) (by decide +kernel) l_X0_46 w_nat w_natst w_natin (by decide) (by decide)) <|
  nv_oc (n_aload_n (k := 1) (by decide +kernel)) <|
  nv_oc (n_getfield (idx := 28) (ci := 0) (k := 8) (N := 11) (D := RX0) (T := TX0) (by decide +kernel) rfl i_X0 (by decide) (by decide) f_X0_28) <|
  nv_oc (n_iconst (z := 0) (by decide +kernel)) <|
  nv_oc (n_aload_n (k := 0) (by decide +kernel)) <|
  nv_oc (n_getfield (idx := 28) (ci := 0) (k := 8) (N := 11) (D := RX0) (T := TX0) (by decide +kernel) rfl i_X0 (by decide) (by decide) f_X0_28) <|
  nv_oc (n_iconst (z := 0) (by decide +kernel)) <|
  nv_oc (n_iconst (z := 5) (by decide +kernel)) <|
  nv_oc (n_cpi (idx := 46) (by decide +kernel) l_X0_46 w_nat w_natst w_natin (by decide) (by decide)) <|
  nv_oc (n_aload_n (k := 1) (by decide +kernel)) <|
  nv_oc (n_getfield (idx := 31) (ci := 0) (k := 9) (N := 11) (D := RX0) (T := TX0) (by decide +kernel) rfl i_X0 (by decide) (by decide) f_X0_31) <|
  nv_oc (n_iconst (z := 0) (by decide +kernel)) <|
  nv_oc (n_aload_n (k := 0) (by decide +kernel)) <|
  nv_oc (n_getfield (idx := 31) (ci := 0) (k := 9) (N := 11) (D := RX0) (T := TX0) (by decide +kernel) rfl i_X0 (by decide) (by decide) f_X0_31) <|
  nv_oc (n_iconst (z := 0) (by decide +kernel)) <|
  nv_oc (n_iconst (z := 5) (by decide +kernel)) <|
  nv_oc (n_cpi (idx := 46) (by decide +kernel) l_X0_46 w_nat w_natst w_natin (by decide) (by decide)) <|
  nv_oc (n_vret (by decide +kernel) rfl) <|
  nv_on
def M_X0_takeAll : nv_MD := (RX0, yX0_takeAll, cX0_takeAll, 2, none, 2, 61)
theorem fn_X0_takeAll : nv_fn M_X0_takeAll 1 := ⟨List.mem_of_getElem? (i := 459) (by decide +kernel), List.mem_of_getElem? (i := 45) (by decide +kernel), by decide +kernel⟩
theorem fv_X0_takeAll : nv_fnV M_X0_takeAll := ⟨List.mem_of_getElem? (i := 457) (by decide +kernel), List.mem_of_getElem? (i := 458) (by decide +kernel)⟩
def P_X0_takeAll : nv_Pg := [(0, s_al 0 1), (1, s_al 1 2), (2, s_gf 0 0 5), (5, s_pf 0 0 8), (8, s_al 0 9), (9, s_al 1 10), (10, s_gf 0 1 13), (13, s_pf 0 1 16), (16, s_al 1 17), (17, s_gf 0 4 20), (20, s_ki (0) 21), (21, s_al 0 22), (22, s_gf 0 4 25), (25, s_ki (0) 26), (26, s_ki (5) 27), (27, s_cpi 30), (30, s_al 1 31), (31, s_gf 0 5 34), (34, s_ki (0) 35), (35, s_al 0 36), (36, s_gf 0 5 39), (39, s_ki (0) 40), (40, s_ki (5) 41), (41, s_cpi 44), (44, s_al 1 45), (45, s_gf 0 7 48), (48, s_ki (0) 49), (49, s_al 0 50), (50, s_gf 0 7 53), (53, s_ki (0) 54), (54, s_ki (5) 55), (55, s_cpi 58), (58, s_al 0 59), (59, s_al 1 60), (60, s_cv 0 M_X0_takeMoment 1 63), (63, s_vr)]
set_option maxRecDepth 100000 in
set_option maxHeartbeats 4000000 in
theorem ok_X0_takeAll : nv_ok_P M_X0_takeAll P_X0_takeAll :=
  nv_oc (n_aload_n (k := 0) (by decide +kernel)) <|
  nv_oc (n_aload_n (k := 1) (by decide +kernel)) <|
  nv_oc (n_getfield (idx := 37) (ci := 0) (k := 0) (N := 11) (D := RX0) (T := TX0) (by decide +kernel) rfl i_X0 (by decide) (by decide) f_X0_37) <|
  nv_oc (n_putfield (idx := 37) (ci := 0) (k := 0) (N := 11) (D := RX0) (T := TX0) tyX0 tyX0_ok nmX0 (by decide +kernel) rfl i_X0 (by decide) (by decide) rfl f_X0_37 rfl) <|
  nv_oc (n_aload_n (k := 0) (by decide +kernel)) <|
  nv_oc (n_aload_n (k := 1) (by decide +kernel)) <|
  nv_oc (n_getfield (idx := 40) (ci := 0) (k := 1) (N := 11) (D := RX0) (T := TX0) (by decide +kernel) rfl i_X0 (by decide) (by decide) f_X0_40) <|
  nv_oc (n_putfield (idx := 40) (ci := 0) (k := 1) (N := 11) (D := RX0) (T := TX0) tyX0 tyX0_ok nmX0 (by decide +kernel) rfl i_X0 (by decide) (by decide) rfl f_X0_40 rfl) <|
  nv_oc (n_aload_n (k := 1) (by decide +kernel)) <|
  nv_oc (n_getfield (idx := 15) (ci := 0) (k := 4) (N := 11) (D := RX0) (T := TX0) (by decide +kernel) rfl i_X0 (by decide) (by decide) f_X0_15) <|
  nv_oc (n_iconst (z := 0) (by decide +kernel)) <|
  nv_oc (n_aload_n (k := 0) (by decide +kernel)) <|
  nv_oc (n_getfield (idx := 15) (ci := 0) (k := 4) (N := 11) (D := RX0) (T := TX0) (by decide +kernel) rfl i_X0 (by decide) (by decide) f_X0_15) <|
  nv_oc (n_iconst (z := 0) (by decide +kernel)) <|
  nv_oc (n_iconst (z := 5) (by decide +kernel)) <|
  nv_oc (n_cpi (idx := 46) (by decide +kernel) l_X0_46 w_nat w_natst w_natin (by decide) (by decide)) <|
  nv_oc (n_aload_n (k := 1) (by decide +kernel)) <|
  nv_oc (n_getfield (idx := 19) (ci := 0) (k := 5) (N := 11) (D := RX0) (T := TX0) (by decide +kernel) rfl i_X0 (by decide) (by decide) f_X0_19) <|
  nv_oc (n_iconst (z := 0) (by decide +kernel)) <|
  nv_oc (n_aload_n (k := 0) (by decide +kernel)) <|
  nv_oc (n_getfield (idx := 19) (ci := 0) (k := 5) (N := 11) (D := RX0) (T := TX0) (by decide +kernel) rfl i_X0 (by decide) (by decide) f_X0_19) <|
  nv_oc (n_iconst (z := 0) (by decide +kernel)) <|
  nv_oc (n_iconst (z := 5) (by decide +kernel)) <|
  nv_oc (n_cpi (idx := 46) (by decide +kernel) l_X0_46 w_nat w_natst w_natin (by decide) (by decide)) <|
  nv_oc (n_aload_n (k := 1) (by decide +kernel)) <|
  nv_oc (n_getfield (idx := 25) (ci := 0) (k := 7) (N := 11) (D := RX0) (T := TX0) (by decide +kernel) rfl i_X0 (by decide) (by decide) f_X0_25) <|
  nv_oc (n_iconst (z := 0) (by decide +kernel)) <|
  nv_oc (n_aload_n (k := 0) (by decide +kernel)) <|
  nv_oc (n_getfield (idx := 25) (ci := 0) (k := 7) (N := 11) (D := RX0) (T := TX0) (by decide +kernel) rfl i_X0 (by decide) (by decide) f_X0_25) <|
  nv_oc (n_iconst (z := 0) (by decide +kernel)) <|
  nv_oc (n_iconst (z := 5) (by decide +kernel)) <|
  nv_oc (n_cpi (idx := 46) (by decide +kernel) l_X0_46 w_nat w_natst w_natin (by decide) (by decide)) <|
  nv_oc (n_aload_n (k := 0) (by decide +kernel)) <|
  nv_oc (n_aload_n (k := 1) (by decide +kernel)) <|
  nv_oc (n_virtual (M' := M_X0_takeMoment) (idx := 52) (n := 1) (ci := 0) (N := 11) (D := RX0) (T := TX0) (by decide +kernel) fn_X0_takeMoment fv_X0_takeMoment rfl rfl l_X0_52 ⟨by decide, by decide⟩) <|
  nv_oc (n_vret (by decide +kernel) rfl) <|
  nv_on
def M_X0_isLike : nv_MD := (RX0, yX0_isLike, cX0_isLike, 4, (some .boolean), 0, 0)
theorem fn_X0_isLike : nv_fn M_X0_isLike 1 := ⟨List.mem_of_getElem? (i := 612) (by decide +kernel), List.mem_of_getElem? (i := 45) (by decide +kernel), by decide +kernel⟩
theorem fv_X0_isLike : nv_fnV M_X0_isLike := ⟨List.mem_of_getElem? (i := 610) (by decide +kernel), List.mem_of_getElem? (i := 611) (by decide +kernel)⟩
def P_X0_isLike : nv_Pg := [(0, s_al 0 1), (1, s_gf 0 0 4), (4, s_al 1 5), (5, s_gf 0 0 8), (8, s_ic c_eq 11 37), (11, s_al 0 12), (12, s_gf 0 1 15), (15, s_al 1 16), (16, s_gf 0 1 19), (19, s_ic c_eq 22 37), (22, s_al 0 23), (23, s_gf 0 2 26), (26, s_al 1 27), (27, s_gf 0 2 30), (30, s_ic c_eq 33 37), (33, s_ki (1) 34), (34, s_go 38), (37, s_ki (0) 38), (38, s_is 2 39), (39, s_ki (0) 40), (40, s_is 3 41), (41, s_il 2 42), (42, s_if c_eq 110 45), (45, s_il 3 46), (46, s_al 0 47), (47, s_gf 0 0 50), (50, s_ic c_ge 110 53), (53, s_al 0 54), (54, s_gf 0 4 57), (57, s_il 3 58), (58, s_ia 59), (59, s_al 1 60), (60, s_gf 0 4 63), (63, s_il 3 64), (64, s_ia 65), (65, s_ic c_eq 68 102), (68, s_al 0 69), (69, s_gf 0 5 72), (72, s_il 3 73), (73, s_ia 74), (74, s_al 1 75), (75, s_gf 0 5 78), (78, s_il 3 79), (79, s_ia 80), (80, s_ic c_eq 83 102), (83, s_al 0 84), (84, s_gf 0 6 87), (87, s_il 3 88), (88, s_ia 89), (89, s_al 1 90), (90, s_gf 0 6 93), (93, s_il 3 94), (94, s_ia 95), (95, s_ic c_eq 98 102), (98, s_ki (1) 99), (99, s_go 103), (102, s_ki (0) 103), (103, s_is 2 104), (104, s_inc 3 (1) 107), (107, s_go 41), (110, s_ki (0) 111), (111, s_is 3 112), (112, s_il 2 113), (113, s_if c_eq 181 116), (116, s_il 3 117), (117, s_al 0 118), (118, s_gf 0 1 121), (121, s_ic c_ge 181 124), (124, s_al 0 125), (125, s_gf 0 7 128), (128, s_il 3 129), (129, s_ia 130), (130, s_al 1 131), (131, s_gf 0 7 134), (134, s_il 3 135), (135, s_ia 136), (136, s_ic c_eq 139 173), (139, s_al 0 140), (140, s_gf 0 8 143), (143, s_il 3 144), (144, s_ia 145), (145, s_al 1 146), (146, s_gf 0 8 149), (149, s_il 3 150), (150, s_ia 151), (151, s_ic c_eq 154 173), (154, s_al 0 155), (155, s_gf 0 9 158), (158, s_il 3 159), (159, s_ia 160), (160, s_al 1 161), (161, s_gf 0 9 164), (164, s_il 3 165), (165, s_ia 166), (166, s_ic c_eq 169 173), (169, s_ki (1) 170), (170, s_go 174), (173, s_ki (0) 174), (174, s_is 2 175), (175, s_inc 3 (1) 178), (178, s_go 112), (181, s_il 2 182), (182, s_zr)]
set_option maxRecDepth 100000 in
set_option maxHeartbeats 4000000 in
theorem ok_X0_isLike : nv_ok_P M_X0_isLike P_X0_isLike :=
  nv_oc (n_aload_n (k := 0) (by decide +kernel)) <|
  nv_oc (n_getfield (idx := 37) (ci := 0) (k := 0) (N := 11) (D := RX0) (T := TX0) (by decide +kernel) rfl i_X0 (by decide) (by decide) f_X0_37) <|
  nv_oc (n_aload_n (k := 1) (by decide +kernel)) <|
  nv_oc (n_getfield (idx := 37) (ci := 0) (k := 0) (N := 11) (D := RX0) (T := TX0) (by decide +kernel) rfl i_X0 (by decide) (by decide) f_X0_37) <|
  nv_oc (n_icmp_ne (off := 29) (tgt := 37) (by decide +kernel) (by decide)) <|
  nv_oc (n_aload_n (k := 0) (by decide +kernel)) <|
  nv_oc (n_getfield (idx := 40) (ci := 0) (k := 1) (N := 11) (D := RX0) (T := TX0) (by decide +kernel) rfl i_X0 (by decide) (by decide) f_X0_40) <|
  nv_oc (n_aload_n (k := 1) (by decide +kernel)) <|
  nv_oc (n_getfield (idx := 40) (ci := 0) (k := 1) (N := 11) (D := RX0) (T := TX0) (by decide +kernel) rfl i_X0 (by decide) (by decide) f_X0_40) <|
  nv_oc (n_icmp_ne (off := 18) (tgt := 37) (by decide +kernel) (by decide)) <|
  nv_oc (n_aload_n (k := 0) (by decide +kernel)) <|
  nv_oc (n_getfield (idx := 43) (ci := 0) (k := 2) (N := 11) (D := RX0) (T := TX0) (by decide +kernel) rfl i_X0 (by decide) (by decide) f_X0_43) <|
  nv_oc (n_aload_n (k := 1) (by decide +kernel)) <|
  nv_oc (n_getfield (idx := 43) (ci := 0) (k := 2) (N := 11) (D := RX0) (T := TX0) (by decide +kernel) rfl i_X0 (by decide) (by decide) f_X0_43) <|
  nv_oc (n_icmp_ne (off := 7) (tgt := 37) (by decide +kernel) (by decide)) <|
  nv_oc (n_iconst (z := 1) (by decide +kernel)) <|
  nv_oc (n_goto (off := 4) (tgt := 38) (by decide +kernel) (by decide)) <|
  nv_oc (n_iconst (z := 0) (by decide +kernel)) <|
  nv_oc (n_istore_n (k := 2) (by decide +kernel) (by decide)) <|
  nv_oc (n_iconst (z := 0) (by decide +kernel)) <|
  nv_oc (n_istore_n (k := 3) (by decide +kernel) (by decide)) <|
  nv_oc (n_iload_n (k := 2) (by decide +kernel)) <|
  nv_oc (n_if_eq (off := 68) (tgt := 110) (by decide +kernel) (by decide)) <|
  nv_oc (n_iload_n (k := 3) (by decide +kernel)) <|
  nv_oc (n_aload_n (k := 0) (by decide +kernel)) <|
  nv_oc (n_getfield (idx := 37) (ci := 0) (k := 0) (N := 11) (D := RX0) (T := TX0) (by decide +kernel) rfl i_X0 (by decide) (by decide) f_X0_37) <|
  nv_oc (n_icmp_ge (off := 60) (tgt := 110) (by decide +kernel) (by decide)) <|
  nv_oc (n_aload_n (k := 0) (by decide +kernel)) <|
  nv_oc (n_getfield (idx := 15) (ci := 0) (k := 4) (N := 11) (D := RX0) (T := TX0) (by decide +kernel) rfl i_X0 (by decide) (by decide) f_X0_15) <|
  nv_oc (n_iload_n (k := 3) (by decide +kernel)) <|
  nv_oc (n_iaload (by decide +kernel)) <|
  nv_oc (n_aload_n (k := 1) (by decide +kernel)) <|
  nv_oc (n_getfield (idx := 15) (ci := 0) (k := 4) (N := 11) (D := RX0) (T := TX0) (by decide +kernel) rfl i_X0 (by decide) (by decide) f_X0_15) <|
  nv_oc (n_iload_n (k := 3) (by decide +kernel)) <|
  nv_oc (n_iaload (by decide +kernel)) <|
  nv_oc (n_icmp_ne (off := 37) (tgt := 102) (by decide +kernel) (by decide)) <|
  nv_oc (n_aload_n (k := 0) (by decide +kernel)) <|
  nv_oc (n_getfield (idx := 19) (ci := 0) (k := 5) (N := 11) (D := RX0) (T := TX0) (by decide +kernel) rfl i_X0 (by decide) (by decide) f_X0_19) <|
  nv_oc (n_iload_n (k := 3) (by decide +kernel)) <|
  nv_oc (n_iaload (by decide +kernel)) <|
  nv_oc (n_aload_n (k := 1) (by decide +kernel)) <|
  nv_oc (n_getfield (idx := 19) (ci := 0) (k := 5) (N := 11) (D := RX0) (T := TX0) (by decide +kernel) rfl i_X0 (by decide) (by decide) f_X0_19) <|
  nv_oc (n_iload_n (k := 3) (by decide +kernel)) <|
  nv_oc (n_iaload (by decide +kernel)) <|
  nv_oc (n_icmp_ne (off := 22) (tgt := 102) (by decide +kernel) (by decide)) <|
  nv_oc (n_aload_n (k := 0) (by decide +kernel)) <|
  nv_oc (n_getfield (idx := 22) (ci := 0) (k := 6) (N := 11) (D := RX0) (T := TX0) (by decide +kernel) rfl i_X0 (by decide) (by decide) f_X0_22) <|
  nv_oc (n_iload_n (k := 3) (by decide +kernel)) <|
  nv_oc (n_iaload (by decide +kernel)) <|
  nv_oc (n_aload_n (k := 1) (by decide +kernel)) <|
  nv_oc (n_getfield (idx := 22) (ci := 0) (k := 6) (N := 11) (D := RX0) (T := TX0) (by decide +kernel) rfl i_X0 (by decide) (by decide) f_X0_22) <|
  nv_oc (n_iload_n (k := 3) (by decide +kernel)) <|
  nv_oc (n_iaload (by decide +kernel)) <|
  nv_oc (n_icmp_ne (off := 7) (tgt := 102) (by decide +kernel) (by decide)) <|
  nv_oc (n_iconst (z := 1) (by decide +kernel)) <|
  nv_oc (n_goto (off := 4) (tgt := 103) (by decide +kernel) (by decide)) <|
  nv_oc (n_iconst (z := 0) (by decide +kernel)) <|
  nv_oc (n_istore_n (k := 2) (by decide +kernel) (by decide)) <|
  nv_oc (n_iinc (k := 3) (d := 1) (by decide +kernel) (by decide)) <|
  nv_oc (n_goto (off := -66) (tgt := 41) (by decide +kernel) (by decide)) <|
  nv_oc (n_iconst (z := 0) (by decide +kernel)) <|
  nv_oc (n_istore_n (k := 3) (by decide +kernel) (by decide)) <|
  nv_oc (n_iload_n (k := 2) (by decide +kernel)) <|
  nv_oc (n_if_eq (off := 68) (tgt := 181) (by decide +kernel) (by decide)) <|
  nv_oc (n_iload_n (k := 3) (by decide +kernel)) <|
  nv_oc (n_aload_n (k := 0) (by decide +kernel)) <|
  nv_oc (n_getfield (idx := 40) (ci := 0) (k := 1) (N := 11) (D := RX0) (T := TX0) (by decide +kernel) rfl i_X0 (by decide) (by decide) f_X0_40) <|
  nv_oc (n_icmp_ge (off := 60) (tgt := 181) (by decide +kernel) (by decide)) <|
  nv_oc (n_aload_n (k := 0) (by decide +kernel)) <|
  nv_oc (n_getfield (idx := 25) (ci := 0) (k := 7) (N := 11) (D := RX0) (T := TX0) (by decide +kernel) rfl i_X0 (by decide) (by decide) f_X0_25) <|
  nv_oc (n_iload_n (k := 3) (by decide +kernel)) <|
  nv_oc (n_iaload (by decide +kernel)) <|
  nv_oc (n_aload_n (k := 1) (by decide +kernel)) <|
  nv_oc (n_getfield (idx := 25) (ci := 0) (k := 7) (N := 11) (D := RX0) (T := TX0) (by decide +kernel) rfl i_X0 (by decide) (by decide) f_X0_25) <|
  nv_oc (n_iload_n (k := 3) (by decide +kernel)) <|
  nv_oc (n_iaload (by decide +kernel)) <|
  nv_oc (n_icmp_ne (off := 37) (tgt := 173) (by decide +kernel) (by decide)) <|
  nv_oc (n_aload_n (k := 0) (by decide +kernel)) <|
  nv_oc (n_getfield (idx := 28) (ci := 0) (k := 8) (N := 11) (D := RX0) (T := TX0) (by decide +kernel) rfl i_X0 (by decide) (by decide) f_X0_28) <|
  nv_oc (n_iload_n (k := 3) (by decide +kernel)) <|
  nv_oc (n_iaload (by decide +kernel)) <|
  nv_oc (n_aload_n (k := 1) (by decide +kernel)) <|
  nv_oc (n_getfield (idx := 28) (ci := 0) (k := 8) (N := 11) (D := RX0) (T := TX0) (by decide +kernel) rfl i_X0 (by decide) (by decide) f_X0_28) <|
  nv_oc (n_iload_n (k := 3) (by decide +kernel)) <|
  nv_oc (n_iaload (by decide +kernel)) <|
  nv_oc (n_icmp_ne (off := 22) (tgt := 173) (by decide +kernel) (by decide)) <|
  nv_oc (n_aload_n (k := 0) (by decide +kernel)) <|
  nv_oc (n_getfield (idx := 31) (ci := 0) (k := 9) (N := 11) (D := RX0) (T := TX0) (by decide +kernel) rfl i_X0 (by decide) (by decide) f_X0_31) <|
  nv_oc (n_iload_n (k := 3) (by decide +kernel)) <|
  nv_oc (n_iaload (by decide +kernel)) <|
  nv_oc (n_aload_n (k := 1) (by decide +kernel)) <|
  nv_oc (n_getfield (idx := 31) (ci := 0) (k := 9) (N := 11) (D := RX0) (T := TX0) (by decide +kernel) rfl i_X0 (by decide) (by decide) f_X0_31) <|
  nv_oc (n_iload_n (k := 3) (by decide +kernel)) <|
  nv_oc (n_iaload (by decide +kernel)) <|
  nv_oc (n_icmp_ne (off := 7) (tgt := 173) (by decide +kernel) (by decide)) <|
  nv_oc (n_iconst (z := 1) (by decide +kernel)) <|
  nv_oc (n_goto (off := 4) (tgt := 174) (by decide +kernel) (by decide)) <|
  nv_oc (n_iconst (z := 0) (by decide +kernel)) <|
  nv_oc (n_istore_n (k := 2) (by decide +kernel) (by decide)) <|
  nv_oc (n_iinc (k := 3) (d := 1) (by decide +kernel) (by decide)) <|
  nv_oc (n_goto (off := -66) (tgt := 112) (by decide +kernel) (by decide)) <|
  nv_oc (n_iload_n (k := 2) (by decide +kernel)) <|
  nv_oc (n_zret (by decide +kernel) rfl) <|
  nv_on
def M_X0_addPlank : nv_MD := (RX0, yX0_addPlank, cX0_addPlank, 4, (some .int), 0, 0)
theorem fn_X0_addPlank : nv_fn M_X0_addPlank 3 := ⟨List.mem_of_getElem? (i := 254) (by decide +kernel), List.mem_of_getElem? (i := 45) (by decide +kernel), by decide +kernel⟩
theorem fv_X0_addPlank : nv_fnV M_X0_addPlank := ⟨List.mem_of_getElem? (i := 252) (by decide +kernel), List.mem_of_getElem? (i := 253) (by decide +kernel)⟩
def P_X0_addPlank : nv_Pg := [(0, s_al 0 1), (1, s_gf 0 0 4), (4, s_ki (5) 5), (5, s_ic c_lt 11 8), (8, s_ki (-3) 10), (10, s_ir), (11, s_al 0 12), (12, s_gf 0 4 15), (15, s_al 0 16), (16, s_gf 0 0 19), (19, s_il 1 20), (20, s_iw 21), (21, s_al 0 22), (22, s_gf 0 5 25), (25, s_al 0 26), (26, s_gf 0 0 29), (29, s_il 2 30), (30, s_iw 31), (31, s_al 0 32), (32, s_gf 0 6 35), (35, s_al 0 36), (36, s_gf 0 0 39), (39, s_il 3 40), (40, s_iw 41), (41, s_al 0 42), (42, s_dup 43), (43, s_gf 0 0 46), (46, s_ki (1) 47), (47, s_add 48), (48, s_pf 0 0 51), (51, s_al 0 52), (52, s_gf 0 0 55), (55, s_ki (1) 56), (56, s_sub 57), (57, s_ir)]
set_option maxRecDepth 100000 in
set_option maxHeartbeats 4000000 in
theorem ok_X0_addPlank : nv_ok_P M_X0_addPlank P_X0_addPlank :=
  nv_oc (n_aload_n (k := 0) (by decide +kernel)) <|
  nv_oc (n_getfield (idx := 37) (ci := 0) (k := 0) (N := 11) (D := RX0) (T := TX0) (by decide +kernel) rfl i_X0 (by decide) (by decide) f_X0_37) <|
  nv_oc (n_iconst (z := 5) (by decide +kernel)) <|
  nv_oc (n_icmp_lt (off := 6) (tgt := 11) (by decide +kernel) (by decide)) <|
  nv_oc (n_bipush (z := -3) (by decide +kernel) (by decide)) <|
  nv_oc (n_iret (by decide +kernel) rfl) <|
  nv_oc (n_aload_n (k := 0) (by decide +kernel)) <|
  nv_oc (n_getfield (idx := 15) (ci := 0) (k := 4) (N := 11) (D := RX0) (T := TX0) (by decide +kernel) rfl i_X0 (by decide) (by decide) f_X0_15) <|
  nv_oc (n_aload_n (k := 0) (by decide +kernel)) <|
  nv_oc (n_getfield (idx := 37) (ci := 0) (k := 0) (N := 11) (D := RX0) (T := TX0) (by decide +kernel) rfl i_X0 (by decide) (by decide) f_X0_37) <|
  nv_oc (n_iload_n (k := 1) (by decide +kernel)) <|
  nv_oc (n_iastore (by decide +kernel)) <|
  nv_oc (n_aload_n (k := 0) (by decide +kernel)) <|
  nv_oc (n_getfield (idx := 19) (ci := 0) (k := 5) (N := 11) (D := RX0) (T := TX0) (by decide +kernel) rfl i_X0 (by decide) (by decide) f_X0_19) <|
  nv_oc (n_aload_n (k := 0) (by decide +kernel)) <|
  nv_oc (n_getfield (idx := 37) (ci := 0) (k := 0) (N := 11) (D := RX0) (T := TX0) (by decide +kernel) rfl i_X0 (by decide) (by decide) f_X0_37) <|
  nv_oc (n_iload_n (k := 2) (by decide +kernel)) <|
  nv_oc (n_iastore (by decide +kernel)) <|
  nv_oc (n_aload_n (k := 0) (by decide +kernel)) <|
  nv_oc (n_getfield (idx := 22) (ci := 0) (k := 6) (N := 11) (D := RX0) (T := TX0) (by decide +kernel) rfl i_X0 (by decide) (by decide) f_X0_22) <|
  nv_oc (n_aload_n (k := 0) (by decide +kernel)) <|
  nv_oc (n_getfield (idx := 37) (ci := 0) (k := 0) (N := 11) (D := RX0) (T := TX0) (by decide +kernel) rfl i_X0 (by decide) (by decide) f_X0_37) <|
  nv_oc (n_iload_n (k := 3) (by decide +kernel)) <|
  nv_oc (n_iastore (by decide +kernel)) <|
  nv_oc (n_aload_n (k := 0) (by decide +kernel)) <|
  nv_oc (n_dup (by decide +kernel)) <|
  nv_oc (n_getfield (idx := 37) (ci := 0) (k := 0) (N := 11) (D := RX0) (T := TX0) (by decide +kernel) rfl i_X0 (by decide) (by decide) f_X0_37) <|
  nv_oc (n_iconst (z := 1) (by decide +kernel)) <|
  nv_oc (n_iadd (by decide +kernel)) <|
  nv_oc (n_putfield (idx := 37) (ci := 0) (k := 0) (N := 11) (D := RX0) (T := TX0) tyX0 tyX0_ok nmX0 (by decide +kernel) rfl i_X0 (by decide) (by decide) rfl f_X0_37 rfl) <|
  nv_oc (n_aload_n (k := 0) (by decide +kernel)) <|
  nv_oc (n_getfield (idx := 37) (ci := 0) (k := 0) (N := 11) (D := RX0) (T := TX0) (by decide +kernel) rfl i_X0 (by decide) (by decide) f_X0_37) <|
  nv_oc (n_iconst (z := 1) (by decide +kernel)) <|
  nv_oc (n_isub (by decide +kernel)) <|
  nv_oc (n_iret (by decide +kernel) rfl) <|
  nv_on
def M_X0_addSawyer : nv_MD := (RX0, yX0_addSawyer, cX0_addSawyer, 4, (some .int), 0, 0)
theorem fn_X0_addSawyer : nv_fn M_X0_addSawyer 3 := ⟨List.mem_of_getElem? (i := 266) (by decide +kernel), List.mem_of_getElem? (i := 45) (by decide +kernel), by decide +kernel⟩
theorem fv_X0_addSawyer : nv_fnV M_X0_addSawyer := ⟨List.mem_of_getElem? (i := 264) (by decide +kernel), List.mem_of_getElem? (i := 265) (by decide +kernel)⟩
def P_X0_addSawyer : nv_Pg := [(0, s_al 0 1), (1, s_gf 0 1 4), (4, s_ki (5) 5), (5, s_ic c_lt 11 8), (8, s_ki (-3) 10), (10, s_ir), (11, s_al 0 12), (12, s_gf 0 7 15), (15, s_al 0 16), (16, s_gf 0 1 19), (19, s_il 1 20), (20, s_iw 21), (21, s_al 0 22), (22, s_gf 0 8 25), (25, s_al 0 26), (26, s_gf 0 1 29), (29, s_il 2 30), (30, s_iw 31), (31, s_al 0 32), (32, s_gf 0 9 35), (35, s_al 0 36), (36, s_gf 0 1 39), (39, s_il 3 40), (40, s_iw 41), (41, s_al 0 42), (42, s_dup 43), (43, s_gf 0 1 46), (46, s_ki (1) 47), (47, s_add 48), (48, s_pf 0 1 51), (51, s_al 0 52), (52, s_gf 0 1 55), (55, s_ki (1) 56), (56, s_sub 57), (57, s_ir)]
set_option maxRecDepth 100000 in
set_option maxHeartbeats 4000000 in
theorem ok_X0_addSawyer : nv_ok_P M_X0_addSawyer P_X0_addSawyer :=
  nv_oc (n_aload_n (k := 0) (by decide +kernel)) <|
  nv_oc (n_getfield (idx := 40) (ci := 0) (k := 1) (N := 11) (D := RX0) (T := TX0) (by decide +kernel) rfl i_X0 (by decide) (by decide) f_X0_40) <|
  nv_oc (n_iconst (z := 5) (by decide +kernel)) <|
  nv_oc (n_icmp_lt (off := 6) (tgt := 11) (by decide +kernel) (by decide)) <|
  nv_oc (n_bipush (z := -3) (by decide +kernel) (by decide)) <|
  nv_oc (n_iret (by decide +kernel) rfl) <|
  nv_oc (n_aload_n (k := 0) (by decide +kernel)) <|
  nv_oc (n_getfield (idx := 25) (ci := 0) (k := 7) (N := 11) (D := RX0) (T := TX0) (by decide +kernel) rfl i_X0 (by decide) (by decide) f_X0_25) <|
  nv_oc (n_aload_n (k := 0) (by decide +kernel)) <|
  nv_oc (n_getfield (idx := 40) (ci := 0) (k := 1) (N := 11) (D := RX0) (T := TX0) (by decide +kernel) rfl i_X0 (by decide) (by decide) f_X0_40) <|
  nv_oc (n_iload_n (k := 1) (by decide +kernel)) <|
  nv_oc (n_iastore (by decide +kernel)) <|
  nv_oc (n_aload_n (k := 0) (by decide +kernel)) <|
  nv_oc (n_getfield (idx := 28) (ci := 0) (k := 8) (N := 11) (D := RX0) (T := TX0) (by decide +kernel) rfl i_X0 (by decide) (by decide) f_X0_28) <|
  nv_oc (n_aload_n (k := 0) (by decide +kernel)) <|
  nv_oc (n_getfield (idx := 40) (ci := 0) (k := 1) (N := 11) (D := RX0) (T := TX0) (by decide +kernel) rfl i_X0 (by decide) (by decide) f_X0_40) <|
  nv_oc (n_iload_n (k := 2) (by decide +kernel)) <|
  nv_oc (n_iastore (by decide +kernel)) <|
  nv_oc (n_aload_n (k := 0) (by decide +kernel)) <|
  nv_oc (n_getfield (idx := 31) (ci := 0) (k := 9) (N := 11) (D := RX0) (T := TX0) (by decide +kernel) rfl i_X0 (by decide) (by decide) f_X0_31) <|
  nv_oc (n_aload_n (k := 0) (by decide +kernel)) <|
  nv_oc (n_getfield (idx := 40) (ci := 0) (k := 1) (N := 11) (D := RX0) (T := TX0) (by decide +kernel) rfl i_X0 (by decide) (by decide) f_X0_40) <|
  nv_oc (n_iload_n (k := 3) (by decide +kernel)) <|
  nv_oc (n_iastore (by decide +kernel)) <|
  nv_oc (n_aload_n (k := 0) (by decide +kernel)) <|
  nv_oc (n_dup (by decide +kernel)) <|
  nv_oc (n_getfield (idx := 40) (ci := 0) (k := 1) (N := 11) (D := RX0) (T := TX0) (by decide +kernel) rfl i_X0 (by decide) (by decide) f_X0_40) <|
  nv_oc (n_iconst (z := 1) (by decide +kernel)) <|
  nv_oc (n_iadd (by decide +kernel)) <|
  nv_oc (n_putfield (idx := 40) (ci := 0) (k := 1) (N := 11) (D := RX0) (T := TX0) tyX0 tyX0_ok nmX0 (by decide +kernel) rfl i_X0 (by decide) (by decide) rfl f_X0_40 rfl) <|
  nv_oc (n_aload_n (k := 0) (by decide +kernel)) <|
  nv_oc (n_getfield (idx := 40) (ci := 0) (k := 1) (N := 11) (D := RX0) (T := TX0) (by decide +kernel) rfl i_X0 (by decide) (by decide) f_X0_40) <|
  nv_oc (n_iconst (z := 1) (by decide +kernel)) <|
  nv_oc (n_isub (by decide +kernel)) <|
  nv_oc (n_iret (by decide +kernel) rfl) <|
  nv_on
def M_X0_addTeeth : nv_MD := (RX0, yX0_addTeeth, cX0_addTeeth, 3, none, 1, 21)
theorem fn_X0_addTeeth : nv_fn M_X0_addTeeth 2 := ⟨List.mem_of_getElem? (i := 522) (by decide +kernel), List.mem_of_getElem? (i := 45) (by decide +kernel), by decide +kernel⟩
theorem fv_X0_addTeeth : nv_fnV M_X0_addTeeth := ⟨List.mem_of_getElem? (i := 520) (by decide +kernel), List.mem_of_getElem? (i := 521) (by decide +kernel)⟩
def P_X0_addTeeth : nv_Pg := [(0, s_al 0 1), (1, s_gf 0 8 4), (4, s_il 1 5), (5, s_ki (9) 7), (7, s_al 0 8), (8, s_gf 0 8 11), (11, s_il 1 12), (12, s_ia 13), (13, s_il 2 14), (14, s_add 15), (15, s_min 18), (18, s_iw 19), (19, s_vr)]
set_option maxRecDepth 100000 in
set_option maxHeartbeats 4000000 in
theorem ok_X0_addTeeth : nv_ok_P M_X0_addTeeth P_X0_addTeeth :=
  nv_oc (n_aload_n (k := 0) (by decide +kernel)) <|
  nv_oc (n_getfield (idx := 28) (ci := 0) (k := 8) (N := 11) (D := RX0) (T := TX0) (by decide +kernel) rfl i_X0 (by decide) (by decide) f_X0_28) <|
  nv_oc (n_iload_n (k := 1) (by decide +kernel)) <|
  nv_oc (n_bipush (z := 9) (by decide +kernel) (by decide)) <|
  nv_oc (n_aload_n (k := 0) (by decide +kernel)) <|
  nv_oc (n_getfield (idx := 28) (ci := 0) (k := 8) (N := 11) (D := RX0) (T := TX0) (by decide +kernel) rfl i_X0 (by decide) (by decide) f_X0_28) <|
  nv_oc (n_iload_n (k := 1) (by decide +kernel)) <|
  nv_oc (n_iaload (by decide +kernel)) <|
  nv_oc (n_iload_n (k := 2) (by decide +kernel)) <|
  nv_oc (n_iadd (by decide +kernel)) <|
  nv_oc (n_min (idx := 56) (by decide +kernel) l_X0_56 (by decide) (by decide)) <|
  nv_oc (n_iastore (by decide +kernel)) <|
  nv_oc (n_vret (by decide +kernel) rfl) <|
  nv_on
def M_X0_suppose : nv_MD := (RX0, yX0_suppose, cX0_suppose, 4, none, 0, 0)
theorem fn_X0_suppose : nv_fn M_X0_suppose 3 := ⟨List.mem_of_getElem? (i := 712) (by decide +kernel), List.mem_of_getElem? (i := 45) (by decide +kernel), by decide +kernel⟩
theorem fv_X0_suppose : nv_fnV M_X0_suppose := ⟨List.mem_of_getElem? (i := 710) (by decide +kernel), List.mem_of_getElem? (i := 711) (by decide +kernel)⟩
def P_X0_suppose : nv_Pg := [(0, s_il 2 1), (1, s_if c_eq 4 14), (4, s_al 0 5), (5, s_gf 0 7 8), (8, s_il 1 9), (9, s_il 3 10), (10, s_iw 11), (11, s_go 36), (14, s_il 2 15), (15, s_ki (1) 16), (16, s_ic c_eq 19 29), (19, s_al 0 20), (20, s_gf 0 8 23), (23, s_il 1 24), (24, s_il 3 25), (25, s_iw 26), (26, s_go 36), (29, s_al 0 30), (30, s_gf 0 9 33), (33, s_il 1 34), (34, s_il 3 35), (35, s_iw 36), (36, s_vr)]
set_option maxRecDepth 100000 in
set_option maxHeartbeats 4000000 in
theorem ok_X0_suppose : nv_ok_P M_X0_suppose P_X0_suppose :=
  nv_oc (n_iload_n (k := 2) (by decide +kernel)) <|
  nv_oc (n_if_ne (off := 13) (tgt := 14) (by decide +kernel) (by decide)) <|
  nv_oc (n_aload_n (k := 0) (by decide +kernel)) <|
  nv_oc (n_getfield (idx := 25) (ci := 0) (k := 7) (N := 11) (D := RX0) (T := TX0) (by decide +kernel) rfl i_X0 (by decide) (by decide) f_X0_25) <|
  nv_oc (n_iload_n (k := 1) (by decide +kernel)) <|
  nv_oc (n_iload_n (k := 3) (by decide +kernel)) <|
  nv_oc (n_iastore (by decide +kernel)) <|
  nv_oc (n_goto (off := 25) (tgt := 36) (by decide +kernel) (by decide)) <|
  nv_oc (n_iload_n (k := 2) (by decide +kernel)) <|
  nv_oc (n_iconst (z := 1) (by decide +kernel)) <|
  nv_oc (n_icmp_ne (off := 13) (tgt := 29) (by decide +kernel) (by decide)) <|
  nv_oc (n_aload_n (k := 0) (by decide +kernel)) <|
  nv_oc (n_getfield (idx := 28) (ci := 0) (k := 8) (N := 11) (D := RX0) (T := TX0) (by decide +kernel) rfl i_X0 (by decide) (by decide) f_X0_28) <|
  nv_oc (n_iload_n (k := 1) (by decide +kernel)) <|
  nv_oc (n_iload_n (k := 3) (by decide +kernel)) <|
  nv_oc (n_iastore (by decide +kernel)) <|
  nv_oc (n_goto (off := 10) (tgt := 36) (by decide +kernel) (by decide)) <|
  nv_oc (n_aload_n (k := 0) (by decide +kernel)) <|
  nv_oc (n_getfield (idx := 31) (ci := 0) (k := 9) (N := 11) (D := RX0) (T := TX0) (by decide +kernel) rfl i_X0 (by decide) (by decide) f_X0_31) <|
  nv_oc (n_iload_n (k := 1) (by decide +kernel)) <|
  nv_oc (n_iload_n (k := 3) (by decide +kernel)) <|
  nv_oc (n_iastore (by decide +kernel)) <|
  nv_oc (n_vret (by decide +kernel) rfl) <|
  nv_on
def M_X0_fallenSet : nv_MD := (RX0, yX0_fallenSet, cX0_fallenSet, 3, (some .int), 0, 0)
theorem fn_X0_fallenSet : nv_fn M_X0_fallenSet 0 := ⟨List.mem_of_getElem? (i := 475) (by decide +kernel), List.mem_of_getElem? (i := 45) (by decide +kernel), by decide +kernel⟩
theorem fv_X0_fallenSet : nv_fnV M_X0_fallenSet := ⟨List.mem_of_getElem? (i := 473) (by decide +kernel), List.mem_of_getElem? (i := 474) (by decide +kernel)⟩
def P_X0_fallenSet : nv_Pg := [(0, s_ki (0) 1), (1, s_is 1 2), (2, s_ki (0) 3), (3, s_is 2 4), (4, s_il 2 5), (5, s_al 0 6), (6, s_gf 0 0 9), (9, s_ic c_ge 33 12), (12, s_al 0 13), (13, s_gf 0 6 16), (16, s_il 2 17), (17, s_ia 18), (18, s_if c_eq 21 27), (21, s_il 1 22), (22, s_ki (1) 23), (23, s_il 2 24), (24, s_sl 25), (25, s_b nv_or 26), (26, s_is 1 27), (27, s_inc 2 (1) 30), (30, s_go 4), (33, s_il 1 34), (34, s_ir)]
set_option maxRecDepth 100000 in
set_option maxHeartbeats 4000000 in
theorem ok_X0_fallenSet : nv_ok_P M_X0_fallenSet P_X0_fallenSet :=
  nv_oc (n_iconst (z := 0) (by decide +kernel)) <|
  nv_oc (n_istore_n (k := 1) (by decide +kernel) (by decide)) <|
  nv_oc (n_iconst (z := 0) (by decide +kernel)) <|
  nv_oc (n_istore_n (k := 2) (by decide +kernel) (by decide)) <|
  nv_oc (n_iload_n (k := 2) (by decide +kernel)) <|
  nv_oc (n_aload_n (k := 0) (by decide +kernel)) <|
  nv_oc (n_getfield (idx := 37) (ci := 0) (k := 0) (N := 11) (D := RX0) (T := TX0) (by decide +kernel) rfl i_X0 (by decide) (by decide) f_X0_37) <|
  nv_oc (n_icmp_ge (off := 24) (tgt := 33) (by decide +kernel) (by decide)) <|
  nv_oc (n_aload_n (k := 0) (by decide +kernel)) <|
  nv_oc (n_getfield (idx := 22) (ci := 0) (k := 6) (N := 11) (D := RX0) (T := TX0) (by decide +kernel) rfl i_X0 (by decide) (by decide) f_X0_22) <|
  nv_oc (n_iload_n (k := 2) (by decide +kernel)) <|
  nv_oc (n_iaload (by decide +kernel)) <|
  nv_oc (n_if_ne (off := 9) (tgt := 27) (by decide +kernel) (by decide)) <|
  nv_oc (n_iload_n (k := 1) (by decide +kernel)) <|
  nv_oc (n_iconst (z := 1) (by decide +kernel)) <|
  nv_oc (n_iload_n (k := 2) (by decide +kernel)) <|
  nv_oc (n_ishl (by decide +kernel)) <|
  nv_oc (n_ior (by decide +kernel)) <|
  nv_oc (n_istore_n (k := 1) (by decide +kernel) (by decide)) <|
  nv_oc (n_iinc (k := 2) (d := 1) (by decide +kernel) (by decide)) <|
  nv_oc (n_goto (off := -26) (tgt := 4) (by decide +kernel) (by decide)) <|
  nv_oc (n_iload_n (k := 1) (by decide +kernel)) <|
  nv_oc (n_iret (by decide +kernel) rfl) <|
  nv_on
def M_X0_leftOfAll : nv_MD := (RX0, yX0_leftOfAll, cX0_leftOfAll, 3, (some .int), 0, 0)
theorem fn_X0_leftOfAll : nv_fn M_X0_leftOfAll 0 := ⟨List.mem_of_getElem? (i := 479) (by decide +kernel), List.mem_of_getElem? (i := 45) (by decide +kernel), by decide +kernel⟩
theorem fv_X0_leftOfAll : nv_fnV M_X0_leftOfAll := ⟨List.mem_of_getElem? (i := 477) (by decide +kernel), List.mem_of_getElem? (i := 478) (by decide +kernel)⟩
def P_X0_leftOfAll : nv_Pg := [(0, s_ki (0) 1), (1, s_is 1 2), (2, s_ki (0) 3), (3, s_is 2 4), (4, s_il 2 5), (5, s_al 0 6), (6, s_gf 0 0 9), (9, s_ic c_ge 27 12), (12, s_il 1 13), (13, s_al 0 14), (14, s_gf 0 6 17), (17, s_il 2 18), (18, s_ia 19), (19, s_add 20), (20, s_is 1 21), (21, s_inc 2 (1) 24), (24, s_go 4), (27, s_il 1 28), (28, s_ir)]
set_option maxRecDepth 100000 in
set_option maxHeartbeats 4000000 in
theorem ok_X0_leftOfAll : nv_ok_P M_X0_leftOfAll P_X0_leftOfAll :=
  nv_oc (n_iconst (z := 0) (by decide +kernel)) <|
  nv_oc (n_istore_n (k := 1) (by decide +kernel) (by decide)) <|
  nv_oc (n_iconst (z := 0) (by decide +kernel)) <|
  nv_oc (n_istore_n (k := 2) (by decide +kernel) (by decide)) <|
  nv_oc (n_iload_n (k := 2) (by decide +kernel)) <|
  nv_oc (n_aload_n (k := 0) (by decide +kernel)) <|
  nv_oc (n_getfield (idx := 37) (ci := 0) (k := 0) (N := 11) (D := RX0) (T := TX0) (by decide +kernel) rfl i_X0 (by decide) (by decide) f_X0_37) <|
  nv_oc (n_icmp_ge (off := 18) (tgt := 27) (by decide +kernel) (by decide)) <|
  nv_oc (n_iload_n (k := 1) (by decide +kernel)) <|
  nv_oc (n_aload_n (k := 0) (by decide +kernel)) <|
  nv_oc (n_getfield (idx := 22) (ci := 0) (k := 6) (N := 11) (D := RX0) (T := TX0) (by decide +kernel) rfl i_X0 (by decide) (by decide) f_X0_22) <|
  nv_oc (n_iload_n (k := 2) (by decide +kernel)) <|
  nv_oc (n_iaload (by decide +kernel)) <|
  nv_oc (n_iadd (by decide +kernel)) <|
  nv_oc (n_istore_n (k := 1) (by decide +kernel) (by decide)) <|
  nv_oc (n_iinc (k := 2) (d := 1) (by decide +kernel) (by decide)) <|
  nv_oc (n_goto (off := -20) (tgt := 4) (by decide +kernel) (by decide)) <|
  nv_oc (n_iload_n (k := 1) (by decide +kernel)) <|
  nv_oc (n_iret (by decide +kernel) rfl) <|
  nv_on
def M_X0_teethOfAll : nv_MD := (RX0, yX0_teethOfAll, cX0_teethOfAll, 3, (some .int), 0, 0)
theorem fn_X0_teethOfAll : nv_fn M_X0_teethOfAll 0 := ⟨List.mem_of_getElem? (i := 483) (by decide +kernel), List.mem_of_getElem? (i := 45) (by decide +kernel), by decide +kernel⟩
theorem fv_X0_teethOfAll : nv_fnV M_X0_teethOfAll := ⟨List.mem_of_getElem? (i := 481) (by decide +kernel), List.mem_of_getElem? (i := 482) (by decide +kernel)⟩
def P_X0_teethOfAll : nv_Pg := [(0, s_ki (0) 1), (1, s_is 1 2), (2, s_ki (0) 3), (3, s_is 2 4), (4, s_il 2 5), (5, s_al 0 6), (6, s_gf 0 1 9), (9, s_ic c_ge 27 12), (12, s_il 1 13), (13, s_al 0 14), (14, s_gf 0 8 17), (17, s_il 2 18), (18, s_ia 19), (19, s_add 20), (20, s_is 1 21), (21, s_inc 2 (1) 24), (24, s_go 4), (27, s_il 1 28), (28, s_ir)]
set_option maxRecDepth 100000 in
set_option maxHeartbeats 4000000 in
theorem ok_X0_teethOfAll : nv_ok_P M_X0_teethOfAll P_X0_teethOfAll :=
  nv_oc (n_iconst (z := 0) (by decide +kernel)) <|
  nv_oc (n_istore_n (k := 1) (by decide +kernel) (by decide)) <|
  nv_oc (n_iconst (z := 0) (by decide +kernel)) <|
  nv_oc (n_istore_n (k := 2) (by decide +kernel) (by decide)) <|
  nv_oc (n_iload_n (k := 2) (by decide +kernel)) <|
  nv_oc (n_aload_n (k := 0) (by decide +kernel)) <|
  nv_oc (n_getfield (idx := 40) (ci := 0) (k := 1) (N := 11) (D := RX0) (T := TX0) (by decide +kernel) rfl i_X0 (by decide) (by decide) f_X0_40) <|
  nv_oc (n_icmp_ge (off := 18) (tgt := 27) (by decide +kernel) (by decide)) <|
  nv_oc (n_iload_n (k := 1) (by decide +kernel)) <|
  nv_oc (n_aload_n (k := 0) (by decide +kernel)) <|
  nv_oc (n_getfield (idx := 28) (ci := 0) (k := 8) (N := 11) (D := RX0) (T := TX0) (by decide +kernel) rfl i_X0 (by decide) (by decide) f_X0_28) <|
  nv_oc (n_iload_n (k := 2) (by decide +kernel)) <|
  nv_oc (n_iaload (by decide +kernel)) <|
  nv_oc (n_iadd (by decide +kernel)) <|
  nv_oc (n_istore_n (k := 1) (by decide +kernel) (by decide)) <|
  nv_oc (n_iinc (k := 2) (d := 1) (by decide +kernel) (by decide)) <|
  nv_oc (n_goto (off := -20) (tgt := 4) (by decide +kernel) (by decide)) <|
  nv_oc (n_iload_n (k := 1) (by decide +kernel)) <|
  nv_oc (n_iret (by decide +kernel) rfl) <|
  nv_on
def M_X0_sittersOn : nv_MD := (RX0, yX0_sittersOn, cX0_sittersOn, 4, (some .int), 0, 0)
theorem fn_X0_sittersOn : nv_fn M_X0_sittersOn 1 := ⟨List.mem_of_getElem? (i := 278) (by decide +kernel), List.mem_of_getElem? (i := 45) (by decide +kernel), by decide +kernel⟩
theorem fv_X0_sittersOn : nv_fnV M_X0_sittersOn := ⟨List.mem_of_getElem? (i := 276) (by decide +kernel), List.mem_of_getElem? (i := 277) (by decide +kernel)⟩
def P_X0_sittersOn : nv_Pg := [(0, s_ki (0) 1), (1, s_is 2 2), (2, s_ki (0) 3), (3, s_is 3 4), (4, s_il 3 5), (5, s_al 0 6), (6, s_gf 0 1 9), (9, s_ic c_ge 34 12), (12, s_al 0 13), (13, s_gf 0 9 16), (16, s_il 3 17), (17, s_ia 18), (18, s_il 1 19), (19, s_ic c_eq 22 28), (22, s_il 2 23), (23, s_ki (1) 24), (24, s_il 3 25), (25, s_sl 26), (26, s_b nv_or 27), (27, s_is 2 28), (28, s_inc 3 (1) 31), (31, s_go 4), (34, s_il 2 35), (35, s_ir)]
set_option maxRecDepth 100000 in
set_option maxHeartbeats 4000000 in
theorem ok_X0_sittersOn : nv_ok_P M_X0_sittersOn P_X0_sittersOn :=
  nv_oc (n_iconst (z := 0) (by decide +kernel)) <|
  nv_oc (n_istore_n (k := 2) (by decide +kernel) (by decide)) <|
  nv_oc (n_iconst (z := 0) (by decide +kernel)) <|
  nv_oc (n_istore_n (k := 3) (by decide +kernel) (by decide)) <|
  nv_oc (n_iload_n (k := 3) (by decide +kernel)) <|
  nv_oc (n_aload_n (k := 0) (by decide +kernel)) <|
  nv_oc (n_getfield (idx := 40) (ci := 0) (k := 1) (N := 11) (D := RX0) (T := TX0) (by decide +kernel) rfl i_X0 (by decide) (by decide) f_X0_40) <|
  nv_oc (n_icmp_ge (off := 25) (tgt := 34) (by decide +kernel) (by decide)) <|
  nv_oc (n_aload_n (k := 0) (by decide +kernel)) <|
  nv_oc (n_getfield (idx := 31) (ci := 0) (k := 9) (N := 11) (D := RX0) (T := TX0) (by decide +kernel) rfl i_X0 (by decide) (by decide) f_X0_31) <|
  nv_oc (n_iload_n (k := 3) (by decide +kernel)) <|
  nv_oc (n_iaload (by decide +kernel)) <|
  nv_oc (n_iload_n (k := 1) (by decide +kernel)) <|
  nv_oc (n_icmp_ne (off := 9) (tgt := 28) (by decide +kernel) (by decide)) <|
  nv_oc (n_iload_n (k := 2) (by decide +kernel)) <|
  nv_oc (n_iconst (z := 1) (by decide +kernel)) <|
  nv_oc (n_iload_n (k := 3) (by decide +kernel)) <|
  nv_oc (n_ishl (by decide +kernel)) <|
  nv_oc (n_ior (by decide +kernel)) <|
  nv_oc (n_istore_n (k := 2) (by decide +kernel) (by decide)) <|
  nv_oc (n_iinc (k := 3) (d := 1) (by decide +kernel) (by decide)) <|
  nv_oc (n_goto (off := -27) (tgt := 4) (by decide +kernel) (by decide)) <|
  nv_oc (n_iload_n (k := 2) (by decide +kernel)) <|
  nv_oc (n_iret (by decide +kernel) rfl) <|
  nv_on
def M_X0_hoppersRest : nv_MD := (RX0, yX0_hoppersRest, cX0_hoppersRest, 1, (some .boolean), 0, 0)
theorem fn_X0_hoppersRest : nv_fn M_X0_hoppersRest 0 := ⟨List.mem_of_getElem? (i := 290) (by decide +kernel), List.mem_of_getElem? (i := 45) (by decide +kernel), by decide +kernel⟩
theorem fv_X0_hoppersRest : nv_fnV M_X0_hoppersRest := ⟨List.mem_of_getElem? (i := 289) (by decide +kernel), List.mem_of_getElem? (i := 1) (by decide +kernel)⟩
def P_X0_hoppersRest : nv_Pg := [(0, s_al 0 1), (1, s_gf 0 2 4), (4, s_ki (4) 5), (5, s_rem 6), (6, s_if c_eq 9 13), (9, s_ki (1) 10), (10, s_go 14), (13, s_ki (0) 14), (14, s_zr)]
set_option maxRecDepth 100000 in
set_option maxHeartbeats 4000000 in
theorem ok_X0_hoppersRest : nv_ok_P M_X0_hoppersRest P_X0_hoppersRest :=
  nv_oc (n_aload_n (k := 0) (by decide +kernel)) <|
  nv_oc (n_getfield (idx := 43) (ci := 0) (k := 2) (N := 11) (D := RX0) (T := TX0) (by decide +kernel) rfl i_X0 (by decide) (by decide) f_X0_43) <|
  nv_oc (n_iconst (z := 4) (by decide +kernel)) <|
  nv_oc (n_irem (by decide +kernel)) <|
  nv_oc (n_if_ne (off := 7) (tgt := 13) (by decide +kernel) (by decide)) <|
  nv_oc (n_iconst (z := 1) (by decide +kernel)) <|
  nv_oc (n_goto (off := 4) (tgt := 14) (by decide +kernel) (by decide)) <|
  nv_oc (n_iconst (z := 0) (by decide +kernel)) <|
  nv_oc (n_zret (by decide +kernel) rfl) <|
  nv_on
def M_X0_cutBy : nv_MD := (RX0, yX0_cutBy, cX0_cutBy, 8, (some .int), 0, 0)
theorem fn_X0_cutBy : nv_fn M_X0_cutBy 5 := ⟨List.mem_of_getElem? (i := 293) (by decide +kernel), List.mem_of_getElem? (i := 45) (by decide +kernel), by decide +kernel⟩
theorem st_X0_cutBy : Cond.static (nv_y M_X0_cutBy) ∈ lw_tbl := List.mem_of_getElem? (i := 292) (by decide +kernel)
def P_X0_cutBy : nv_Pg := [(0, s_il 1 1), (1, s_il 2 2), (2, s_ki (2) 3), (3, s_div 4), (4, s_ic c_le 15 7), (7, s_il 1 8), (8, s_il 2 9), (9, s_ki (2) 10), (10, s_div 11), (11, s_sub 12), (12, s_go 16), (15, s_ki (0) 16), (16, s_is 5 18), (18, s_il 5 20), (20, s_il 2 21), (21, s_ki (3) 22), (22, s_ic c_ge 29 25), (25, s_il 2 26), (26, s_go 30), (29, s_ki (3) 30), (30, s_add 31), (31, s_is 6 33), (33, s_il 3 34), (34, s_if c_eq 44 37), (37, s_ki (2) 38), (38, s_il 5 40), (40, s_mul 41), (41, s_go 46), (44, s_il 5 46), (46, s_is 7 48), (48, s_il 0 49), (49, s_sw 1 113 [80, 83, 86, 98]), (80, s_il 6 82), (82, s_ir), (83, s_il 7 85), (85, s_ir), (86, s_il 4 88), (88, s_if c_eq 95 91), (91, s_ki (0) 92), (92, s_go 97), (95, s_il 6 97), (97, s_ir), (98, s_il 7 100), (100, s_ki (1) 101), (101, s_ic c_eq 104 108), (104, s_ki (1) 105), (105, s_go 112), (108, s_il 7 110), (110, s_ki (2) 111), (111, s_div 112), (112, s_ir), (113, s_il 5 115), (115, s_ir)]
set_option maxRecDepth 100000 in
set_option maxHeartbeats 4000000 in
theorem ok_X0_cutBy : nv_ok_P M_X0_cutBy P_X0_cutBy :=
  nv_oc (n_iload_n (k := 1) (by decide +kernel)) <|
  nv_oc (n_iload_n (k := 2) (by decide +kernel)) <|
  nv_oc (n_iconst (z := 2) (by decide +kernel)) <|
  nv_oc (n_idiv (by decide +kernel)) <|
  nv_oc (n_icmp_le (off := 11) (tgt := 15) (by decide +kernel) (by decide)) <|
  nv_oc (n_iload_n (k := 1) (by decide +kernel)) <|
  nv_oc (n_iload_n (k := 2) (by decide +kernel)) <|
  nv_oc (n_iconst (z := 2) (by decide +kernel)) <|
  nv_oc (n_idiv (by decide +kernel)) <|
  nv_oc (n_isub (by decide +kernel)) <|
  nv_oc (n_goto (off := 4) (tgt := 16) (by decide +kernel) (by decide)) <|
  nv_oc (n_iconst (z := 0) (by decide +kernel)) <|
  nv_oc (n_istore (k := 5) (by decide +kernel) (by decide)) <|
  nv_oc (n_iload (k := 5) (by decide +kernel)) <|
  nv_oc (n_iload_n (k := 2) (by decide +kernel)) <|
  nv_oc (n_iconst (z := 3) (by decide +kernel)) <|
  nv_oc (n_icmp_ge (off := 7) (tgt := 29) (by decide +kernel) (by decide)) <|
  nv_oc (n_iload_n (k := 2) (by decide +kernel)) <|
  nv_oc (n_goto (off := 4) (tgt := 30) (by decide +kernel) (by decide)) <|
  nv_oc (n_iconst (z := 3) (by decide +kernel)) <|
  nv_oc (n_iadd (by decide +kernel)) <|
  nv_oc (n_istore (k := 6) (by decide +kernel) (by decide)) <|
  nv_oc (n_iload_n (k := 3) (by decide +kernel)) <|
  nv_oc (n_if_eq (off := 10) (tgt := 44) (by decide +kernel) (by decide)) <|
  nv_oc (n_iconst (z := 2) (by decide +kernel)) <|
  nv_oc (n_iload (k := 5) (by decide +kernel)) <|
  nv_oc (n_imul (by decide +kernel)) <|
  nv_oc (n_goto (off := 5) (tgt := 46) (by decide +kernel) (by decide)) <|
  nv_oc (n_iload (k := 5) (by decide +kernel)) <|
  nv_oc (n_istore (k := 7) (by decide +kernel) (by decide)) <|
  nv_oc (n_iload_n (k := 0) (by decide +kernel)) <|
  nv_oc (n_tableswitch (dflt := 64) (lo := 1) (hi := 4) (offs := #[31, 34, 37, 49]) (len := 31) (df := 113) (ts := [80, 83, 86, 98]) (by decide +kernel) (by decide) (by decide) (by decide)) <|
  nv_oc (n_iload (k := 6) (by decide +kernel)) <|
  nv_oc (n_iret (by decide +kernel) rfl) <|
  nv_oc (n_iload (k := 7) (by decide +kernel)) <|
  nv_oc (n_iret (by decide +kernel) rfl) <|
  nv_oc (n_iload (k := 4) (by decide +kernel)) <|
  nv_oc (n_if_eq (off := 7) (tgt := 95) (by decide +kernel) (by decide)) <|
  nv_oc (n_iconst (z := 0) (by decide +kernel)) <|
  nv_oc (n_goto (off := 5) (tgt := 97) (by decide +kernel) (by decide)) <|
  nv_oc (n_iload (k := 6) (by decide +kernel)) <|
  nv_oc (n_iret (by decide +kernel) rfl) <|
  nv_oc (n_iload (k := 7) (by decide +kernel)) <|
  nv_oc (n_iconst (z := 1) (by decide +kernel)) <|
  nv_oc (n_icmp_ne (off := 7) (tgt := 108) (by decide +kernel) (by decide)) <|
  nv_oc (n_iconst (z := 1) (by decide +kernel)) <|
  nv_oc (n_goto (off := 7) (tgt := 112) (by decide +kernel) (by decide)) <|
  nv_oc (n_iload (k := 7) (by decide +kernel)) <|
  nv_oc (n_iconst (z := 2) (by decide +kernel)) <|
  nv_oc (n_idiv (by decide +kernel)) <|
  nv_oc (n_iret (by decide +kernel) rfl) <|
  nv_oc (n_iload (k := 5) (by decide +kernel)) <|
  nv_oc (n_iret (by decide +kernel) rfl) <|
  nv_on
def M_X0_cutOf : nv_MD := (RX0, yX0_cutOf, cX0_cutOf, 4, (some .int), 1, 27)
theorem fn_X0_cutOf : nv_fn M_X0_cutOf 1 := ⟨List.mem_of_getElem? (i := 286) (by decide +kernel), List.mem_of_getElem? (i := 45) (by decide +kernel), by decide +kernel⟩
theorem fv_X0_cutOf : nv_fnV M_X0_cutOf := ⟨List.mem_of_getElem? (i := 284) (by decide +kernel), List.mem_of_getElem? (i := 285) (by decide +kernel)⟩
def P_X0_cutOf : nv_Pg := [(0, s_al 0 1), (1, s_gf 0 9 4), (4, s_il 1 5), (5, s_ia 6), (6, s_is 2 7), (7, s_il 2 8), (8, s_if c_lt 20 11), (11, s_al 0 12), (12, s_gf 0 6 15), (15, s_il 2 16), (16, s_ia 17), (17, s_if c_eq 20 22), (20, s_ki (0) 21), (21, s_ir), (22, s_al 0 23), (23, s_gf 0 6 26), (26, s_il 2 27), (27, s_ia 28), (28, s_al 0 29), (29, s_gf 0 4 32), (32, s_il 2 33), (33, s_ia 34), (34, s_ic c_eq 48 37), (37, s_al 0 38), (38, s_gf 0 6 41), (41, s_il 2 42), (42, s_ia 43), (43, s_ki (10) 45), (45, s_ic c_ge 52 48), (48, s_ki (1) 49), (49, s_go 53), (52, s_ki (0) 53), (53, s_is 3 54), (54, s_al 0 55), (55, s_gf 0 7 58), (58, s_il 1 59), (59, s_ia 60), (60, s_al 0 61), (61, s_gf 0 8 64), (64, s_il 1 65), (65, s_ia 66), (66, s_al 0 67), (67, s_gf 0 5 70), (70, s_il 2 71), (71, s_ia 72), (72, s_il 3 73), (73, s_al 0 74), (74, s_cv 0 M_X0_hoppersRest 0 77), (77, s_cs M_X0_cutBy 5 80), (80, s_ir)]
set_option maxRecDepth 100000 in
set_option maxHeartbeats 4000000 in
theorem ok_X0_cutOf : nv_ok_P M_X0_cutOf P_X0_cutOf :=
  nv_oc (n_aload_n (k := 0) (by decide +kernel)) <|
  nv_oc (n_getfield (idx := 31) (ci := 0) (k := 9) (N := 11) (D := RX0) (T := TX0) (by decide +kernel) rfl i_X0 (by decide) (by decide) f_X0_31) <|
  nv_oc (n_iload_n (k := 1) (by decide +kernel)) <|
  nv_oc (n_iaload (by decide +kernel)) <|
  nv_oc (n_istore_n (k := 2) (by decide +kernel) (by decide)) <|
  nv_oc (n_iload_n (k := 2) (by decide +kernel)) <|
  nv_oc (n_if_lt (off := 12) (tgt := 20) (by decide +kernel) (by decide)) <|
  nv_oc (n_aload_n (k := 0) (by decide +kernel)) <|
  nv_oc (n_getfield (idx := 22) (ci := 0) (k := 6) (N := 11) (D := RX0) (T := TX0) (by decide +kernel) rfl i_X0 (by decide) (by decide) f_X0_22) <|
  nv_oc (n_iload_n (k := 2) (by decide +kernel)) <|
  nv_oc (n_iaload (by decide +kernel)) <|
  nv_oc (n_if_ne (off := 5) (tgt := 22) (by decide +kernel) (by decide)) <|
  nv_oc (n_iconst (z := 0) (by decide +kernel)) <|
  nv_oc (n_iret (by decide +kernel) rfl) <|
  nv_oc (n_aload_n (k := 0) (by decide +kernel)) <|
  nv_oc (n_getfield (idx := 22) (ci := 0) (k := 6) (N := 11) (D := RX0) (T := TX0) (by decide +kernel) rfl i_X0 (by decide) (by decide) f_X0_22) <|
  nv_oc (n_iload_n (k := 2) (by decide +kernel)) <|
  nv_oc (n_iaload (by decide +kernel)) <|
  nv_oc (n_aload_n (k := 0) (by decide +kernel)) <|
  nv_oc (n_getfield (idx := 15) (ci := 0) (k := 4) (N := 11) (D := RX0) (T := TX0) (by decide +kernel) rfl i_X0 (by decide) (by decide) f_X0_15) <|
  nv_oc (n_iload_n (k := 2) (by decide +kernel)) <|
  nv_oc (n_iaload (by decide +kernel)) <|
  nv_oc (n_icmp_eq (off := 14) (tgt := 48) (by decide +kernel) (by decide)) <|
  nv_oc (n_aload_n (k := 0) (by decide +kernel)) <|
  nv_oc (n_getfield (idx := 22) (ci := 0) (k := 6) (N := 11) (D := RX0) (T := TX0) (by decide +kernel) rfl i_X0 (by decide) (by decide) f_X0_22) <|
  nv_oc (n_iload_n (k := 2) (by decide +kernel)) <|
  nv_oc (n_iaload (by decide +kernel)) <|
  nv_oc (n_bipush (z := 10) (by decide +kernel) (by decide)) <|
  nv_oc (n_icmp_ge (off := 7) (tgt := 52) (by decide +kernel) (by decide)) <|
  nv_oc (n_iconst (z := 1) (by decide +kernel)) <|
  nv_oc (n_goto (off := 4) (tgt := 53) (by decide +kernel) (by decide)) <|
  nv_oc (n_iconst (z := 0) (by decide +kernel)) <|
  nv_oc (n_istore_n (k := 3) (by decide +kernel) (by decide)) <|
  nv_oc (n_aload_n (k := 0) (by decide +kernel)) <|
  nv_oc (n_getfield (idx := 25) (ci := 0) (k := 7) (N := 11) (D := RX0) (T := TX0) (by decide +kernel) rfl i_X0 (by decide) (by decide) f_X0_25) <|
  nv_oc (n_iload_n (k := 1) (by decide +kernel)) <|
  nv_oc (n_iaload (by decide +kernel)) <|
  nv_oc (n_aload_n (k := 0) (by decide +kernel)) <|
  nv_oc (n_getfield (idx := 28) (ci := 0) (k := 8) (N := 11) (D := RX0) (T := TX0) (by decide +kernel) rfl i_X0 (by decide) (by decide) f_X0_28) <|
  nv_oc (n_iload_n (k := 1) (by decide +kernel)) <|
  nv_oc (n_iaload (by decide +kernel)) <|
  nv_oc (n_aload_n (k := 0) (by decide +kernel)) <|
  nv_oc (n_getfield (idx := 19) (ci := 0) (k := 5) (N := 11) (D := RX0) (T := TX0) (by decide +kernel) rfl i_X0 (by decide) (by decide) f_X0_19) <|
  nv_oc (n_iload_n (k := 2) (by decide +kernel)) <|
  nv_oc (n_iaload (by decide +kernel)) <|
  nv_oc (n_iload_n (k := 3) (by decide +kernel)) <|
  nv_oc (n_aload_n (k := 0) (by decide +kernel)) <|
  nv_oc (n_virtual (M' := M_X0_hoppersRest) (idx := 66) (n := 0) (ci := 0) (N := 11) (D := RX0) (T := TX0) (by decide +kernel) fn_X0_hoppersRest fv_X0_hoppersRest rfl rfl l_X0_66 ⟨by decide, by decide⟩) <|
  nv_oc (n_static (M' := M_X0_cutBy) (idx := 70) (n := 5) (by decide +kernel) fn_X0_cutBy st_X0_cutBy l_X0_70 ⟨by decide, by decide⟩) <|
  nv_oc (n_iret (by decide +kernel) rfl) <|
  nv_on
def M_X0_cutByAll : nv_MD := (RX0, yX0_cutByAll, cX0_cutByAll, 4, (some .int), 2, 50)
theorem fn_X0_cutByAll : nv_fn M_X0_cutByAll 1 := ⟨List.mem_of_getElem? (i := 282) (by decide +kernel), List.mem_of_getElem? (i := 45) (by decide +kernel), by decide +kernel⟩
theorem fv_X0_cutByAll : nv_fnV M_X0_cutByAll := ⟨List.mem_of_getElem? (i := 280) (by decide +kernel), List.mem_of_getElem? (i := 281) (by decide +kernel)⟩
def P_X0_cutByAll : nv_Pg := [(0, s_ki (0) 1), (1, s_is 2 2), (2, s_ki (0) 3), (3, s_is 3 4), (4, s_il 3 5), (5, s_al 0 6), (6, s_gf 0 1 9), (9, s_ic c_ge 35 12), (12, s_il 1 13), (13, s_il 3 14), (14, s_sr 15), (15, s_ki (1) 16), (16, s_b nv_and 17), (17, s_ki (1) 18), (18, s_ic c_eq 21 29), (21, s_il 2 22), (22, s_al 0 23), (23, s_il 3 24), (24, s_cv 0 M_X0_cutOf 1 27), (27, s_add 28), (28, s_is 2 29), (29, s_inc 3 (1) 32), (32, s_go 4), (35, s_il 2 36), (36, s_ir)]
set_option maxRecDepth 100000 in
set_option maxHeartbeats 4000000 in
theorem ok_X0_cutByAll : nv_ok_P M_X0_cutByAll P_X0_cutByAll :=
  nv_oc (n_iconst (z := 0) (by decide +kernel)) <|
  nv_oc (n_istore_n (k := 2) (by decide +kernel) (by decide)) <|
  nv_oc (n_iconst (z := 0) (by decide +kernel)) <|
  nv_oc (n_istore_n (k := 3) (by decide +kernel) (by decide)) <|
  nv_oc (n_iload_n (k := 3) (by decide +kernel)) <|
  nv_oc (n_aload_n (k := 0) (by decide +kernel)) <|
  nv_oc (n_getfield (idx := 40) (ci := 0) (k := 1) (N := 11) (D := RX0) (T := TX0) (by decide +kernel) rfl i_X0 (by decide) (by decide) f_X0_40) <|
  nv_oc (n_icmp_ge (off := 26) (tgt := 35) (by decide +kernel) (by decide)) <|
  nv_oc (n_iload_n (k := 1) (by decide +kernel)) <|
  nv_oc (n_iload_n (k := 3) (by decide +kernel)) <|
  nv_oc (n_ishr (by decide +kernel)) <|
  nv_oc (n_iconst (z := 1) (by decide +kernel)) <|
  nv_oc (n_iand (by decide +kernel)) <|
  nv_oc (n_iconst (z := 1) (by decide +kernel)) <|
  nv_oc (n_icmp_ne (off := 11) (tgt := 29) (by decide +kernel) (by decide)) <|
  nv_oc (n_iload_n (k := 2) (by decide +kernel)) <|
  nv_oc (n_aload_n (k := 0) (by decide +kernel)) <|
  nv_oc (n_iload_n (k := 3) (by decide +kernel)) <|
  nv_oc (n_virtual (M' := M_X0_cutOf) (idx := 62) (n := 1) (ci := 0) (N := 11) (D := RX0) (T := TX0) (by decide +kernel) fn_X0_cutOf fv_X0_cutOf rfl rfl l_X0_62 ⟨by decide, by decide⟩) <|
  nv_oc (n_iadd (by decide +kernel)) <|
  nv_oc (n_istore_n (k := 2) (by decide +kernel) (by decide)) <|
  nv_oc (n_iinc (k := 3) (d := 1) (by decide +kernel) (by decide)) <|
  nv_oc (n_goto (off := -28) (tgt := 4) (by decide +kernel) (by decide)) <|
  nv_oc (n_iload_n (k := 2) (by decide +kernel)) <|
  nv_oc (n_iret (by decide +kernel) rfl) <|
  nv_on
def M_X0_mostCut : nv_MD := (RX0, yX0_mostCut, cX0_mostCut, 5, (some .int), 1, 27)
theorem fn_X0_mostCut : nv_fn M_X0_mostCut 0 := ⟨List.mem_of_getElem? (i := 588) (by decide +kernel), List.mem_of_getElem? (i := 45) (by decide +kernel), by decide +kernel⟩
theorem fv_X0_mostCut : nv_fnV M_X0_mostCut := ⟨List.mem_of_getElem? (i := 586) (by decide +kernel), List.mem_of_getElem? (i := 587) (by decide +kernel)⟩
def P_X0_mostCut : nv_Pg := [(0, s_ki (0) 1), (1, s_is 1 2), (2, s_ki (0) 3), (3, s_is 2 4), (4, s_il 2 5), (5, s_al 0 6), (6, s_gf 0 1 9), (9, s_ic c_ge 71 12), (12, s_ki (0) 13), (13, s_is 3 14), (14, s_ki (0) 15), (15, s_is 4 17), (17, s_il 4 19), (19, s_al 0 20), (20, s_gf 0 0 23), (23, s_ic c_ge 61 26), (26, s_il 3 27), (27, s_al 0 28), (28, s_gf 0 7 31), (31, s_il 2 32), (32, s_ia 33), (33, s_al 0 34), (34, s_gf 0 8 37), (37, s_il 2 38), (38, s_ia 39), (39, s_al 0 40), (40, s_gf 0 5 43), (43, s_il 4 45), (45, s_ia 46), (46, s_ki (1) 47), (47, s_ki (0) 48), (48, s_cs M_X0_cutBy 5 51), (51, s_max 54), (54, s_is 3 55), (55, s_inc 4 (1) 58), (58, s_go 17), (61, s_il 1 62), (62, s_il 3 63), (63, s_add 64), (64, s_is 1 65), (65, s_inc 2 (1) 68), (68, s_go 4), (71, s_il 1 72), (72, s_ir)]
set_option maxRecDepth 100000 in
set_option maxHeartbeats 4000000 in
theorem ok_X0_mostCut : nv_ok_P M_X0_mostCut P_X0_mostCut :=
  nv_oc (n_iconst (z := 0) (by decide +kernel)) <|
  nv_oc (n_istore_n (k := 1) (by decide +kernel) (by decide)) <|
  nv_oc (n_iconst (z := 0) (by decide +kernel)) <|
  nv_oc (n_istore_n (k := 2) (by decide +kernel) (by decide)) <|
  nv_oc (n_iload_n (k := 2) (by decide +kernel)) <|
  nv_oc (n_aload_n (k := 0) (by decide +kernel)) <|
  nv_oc (n_getfield (idx := 40) (ci := 0) (k := 1) (N := 11) (D := RX0) (T := TX0) (by decide +kernel) rfl i_X0 (by decide) (by decide) f_X0_40) <|
  nv_oc (n_icmp_ge (off := 62) (tgt := 71) (by decide +kernel) (by decide)) <|
  nv_oc (n_iconst (z := 0) (by decide +kernel)) <|
  nv_oc (n_istore_n (k := 3) (by decide +kernel) (by decide)) <|
  nv_oc (n_iconst (z := 0) (by decide +kernel)) <|
  nv_oc (n_istore (k := 4) (by decide +kernel) (by decide)) <|
  nv_oc (n_iload (k := 4) (by decide +kernel)) <|
  nv_oc (n_aload_n (k := 0) (by decide +kernel)) <|
  nv_oc (n_getfield (idx := 37) (ci := 0) (k := 0) (N := 11) (D := RX0) (T := TX0) (by decide +kernel) rfl i_X0 (by decide) (by decide) f_X0_37) <|
  nv_oc (n_icmp_ge (off := 38) (tgt := 61) (by decide +kernel) (by decide)) <|
  nv_oc (n_iload_n (k := 3) (by decide +kernel)) <|
  nv_oc (n_aload_n (k := 0) (by decide +kernel)) <|
  nv_oc (n_getfield (idx := 25) (ci := 0) (k := 7) (N := 11) (D := RX0) (T := TX0) (by decide +kernel) rfl i_X0 (by decide) (by decide) f_X0_25) <|
  nv_oc (n_iload_n (k := 2) (by decide +kernel)) <|
  nv_oc (n_iaload (by decide +kernel)) <|
  nv_oc (n_aload_n (k := 0) (by decide +kernel)) <|
  nv_oc (n_getfield (idx := 28) (ci := 0) (k := 8) (N := 11) (D := RX0) (T := TX0) (by decide +kernel) rfl i_X0 (by decide) (by decide) f_X0_28) <|
  nv_oc (n_iload_n (k := 2) (by decide +kernel)) <|
  nv_oc (n_iaload (by decide +kernel)) <|
  nv_oc (n_aload_n (k := 0) (by decide +kernel)) <|
  nv_oc (n_getfield (idx := 19) (ci := 0) (k := 5) (N := 11) (D := RX0) (T := TX0) (by decide +kernel) rfl i_X0 (by decide) (by decide) f_X0_19) <|
  nv_oc (n_iload (k := 4) (by decide +kernel)) <|
  nv_oc (n_iaload (by decide +kernel)) <|
  nv_oc (n_iconst (z := 1) (by decide +kernel)) <|
  nv_oc (n_iconst (z := 0) (by decide +kernel)) <|
  nv_oc (n_static (M' := M_X0_cutBy) (idx := 70) (n := 5) (by decide +kernel) fn_X0_cutBy st_X0_cutBy l_X0_70 ⟨by decide, by decide⟩) <|
  nv_oc (n_max (idx := 74) (by decide +kernel) l_X0_74 (by decide) (by decide)) <|
  nv_oc (n_istore_n (k := 3) (by decide +kernel) (by decide)) <|
  nv_oc (n_iinc (k := 4) (d := 1) (by decide +kernel) (by decide)) <|
  nv_oc (n_goto (off := -41) (tgt := 17) (by decide +kernel) (by decide)) <|
  nv_oc (n_iload_n (k := 1) (by decide +kernel)) <|
  nv_oc (n_iload_n (k := 3) (by decide +kernel)) <|
  nv_oc (n_iadd (by decide +kernel)) <|
  nv_oc (n_istore_n (k := 1) (by decide +kernel) (by decide)) <|
  nv_oc (n_iinc (k := 2) (d := 1) (by decide +kernel) (by decide)) <|
  nv_oc (n_goto (off := -64) (tgt := 4) (by decide +kernel) (by decide)) <|
  nv_oc (n_iload_n (k := 1) (by decide +kernel)) <|
  nv_oc (n_iret (by decide +kernel) rfl) <|
  nv_on
def M_X0_growBlunt : nv_MD := (RX0, yX0_growBlunt, cX0_growBlunt, 2, none, 0, 0)
theorem fn_X0_growBlunt : nv_fn M_X0_growBlunt 0 := ⟨List.mem_of_getElem? (i := 502) (by decide +kernel), List.mem_of_getElem? (i := 45) (by decide +kernel), by decide +kernel⟩
theorem fv_X0_growBlunt : nv_fnV M_X0_growBlunt := ⟨List.mem_of_getElem? (i := 501) (by decide +kernel), List.mem_of_getElem? (i := 12) (by decide +kernel)⟩
def P_X0_growBlunt : nv_Pg := [(0, s_ki (0) 1), (1, s_is 1 2), (2, s_il 1 3), (3, s_al 0 4), (4, s_gf 0 1 7), (7, s_ic c_ge 44 10), (10, s_al 0 11), (11, s_gf 0 10 14), (14, s_il 1 15), (15, s_ia 16), (16, s_if c_le 38 19), (19, s_al 0 20), (20, s_gf 0 8 23), (23, s_il 1 24), (24, s_ia 25), (25, s_if c_le 38 28), (28, s_al 0 29), (29, s_gf 0 8 32), (32, s_il 1 33), (33, s_dup2 34), (34, s_ia 35), (35, s_ki (1) 36), (36, s_sub 37), (37, s_iw 38), (38, s_inc 1 (1) 41), (41, s_go 2), (44, s_vr)]
set_option maxRecDepth 100000 in
set_option maxHeartbeats 4000000 in
theorem ok_X0_growBlunt : nv_ok_P M_X0_growBlunt P_X0_growBlunt :=
  nv_oc (n_iconst (z := 0) (by decide +kernel)) <|
  nv_oc (n_istore_n (k := 1) (by decide +kernel) (by decide)) <|
  nv_oc (n_iload_n (k := 1) (by decide +kernel)) <|
  nv_oc (n_aload_n (k := 0) (by decide +kernel)) <|
  nv_oc (n_getfield (idx := 40) (ci := 0) (k := 1) (N := 11) (D := RX0) (T := TX0) (by decide +kernel) rfl i_X0 (by decide) (by decide) f_X0_40) <|
  nv_oc (n_icmp_ge (off := 37) (tgt := 44) (by decide +kernel) (by decide)) <|
  nv_oc (n_aload_n (k := 0) (by decide +kernel)) <|
  nv_oc (n_getfield (idx := 34) (ci := 0) (k := 10) (N := 11) (D := RX0) (T := TX0) (by decide +kernel) rfl i_X0 (by decide) (by decide) f_X0_34) <|
  nv_oc (n_iload_n (k := 1) (by decide +kernel)) <|
  nv_oc (n_iaload (by decide +kernel)) <|
  nv_oc (n_if_le (off := 22) (tgt := 38) (by decide +kernel) (by decide)) <|
  nv_oc (n_aload_n (k := 0) (by decide +kernel)) <|
  nv_oc (n_getfield (idx := 28) (ci := 0) (k := 8) (N := 11) (D := RX0) (T := TX0) (by decide +kernel) rfl i_X0 (by decide) (by decide) f_X0_28) <|
  nv_oc (n_iload_n (k := 1) (by decide +kernel)) <|
  nv_oc (n_iaload (by decide +kernel)) <|
  nv_oc (n_if_le (off := 13) (tgt := 38) (by decide +kernel) (by decide)) <|
  nv_oc (n_aload_n (k := 0) (by decide +kernel)) <|
  nv_oc (n_getfield (idx := 28) (ci := 0) (k := 8) (N := 11) (D := RX0) (T := TX0) (by decide +kernel) rfl i_X0 (by decide) (by decide) f_X0_28) <|
  nv_oc (n_iload_n (k := 1) (by decide +kernel)) <|
  nv_oc (n_dup2 (by decide +kernel)) <|
  nv_oc (n_iaload (by decide +kernel)) <|
  nv_oc (n_iconst (z := 1) (by decide +kernel)) <|
  nv_oc (n_isub (by decide +kernel)) <|
  nv_oc (n_iastore (by decide +kernel)) <|
  nv_oc (n_iinc (k := 1) (d := 1) (by decide +kernel) (by decide)) <|
  nv_oc (n_goto (off := -39) (tgt := 2) (by decide +kernel) (by decide)) <|
  nv_oc (n_vret (by decide +kernel) rfl) <|
  nv_on
def M_X0_plankMostLeft : nv_MD := (RX0, yX0_plankMostLeft, cX0_plankMostLeft, 3, (some .int), 0, 0)
theorem fn_X0_plankMostLeft : nv_fn M_X0_plankMostLeft 0 := ⟨List.mem_of_getElem? (i := 510) (by decide +kernel), List.mem_of_getElem? (i := 45) (by decide +kernel), by decide +kernel⟩
theorem fv_X0_plankMostLeft : nv_fnV M_X0_plankMostLeft := ⟨List.mem_of_getElem? (i := 509) (by decide +kernel), List.mem_of_getElem? (i := 14) (by decide +kernel)⟩
def P_X0_plankMostLeft : nv_Pg := [(0, s_ki (-4) 2), (2, s_is 1 3), (3, s_ki (0) 4), (4, s_is 2 5), (5, s_il 2 6), (6, s_al 0 7), (7, s_gf 0 0 10), (10, s_ic c_ge 51 13), (13, s_al 0 14), (14, s_gf 0 6 17), (17, s_il 2 18), (18, s_ia 19), (19, s_if c_le 45 22), (22, s_il 1 23), (23, s_ki (-4) 25), (25, s_ic c_eq 43 28), (28, s_al 0 29), (29, s_gf 0 6 32), (32, s_il 2 33), (33, s_ia 34), (34, s_al 0 35), (35, s_gf 0 6 38), (38, s_il 1 39), (39, s_ia 40), (40, s_ic c_le 45 43), (43, s_il 2 44), (44, s_is 1 45), (45, s_inc 2 (1) 48), (48, s_go 5), (51, s_il 1 52), (52, s_ir)]
set_option maxRecDepth 100000 in
set_option maxHeartbeats 4000000 in
theorem ok_X0_plankMostLeft : nv_ok_P M_X0_plankMostLeft P_X0_plankMostLeft :=
  nv_oc (n_bipush (z := -4) (by decide +kernel) (by decide)) <|
  nv_oc (n_istore_n (k := 1) (by decide +kernel) (by decide)) <|
  nv_oc (n_iconst (z := 0) (by decide +kernel)) <|
  nv_oc (n_istore_n (k := 2) (by decide +kernel) (by decide)) <|
  nv_oc (n_iload_n (k := 2) (by decide +kernel)) <|
  nv_oc (n_aload_n (k := 0) (by decide +kernel)) <|
  nv_oc (n_getfield (idx := 37) (ci := 0) (k := 0) (N := 11) (D := RX0) (T := TX0) (by decide +kernel) rfl i_X0 (by decide) (by decide) f_X0_37) <|
  nv_oc (n_icmp_ge (off := 41) (tgt := 51) (by decide +kernel) (by decide)) <|
  nv_oc (n_aload_n (k := 0) (by decide +kernel)) <|
  nv_oc (n_getfield (idx := 22) (ci := 0) (k := 6) (N := 11) (D := RX0) (T := TX0) (by decide +kernel) rfl i_X0 (by decide) (by decide) f_X0_22) <|
  nv_oc (n_iload_n (k := 2) (by decide +kernel)) <|
  nv_oc (n_iaload (by decide +kernel)) <|
  nv_oc (n_if_le (off := 26) (tgt := 45) (by decide +kernel) (by decide)) <|
  nv_oc (n_iload_n (k := 1) (by decide +kernel)) <|
  nv_oc (n_bipush (z := -4) (by decide +kernel) (by decide)) <|
  nv_oc (n_icmp_eq (off := 18) (tgt := 43) (by decide +kernel) (by decide)) <|
  nv_oc (n_aload_n (k := 0) (by decide +kernel)) <|
  nv_oc (n_getfield (idx := 22) (ci := 0) (k := 6) (N := 11) (D := RX0) (T := TX0) (by decide +kernel) rfl i_X0 (by decide) (by decide) f_X0_22) <|
  nv_oc (n_iload_n (k := 2) (by decide +kernel)) <|
  nv_oc (n_iaload (by decide +kernel)) <|
  nv_oc (n_aload_n (k := 0) (by decide +kernel)) <|
  nv_oc (n_getfield (idx := 22) (ci := 0) (k := 6) (N := 11) (D := RX0) (T := TX0) (by decide +kernel) rfl i_X0 (by decide) (by decide) f_X0_22) <|
  nv_oc (n_iload_n (k := 1) (by decide +kernel)) <|
  nv_oc (n_iaload (by decide +kernel)) <|
  nv_oc (n_icmp_le (off := 5) (tgt := 45) (by decide +kernel) (by decide)) <|
  nv_oc (n_iload_n (k := 2) (by decide +kernel)) <|
  nv_oc (n_istore_n (k := 1) (by decide +kernel) (by decide)) <|
  nv_oc (n_iinc (k := 2) (d := 1) (by decide +kernel) (by decide)) <|
  nv_oc (n_goto (off := -43) (tgt := 5) (by decide +kernel) (by decide)) <|
  nv_oc (n_iload_n (k := 1) (by decide +kernel)) <|
  nv_oc (n_iret (by decide +kernel) rfl) <|
  nv_on
def M_X0_leaveFallen : nv_MD := (RX0, yX0_leaveFallen, cX0_leaveFallen, 3, (some .boolean), 1, 22)
theorem fn_X0_leaveFallen : nv_fn M_X0_leaveFallen 0 := ⟨List.mem_of_getElem? (i := 506) (by decide +kernel), List.mem_of_getElem? (i := 45) (by decide +kernel), by decide +kernel⟩
theorem fv_X0_leaveFallen : nv_fnV M_X0_leaveFallen := ⟨List.mem_of_getElem? (i := 505) (by decide +kernel), List.mem_of_getElem? (i := 13) (by decide +kernel)⟩
def P_X0_leaveFallen : nv_Pg := [(0, s_ki (-4) 2), (2, s_is 1 3), (3, s_ki (0) 4), (4, s_is 2 5), (5, s_il 2 6), (6, s_al 0 7), (7, s_gf 0 1 10), (10, s_ic c_ge 72 13), (13, s_al 0 14), (14, s_gf 0 9 17), (17, s_il 2 18), (18, s_ia 19), (19, s_if c_lt 66 22), (22, s_al 0 23), (23, s_gf 0 6 26), (26, s_al 0 27), (27, s_gf 0 9 30), (30, s_il 2 31), (31, s_ia 32), (32, s_ia 33), (33, s_if c_eq 36 66), (36, s_il 1 37), (37, s_ki (-4) 39), (39, s_ic c_eq 42 49), (42, s_al 0 43), (43, s_cv 0 M_X0_plankMostLeft 0 46), (46, s_go 50), (49, s_il 1 50), (50, s_is 1 51), (51, s_il 1 52), (52, s_ki (-4) 54), (54, s_ic c_eq 57 59), (57, s_ki (0) 58), (58, s_zr), (59, s_al 0 60), (60, s_gf 0 9 63), (63, s_il 2 64), (64, s_il 1 65), (65, s_iw 66), (66, s_inc 2 (1) 69), (69, s_go 5), (72, s_il 1 73), (73, s_ki (-4) 75), (75, s_ic c_eq 82 78), (78, s_ki (1) 79), (79, s_go 83), (82, s_ki (0) 83), (83, s_zr)]
set_option maxRecDepth 100000 in
set_option maxHeartbeats 4000000 in
theorem ok_X0_leaveFallen : nv_ok_P M_X0_leaveFallen P_X0_leaveFallen :=
  nv_oc (n_bipush (z := -4) (by decide +kernel) (by decide)) <|
  nv_oc (n_istore_n (k := 1) (by decide +kernel) (by decide)) <|
  nv_oc (n_iconst (z := 0) (by decide +kernel)) <|
  nv_oc (n_istore_n (k := 2) (by decide +kernel) (by decide)) <|
  nv_oc (n_iload_n (k := 2) (by decide +kernel)) <|
  nv_oc (n_aload_n (k := 0) (by decide +kernel)) <|
  nv_oc (n_getfield (idx := 40) (ci := 0) (k := 1) (N := 11) (D := RX0) (T := TX0) (by decide +kernel) rfl i_X0 (by decide) (by decide) f_X0_40) <|
  nv_oc (n_icmp_ge (off := 62) (tgt := 72) (by decide +kernel) (by decide)) <|
  nv_oc (n_aload_n (k := 0) (by decide +kernel)) <|
  nv_oc (n_getfield (idx := 31) (ci := 0) (k := 9) (N := 11) (D := RX0) (T := TX0) (by decide +kernel) rfl i_X0 (by decide) (by decide) f_X0_31) <|
  nv_oc (n_iload_n (k := 2) (by decide +kernel)) <|
  nv_oc (n_iaload (by decide +kernel)) <|
  nv_oc (n_if_lt (off := 47) (tgt := 66) (by decide +kernel) (by decide)) <|
  nv_oc (n_aload_n (k := 0) (by decide +kernel)) <|
  nv_oc (n_getfield (idx := 22) (ci := 0) (k := 6) (N := 11) (D := RX0) (T := TX0) (by decide +kernel) rfl i_X0 (by decide) (by decide) f_X0_22) <|
  nv_oc (n_aload_n (k := 0) (by decide +kernel)) <|
  nv_oc (n_getfield (idx := 31) (ci := 0) (k := 9) (N := 11) (D := RX0) (T := TX0) (by decide +kernel) rfl i_X0 (by decide) (by decide) f_X0_31) <|
  nv_oc (n_iload_n (k := 2) (by decide +kernel)) <|
  nv_oc (n_iaload (by decide +kernel)) <|
  nv_oc (n_iaload (by decide +kernel)) <|
  nv_oc (n_if_ne (off := 33) (tgt := 66) (by decide +kernel) (by decide)) <|
  nv_oc (n_iload_n (k := 1) (by decide +kernel)) <|
  nv_oc (n_bipush (z := -4) (by decide +kernel) (by decide)) <|
  nv_oc (n_icmp_ne (off := 10) (tgt := 49) (by decide +kernel) (by decide)) <|
  nv_oc (n_aload_n (k := 0) (by decide +kernel)) <|
  nv_oc (n_virtual (M' := M_X0_plankMostLeft) (idx := 83) (n := 0) (ci := 0) (N := 11) (D := RX0) (T := TX0) (by decide +kernel) fn_X0_plankMostLeft fv_X0_plankMostLeft rfl rfl l_X0_83 ⟨by decide, by decide⟩) <|
  nv_oc (n_goto (off := 4) (tgt := 50) (by decide +kernel) (by decide)) <|
  nv_oc (n_iload_n (k := 1) (by decide +kernel)) <|
  nv_oc (n_istore_n (k := 1) (by decide +kernel) (by decide)) <|
  nv_oc (n_iload_n (k := 1) (by decide +kernel)) <|
  nv_oc (n_bipush (z := -4) (by decide +kernel) (by decide)) <|
  nv_oc (n_icmp_ne (off := 5) (tgt := 59) (by decide +kernel) (by decide)) <|
  nv_oc (n_iconst (z := 0) (by decide +kernel)) <|
  nv_oc (n_zret (by decide +kernel) rfl) <|
  nv_oc (n_aload_n (k := 0) (by decide +kernel)) <|
  nv_oc (n_getfield (idx := 31) (ci := 0) (k := 9) (N := 11) (D := RX0) (T := TX0) (by decide +kernel) rfl i_X0 (by decide) (by decide) f_X0_31) <|
  nv_oc (n_iload_n (k := 2) (by decide +kernel)) <|
  nv_oc (n_iload_n (k := 1) (by decide +kernel)) <|
  nv_oc (n_iastore (by decide +kernel)) <|
  nv_oc (n_iinc (k := 2) (d := 1) (by decide +kernel) (by decide)) <|
  nv_oc (n_goto (off := -64) (tgt := 5) (by decide +kernel) (by decide)) <|
  nv_oc (n_iload_n (k := 1) (by decide +kernel)) <|
  nv_oc (n_bipush (z := -4) (by decide +kernel) (by decide)) <|
  nv_oc (n_icmp_eq (off := 7) (tgt := 82) (by decide +kernel) (by decide)) <|
  nv_oc (n_iconst (z := 1) (by decide +kernel)) <|
  nv_oc (n_goto (off := 4) (tgt := 83) (by decide +kernel) (by decide)) <|
  nv_oc (n_iconst (z := 0) (by decide +kernel)) <|
  nv_oc (n_zret (by decide +kernel) rfl) <|
  nv_on
def M_X0_passHour : nv_MD := (RX0, yX0_passHour, cX0_passHour, 3, (some .boolean), 2, 50)
theorem fn_X0_passHour : nv_fn M_X0_passHour 0 := ⟨List.mem_of_getElem? (i := 497) (by decide +kernel), List.mem_of_getElem? (i := 45) (by decide +kernel), by decide +kernel⟩
theorem fv_X0_passHour : nv_fnV M_X0_passHour := ⟨List.mem_of_getElem? (i := 495) (by decide +kernel), List.mem_of_getElem? (i := 496) (by decide +kernel)⟩
def P_X0_passHour : nv_Pg := [(0, s_al 0 1), (1, s_cv 0 M_X0_hoppersRest 0 4), (4, s_is 1 5), (5, s_ki (0) 6), (6, s_is 2 7), (7, s_il 2 8), (8, s_al 0 9), (9, s_gf 0 1 12), (12, s_ic c_ge 32 15), (15, s_al 0 16), (16, s_gf 0 10 19), (19, s_il 2 20), (20, s_al 0 21), (21, s_il 2 22), (22, s_cv 0 M_X0_cutOf 1 25), (25, s_iw 26), (26, s_inc 2 (1) 29), (29, s_go 7), (32, s_ki (0) 33), (33, s_is 2 34), (34, s_il 2 35), (35, s_al 0 36), (36, s_gf 0 1 39), (39, s_ic c_ge 92 42), (42, s_al 0 43), (43, s_gf 0 10 46), (46, s_il 2 47), (47, s_ia 48), (48, s_if c_le 86 51), (51, s_al 0 52), (52, s_gf 0 6 55), (55, s_al 0 56), (56, s_gf 0 9 59), (59, s_il 2 60), (60, s_ia 61), (61, s_ki (0) 62), (62, s_al 0 63), (63, s_gf 0 6 66), (66, s_al 0 67), (67, s_gf 0 9 70), (70, s_il 2 71), (71, s_ia 72), (72, s_ia 73), (73, s_al 0 74), (74, s_gf 0 10 77), (77, s_il 2 78), (78, s_ia 79), (79, s_sub 80), (80, s_max 83), (83, s_iw 84), (84, s_ki (1) 85), (85, s_is 1 86), (86, s_inc 2 (1) 89), (89, s_go 34), (92, s_al 0 93), (93, s_gf 0 2 96), (96, s_ki (3) 97), (97, s_rem 98), (98, s_ki (2) 99), (99, s_ic c_eq 102 106), (102, s_al 0 103), (103, s_cv 0 M_X0_growBlunt 0 106), (106, s_al 0 107), (107, s_cv 0 M_X0_leaveFallen 0 110), (110, s_is 2 111), (111, s_al 0 112), (112, s_dup 113), (113, s_gf 0 2 116), (116, s_ki (1) 117), (117, s_add 118), (118, s_pf 0 2 121), (121, s_il 1 122), (122, s_if c_eq 125 129), (125, s_il 2 126), (126, s_if c_eq 133 129), (129, s_ki (1) 130), (130, s_go 134), (133, s_ki (0) 134), (134, s_zr)]
set_option maxRecDepth 100000 in
set_option maxHeartbeats 4000000 in
theorem ok_X0_passHour : nv_ok_P M_X0_passHour P_X0_passHour :=
  nv_oc (n_aload_n (k := 0) (by decide +kernel)) <|
  nv_oc (n_virtual (M' := M_X0_hoppersRest) (idx := 66) (n := 0) (ci := 0) (N := 11) (D := RX0) (T := TX0) (by decide +kernel) fn_X0_hoppersRest fv_X0_hoppersRest rfl rfl l_X0_66 ⟨by decide, by decide⟩) <|
  nv_oc (n_istore_n (k := 1) (by decide +kernel) (by decide)) <|
  nv_oc (n_iconst (z := 0) (by decide +kernel)) <|
  nv_oc (n_istore_n (k := 2) (by decide +kernel) (by decide)) <|
  nv_oc (n_iload_n (k := 2) (by decide +kernel)) <|
  nv_oc (n_aload_n (k := 0) (by decide +kernel)) <|
  nv_oc (n_getfield (idx := 40) (ci := 0) (k := 1) (N := 11) (D := RX0) (T := TX0) (by decide +kernel) rfl i_X0 (by decide) (by decide) f_X0_40) <|
  nv_oc (n_icmp_ge (off := 20) (tgt := 32) (by decide +kernel) (by decide)) <|
  nv_oc (n_aload_n (k := 0) (by decide +kernel)) <|
  nv_oc (n_getfield (idx := 34) (ci := 0) (k := 10) (N := 11) (D := RX0) (T := TX0) (by decide +kernel) rfl i_X0 (by decide) (by decide) f_X0_34) <|
  nv_oc (n_iload_n (k := 2) (by decide +kernel)) <|
  nv_oc (n_aload_n (k := 0) (by decide +kernel)) <|
  nv_oc (n_iload_n (k := 2) (by decide +kernel)) <|
  nv_oc (n_virtual (M' := M_X0_cutOf) (idx := 62) (n := 1) (ci := 0) (N := 11) (D := RX0) (T := TX0) (by decide +kernel) fn_X0_cutOf fv_X0_cutOf rfl rfl l_X0_62 ⟨by decide, by decide⟩) <|
  nv_oc (n_iastore (by decide +kernel)) <|
  nv_oc (n_iinc (k := 2) (d := 1) (by decide +kernel) (by decide)) <|
  nv_oc (n_goto (off := -22) (tgt := 7) (by decide +kernel) (by decide)) <|
  nv_oc (n_iconst (z := 0) (by decide +kernel)) <|
  nv_oc (n_istore_n (k := 2) (by decide +kernel) (by decide)) <|
  nv_oc (n_iload_n (k := 2) (by decide +kernel)) <|
  nv_oc (n_aload_n (k := 0) (by decide +kernel)) <|
  nv_oc (n_getfield (idx := 40) (ci := 0) (k := 1) (N := 11) (D := RX0) (T := TX0) (by decide +kernel) rfl i_X0 (by decide) (by decide) f_X0_40) <|
  nv_oc (n_icmp_ge (off := 53) (tgt := 92) (by decide +kernel) (by decide)) <|
  nv_oc (n_aload_n (k := 0) (by decide +kernel)) <|
  nv_oc (n_getfield (idx := 34) (ci := 0) (k := 10) (N := 11) (D := RX0) (T := TX0) (by decide +kernel) rfl i_X0 (by decide) (by decide) f_X0_34) <|
  nv_oc (n_iload_n (k := 2) (by decide +kernel)) <|
  nv_oc (n_iaload (by decide +kernel)) <|
  nv_oc (n_if_le (off := 38) (tgt := 86) (by decide +kernel) (by decide)) <|
  nv_oc (n_aload_n (k := 0) (by decide +kernel)) <|
  nv_oc (n_getfield (idx := 22) (ci := 0) (k := 6) (N := 11) (D := RX0) (T := TX0) (by decide +kernel) rfl i_X0 (by decide) (by decide) f_X0_22) <|
  nv_oc (n_aload_n (k := 0) (by decide +kernel)) <|
  nv_oc (n_getfield (idx := 31) (ci := 0) (k := 9) (N := 11) (D := RX0) (T := TX0) (by decide +kernel) rfl i_X0 (by decide) (by decide) f_X0_31) <|
  nv_oc (n_iload_n (k := 2) (by decide +kernel)) <|
  nv_oc (n_iaload (by decide +kernel)) <|
  nv_oc (n_iconst (z := 0) (by decide +kernel)) <|
  nv_oc (n_aload_n (k := 0) (by decide +kernel)) <|
  nv_oc (n_getfield (idx := 22) (ci := 0) (k := 6) (N := 11) (D := RX0) (T := TX0) (by decide +kernel) rfl i_X0 (by decide) (by decide) f_X0_22) <|
  nv_oc (n_aload_n (k := 0) (by decide +kernel)) <|
  nv_oc (n_getfield (idx := 31) (ci := 0) (k := 9) (N := 11) (D := RX0) (T := TX0) (by decide +kernel) rfl i_X0 (by decide) (by decide) f_X0_31) <|
  nv_oc (n_iload_n (k := 2) (by decide +kernel)) <|
  nv_oc (n_iaload (by decide +kernel)) <|
  nv_oc (n_iaload (by decide +kernel)) <|
  nv_oc (n_aload_n (k := 0) (by decide +kernel)) <|
  nv_oc (n_getfield (idx := 34) (ci := 0) (k := 10) (N := 11) (D := RX0) (T := TX0) (by decide +kernel) rfl i_X0 (by decide) (by decide) f_X0_34) <|
  nv_oc (n_iload_n (k := 2) (by decide +kernel)) <|
  nv_oc (n_iaload (by decide +kernel)) <|
  nv_oc (n_isub (by decide +kernel)) <|
  nv_oc (n_max (idx := 74) (by decide +kernel) l_X0_74 (by decide) (by decide)) <|
  nv_oc (n_iastore (by decide +kernel)) <|
  nv_oc (n_iconst (z := 1) (by decide +kernel)) <|
  nv_oc (n_istore_n (k := 1) (by decide +kernel) (by decide)) <|
  nv_oc (n_iinc (k := 2) (d := 1) (by decide +kernel) (by decide)) <|
  nv_oc (n_goto (off := -55) (tgt := 34) (by decide +kernel) (by decide)) <|
  nv_oc (n_aload_n (k := 0) (by decide +kernel)) <|
  nv_oc (n_getfield (idx := 43) (ci := 0) (k := 2) (N := 11) (D := RX0) (T := TX0) (by decide +kernel) rfl i_X0 (by decide) (by decide) f_X0_43) <|
  nv_oc (n_iconst (z := 3) (by decide +kernel)) <|
  nv_oc (n_irem (by decide +kernel)) <|
  nv_oc (n_iconst (z := 2) (by decide +kernel)) <|
  nv_oc (n_icmp_ne (off := 7) (tgt := 106) (by decide +kernel) (by decide)) <|
  nv_oc (n_aload_n (k := 0) (by decide +kernel)) <|
  nv_oc (n_virtual (M' := M_X0_growBlunt) (idx := 77) (n := 0) (ci := 0) (N := 11) (D := RX0) (T := TX0) (by decide +kernel) fn_X0_growBlunt fv_X0_growBlunt rfl rfl l_X0_77 ⟨by decide, by decide⟩) <|
  nv_oc (n_aload_n (k := 0) (by decide +kernel)) <|
  nv_oc (n_virtual (M' := M_X0_leaveFallen) (idx := 80) (n := 0) (ci := 0) (N := 11) (D := RX0) (T := TX0) (by decide +kernel) fn_X0_leaveFallen fv_X0_leaveFallen rfl rfl l_X0_80 ⟨by decide, by decide⟩) <|
  nv_oc (n_istore_n (k := 2) (by decide +kernel) (by decide)) <|
  nv_oc (n_aload_n (k := 0) (by decide +kernel)) <|
  nv_oc (n_dup (by decide +kernel)) <|
  nv_oc (n_getfield (idx := 43) (ci := 0) (k := 2) (N := 11) (D := RX0) (T := TX0) (by decide +kernel) rfl i_X0 (by decide) (by decide) f_X0_43) <|
  nv_oc (n_iconst (z := 1) (by decide +kernel)) <|
  nv_oc (n_iadd (by decide +kernel)) <|
  nv_oc (n_putfield (idx := 43) (ci := 0) (k := 2) (N := 11) (D := RX0) (T := TX0) tyX0 tyX0_ok nmX0 (by decide +kernel) rfl i_X0 (by decide) (by decide) rfl f_X0_43 rfl) <|
  nv_oc (n_iload_n (k := 1) (by decide +kernel)) <|
  nv_oc (n_if_ne (off := 7) (tgt := 129) (by decide +kernel) (by decide)) <|
  nv_oc (n_iload_n (k := 2) (by decide +kernel)) <|
  nv_oc (n_if_eq (off := 7) (tgt := 133) (by decide +kernel) (by decide)) <|
  nv_oc (n_iconst (z := 1) (by decide +kernel)) <|
  nv_oc (n_goto (off := 4) (tgt := 134) (by decide +kernel) (by decide)) <|
  nv_oc (n_iconst (z := 0) (by decide +kernel)) <|
  nv_oc (n_zret (by decide +kernel) rfl) <|
  nv_on
end
section
def M_X0_passHours : nv_MD := (RX0, yX0_passHours, cX0_passHours, 3, none, 3, 72)
theorem fn_X0_passHours : nv_fn M_X0_passHours 1 := ⟨List.mem_of_getElem? (i := 563) (by decide +kernel), List.mem_of_getElem? (i := 45) (by decide +kernel), by decide +kernel⟩
theorem fv_X0_passHours : nv_fnV M_X0_passHours := ⟨List.mem_of_getElem? (i := 561) (by decide +kernel), List.mem_of_getElem? (i := 562) (by decide +kernel)⟩
def P_X0_passHours : nv_Pg := [(0, s_ki (0) 1), (1, s_is 2 2), (2, s_il 2 3), (3, s_il 1 4), (4, s_ic c_ge 18 7), (7, s_al 0 8), (8, s_cv 0 M_X0_passHour 0 11), (11, s_pop 12), (12, s_inc 2 (1) 15), (15, s_go 2), (18, s_vr)]
set_option maxRecDepth 100000 in
set_option maxHeartbeats 4000000 in
theorem ok_X0_passHours : nv_ok_P M_X0_passHours P_X0_passHours :=
  nv_oc (n_iconst (z := 0) (by decide +kernel)) <|
  nv_oc (n_istore_n (k := 2) (by decide +kernel) (by decide)) <|
  nv_oc (n_iload_n (k := 2) (by decide +kernel)) <|
  nv_oc (n_iload_n (k := 1) (by decide +kernel)) <|
  nv_oc (n_icmp_ge (off := 14) (tgt := 18) (by decide +kernel) (by decide)) <|
  nv_oc (n_aload_n (k := 0) (by decide +kernel)) <|
  nv_oc (n_virtual (M' := M_X0_passHour) (idx := 87) (n := 0) (ci := 0) (N := 11) (D := RX0) (T := TX0) (by decide +kernel) fn_X0_passHour fv_X0_passHour rfl rfl l_X0_87 ⟨by decide, by decide⟩) <|
  nv_oc (n_pop (by decide +kernel)) <|
  nv_oc (n_iinc (k := 2) (d := 1) (by decide +kernel) (by decide)) <|
  nv_oc (n_goto (off := -13) (tgt := 2) (by decide +kernel) (by decide)) <|
  nv_oc (n_vret (by decide +kernel) rfl) <|
  nv_on
def M_X0_drawAndSet : nv_MD := (RX0, yX0_drawAndSet, cX0_drawAndSet, 1, none, 0, 0)
theorem fn_X0_drawAndSet : nv_fn M_X0_drawAndSet 0 := ⟨List.mem_of_getElem? (i := 536) (by decide +kernel), List.mem_of_getElem? (i := 45) (by decide +kernel), by decide +kernel⟩
theorem fv_X0_drawAndSet : nv_fnV M_X0_drawAndSet := ⟨List.mem_of_getElem? (i := 534) (by decide +kernel), List.mem_of_getElem? (i := 535) (by decide +kernel)⟩
def P_X0_drawAndSet : nv_Pg := [(0, s_al 0 1), (1, s_al 0 2), (2, s_gf 0 3 5), (5, s_ki 1103515245 7), (7, s_mul 8), (8, s_ki (12345) 11), (11, s_add 12), (12, s_ki 2147483647 14), (14, s_b nv_and 15), (15, s_pf 0 3 18), (18, s_al 0 19), (19, s_gf 0 0 22), (22, s_if c_le 62 25), (25, s_al 0 26), (26, s_gf 0 1 29), (29, s_if c_le 62 32), (32, s_al 0 33), (33, s_gf 0 9 36), (36, s_al 0 37), (37, s_gf 0 3 40), (40, s_ki 65536 42), (42, s_div 43), (43, s_al 0 44), (44, s_gf 0 1 47), (47, s_rem 48), (48, s_al 0 49), (49, s_gf 0 3 52), (52, s_ki (128) 55), (55, s_div 56), (56, s_al 0 57), (57, s_gf 0 0 60), (60, s_rem 61), (61, s_iw 62), (62, s_vr)]
set_option maxRecDepth 100000 in
set_option maxHeartbeats 4000000 in
theorem ok_X0_drawAndSet : nv_ok_P M_X0_drawAndSet P_X0_drawAndSet :=
  nv_oc (n_aload_n (k := 0) (by decide +kernel)) <|
  nv_oc (n_aload_n (k := 0) (by decide +kernel)) <|
  nv_oc (n_getfield (idx := 9) (ci := 0) (k := 3) (N := 11) (D := RX0) (T := TX0) (by decide +kernel) rfl i_X0 (by decide) (by decide) f_X0_9) <|
  nv_oc (n_ldc (i := 90) (z := 1103515245) (by decide +kernel) k_X0_90) <|
  nv_oc (n_imul (by decide +kernel)) <|
  nv_oc (n_sipush (z := 12345) (by decide +kernel) (by decide)) <|
  nv_oc (n_iadd (by decide +kernel)) <|
  nv_oc (n_ldc (i := 91) (z := 2147483647) (by decide +kernel) k_X0_91) <|
  nv_oc (n_iand (by decide +kernel)) <|
  nv_oc (n_putfield (idx := 9) (ci := 0) (k := 3) (N := 11) (D := RX0) (T := TX0) tyX0 tyX0_ok nmX0 (by decide +kernel) rfl i_X0 (by decide) (by decide) rfl f_X0_9 rfl) <|
  nv_oc (n_aload_n (k := 0) (by decide +kernel)) <|
  nv_oc (n_getfield (idx := 37) (ci := 0) (k := 0) (N := 11) (D := RX0) (T := TX0) (by decide +kernel) rfl i_X0 (by decide) (by decide) f_X0_37) <|
  nv_oc (n_if_le (off := 40) (tgt := 62) (by decide +kernel) (by decide)) <|
  nv_oc (n_aload_n (k := 0) (by decide +kernel)) <|
  nv_oc (n_getfield (idx := 40) (ci := 0) (k := 1) (N := 11) (D := RX0) (T := TX0) (by decide +kernel) rfl i_X0 (by decide) (by decide) f_X0_40) <|
  nv_oc (n_if_le (off := 33) (tgt := 62) (by decide +kernel) (by decide)) <|
  nv_oc (n_aload_n (k := 0) (by decide +kernel)) <|
  nv_oc (n_getfield (idx := 31) (ci := 0) (k := 9) (N := 11) (D := RX0) (T := TX0) (by decide +kernel) rfl i_X0 (by decide) (by decide) f_X0_31) <|
  nv_oc (n_aload_n (k := 0) (by decide +kernel)) <|
  nv_oc (n_getfield (idx := 9) (ci := 0) (k := 3) (N := 11) (D := RX0) (T := TX0) (by decide +kernel) rfl i_X0 (by decide) (by decide) f_X0_9) <|
  nv_oc (n_ldc (i := 92) (z := 65536) (by decide +kernel) k_X0_92) <|
  nv_oc (n_idiv (by decide +kernel)) <|
  nv_oc (n_aload_n (k := 0) (by decide +kernel)) <|
  nv_oc (n_getfield (idx := 40) (ci := 0) (k := 1) (N := 11) (D := RX0) (T := TX0) (by decide +kernel) rfl i_X0 (by decide) (by decide) f_X0_40) <|
  nv_oc (n_irem (by decide +kernel)) <|
  nv_oc (n_aload_n (k := 0) (by decide +kernel)) <|
  nv_oc (n_getfield (idx := 9) (ci := 0) (k := 3) (N := 11) (D := RX0) (T := TX0) (by decide +kernel) rfl i_X0 (by decide) (by decide) f_X0_9) <|
  nv_oc (n_sipush (z := 128) (by decide +kernel) (by decide)) <|
  nv_oc (n_idiv (by decide +kernel)) <|
  nv_oc (n_aload_n (k := 0) (by decide +kernel)) <|
  nv_oc (n_getfield (idx := 37) (ci := 0) (k := 0) (N := 11) (D := RX0) (T := TX0) (by decide +kernel) rfl i_X0 (by decide) (by decide) f_X0_37) <|
  nv_oc (n_irem (by decide +kernel)) <|
  nv_oc (n_iastore (by decide +kernel)) <|
  nv_oc (n_vret (by decide +kernel) rfl) <|
  nv_on
def M_X0_noonWithin : nv_MD := (RX0, yX0_noonWithin, cX0_noonWithin, 5, (some .int), 3, 72)
theorem fn_X0_noonWithin : nv_fn M_X0_noonWithin 2 := ⟨List.mem_of_getElem? (i := 592) (by decide +kernel), List.mem_of_getElem? (i := 45) (by decide +kernel), by decide +kernel⟩
theorem fv_X0_noonWithin : nv_fnV M_X0_noonWithin := ⟨List.mem_of_getElem? (i := 590) (by decide +kernel), List.mem_of_getElem? (i := 591) (by decide +kernel)⟩
def P_X0_noonWithin : nv_Pg := [(0, s_ki (0) 1), (1, s_is 3 2), (2, s_il 3 3), (3, s_il 1 4), (4, s_ic c_gt 46 7), (7, s_al 0 8), (8, s_cv 0 M_X0_leftOfAll 0 11), (11, s_is 4 13), (13, s_il 4 15), (15, s_if c_eq 18 20), (18, s_il 3 19), (19, s_ir), (20, s_il 4 22), (22, s_il 2 23), (23, s_il 1 24), (24, s_il 3 25), (25, s_sub 26), (26, s_mul 27), (27, s_ic c_gt 37 30), (30, s_al 0 31), (31, s_cv 0 M_X0_passHour 0 34), (34, s_if c_eq 37 40), (37, s_ki (61) 39), (39, s_ir), (40, s_inc 3 (1) 43), (43, s_go 2), (46, s_ki (61) 48), (48, s_ir)]
set_option maxRecDepth 100000 in
set_option maxHeartbeats 4000000 in
theorem ok_X0_noonWithin : nv_ok_P M_X0_noonWithin P_X0_noonWithin :=
  nv_oc (n_iconst (z := 0) (by decide +kernel)) <|
  nv_oc (n_istore_n (k := 3) (by decide +kernel) (by decide)) <|
  nv_oc (n_iload_n (k := 3) (by decide +kernel)) <|
  nv_oc (n_iload_n (k := 1) (by decide +kernel)) <|
  nv_oc (n_icmp_gt (off := 42) (tgt := 46) (by decide +kernel) (by decide)) <|
  nv_oc (n_aload_n (k := 0) (by decide +kernel)) <|
  nv_oc (n_virtual (M' := M_X0_leftOfAll) (idx := 93) (n := 0) (ci := 0) (N := 11) (D := RX0) (T := TX0) (by decide +kernel) fn_X0_leftOfAll fv_X0_leftOfAll rfl rfl l_X0_93 ⟨by decide, by decide⟩) <|
  nv_oc (n_istore (k := 4) (by decide +kernel) (by decide)) <|
  nv_oc (n_iload (k := 4) (by decide +kernel)) <|
  nv_oc (n_if_ne (off := 5) (tgt := 20) (by decide +kernel) (by decide)) <|
  nv_oc (n_iload_n (k := 3) (by decide +kernel)) <|
  nv_oc (n_iret (by decide +kernel) rfl) <|
  nv_oc (n_iload (k := 4) (by decide +kernel)) <|
  nv_oc (n_iload_n (k := 2) (by decide +kernel)) <|
  nv_oc (n_iload_n (k := 1) (by decide +kernel)) <|
  nv_oc (n_iload_n (k := 3) (by decide +kernel)) <|
  nv_oc (n_isub (by decide +kernel)) <|
  nv_oc (n_imul (by decide +kernel)) <|
  nv_oc (n_icmp_gt (off := 10) (tgt := 37) (by decide +kernel) (by decide)) <|
  nv_oc (n_aload_n (k := 0) (by decide +kernel)) <|
  nv_oc (n_virtual (M' := M_X0_passHour) (idx := 87) (n := 0) (ci := 0) (N := 11) (D := RX0) (T := TX0) (by decide +kernel) fn_X0_passHour fv_X0_passHour rfl rfl l_X0_87 ⟨by decide, by decide⟩) <|
  nv_oc (n_if_ne (off := 6) (tgt := 40) (by decide +kernel) (by decide)) <|
  nv_oc (n_bipush (z := 61) (by decide +kernel) (by decide)) <|
  nv_oc (n_iret (by decide +kernel) rfl) <|
  nv_oc (n_iinc (k := 3) (d := 1) (by decide +kernel) (by decide)) <|
  nv_oc (n_goto (off := -41) (tgt := 2) (by decide +kernel) (by decide)) <|
  nv_oc (n_bipush (z := 61) (by decide +kernel) (by decide)) <|
  nv_oc (n_iret (by decide +kernel) rfl) <|
  nv_on
def M_J6_bitCount_0f7a4 : nv_MD := (RJ6, yJ6_bitCount_0f7a4, cJ6_bitCount_0f7a4, 1, (some .int), 0, 0)
theorem fn_J6_bitCount_0f7a4 : nv_fn M_J6_bitCount_0f7a4 1 := ⟨List.mem_of_getElem? (i := 635) (by decide +kernel), List.mem_of_getElem? (i := 58) (by decide +kernel), by decide +kernel⟩
theorem st_J6_bitCount_0f7a4 : Cond.static (nv_y M_J6_bitCount_0f7a4) ∈ lw_tbl := List.mem_of_getElem? (i := 634) (by decide +kernel)
def P_J6_bitCount_0f7a4 : nv_Pg := [(0, s_il 0 1), (1, s_il 0 2), (2, s_ki (1) 3), (3, s_su 4), (4, s_ki 1431655765 7), (7, s_b nv_and 8), (8, s_sub 9), (9, s_is 0 10), (10, s_il 0 11), (11, s_ki 858993459 14), (14, s_b nv_and 15), (15, s_il 0 16), (16, s_ki (2) 17), (17, s_su 18), (18, s_ki 858993459 21), (21, s_b nv_and 22), (22, s_add 23), (23, s_is 0 24), (24, s_il 0 25), (25, s_il 0 26), (26, s_ki (4) 27), (27, s_su 28), (28, s_add 29), (29, s_ki 252645135 32), (32, s_b nv_and 33), (33, s_is 0 34), (34, s_il 0 35), (35, s_il 0 36), (36, s_ki (8) 38), (38, s_su 39), (39, s_add 40), (40, s_is 0 41), (41, s_il 0 42), (42, s_il 0 43), (43, s_ki (16) 45), (45, s_su 46), (46, s_add 47), (47, s_is 0 48), (48, s_il 0 49), (49, s_ki (63) 51), (51, s_b nv_and 52), (52, s_ir)]
set_option maxRecDepth 100000 in
set_option maxHeartbeats 4000000 in
theorem ok_J6_bitCount_0f7a4 : nv_ok_P M_J6_bitCount_0f7a4 P_J6_bitCount_0f7a4 :=
  nv_oc (n_iload_n (k := 0) (by decide +kernel)) <|
  nv_oc (n_iload_n (k := 0) (by decide +kernel)) <|
  nv_oc (n_iconst (z := 1) (by decide +kernel)) <|
  nv_oc (n_iushr (by decide +kernel)) <|
  nv_oc (n_ldc_w (i := 265) (z := 1431655765) (by decide +kernel) k_J6_265) <|
  nv_oc (n_iand (by decide +kernel)) <|
  nv_oc (n_isub (by decide +kernel)) <|
  nv_oc (n_istore_n (k := 0) (by decide +kernel) (by decide)) <|
  nv_oc (n_iload_n (k := 0) (by decide +kernel)) <|
  nv_oc (n_ldc_w (i := 266) (z := 858993459) (by decide +kernel) k_J6_266) <|
  nv_oc (n_iand (by decide +kernel)) <|
  nv_oc (n_iload_n (k := 0) (by decide +kernel)) <|
  nv_oc (n_iconst (z := 2) (by decide +kernel)) <|
  nv_oc (n_iushr (by decide +kernel)) <|
  nv_oc (n_ldc_w (i := 266) (z := 858993459) (by decide +kernel) k_J6_266) <|
  nv_oc (n_iand (by decide +kernel)) <|
  nv_oc (n_iadd (by decide +kernel)) <|
  nv_oc (n_istore_n (k := 0) (by decide +kernel) (by decide)) <|
  nv_oc (n_iload_n (k := 0) (by decide +kernel)) <|
  nv_oc (n_iload_n (k := 0) (by decide +kernel)) <|
  nv_oc (n_iconst (z := 4) (by decide +kernel)) <|
  nv_oc (n_iushr (by decide +kernel)) <|
  nv_oc (n_iadd (by decide +kernel)) <|
  nv_oc (n_ldc_w (i := 267) (z := 252645135) (by decide +kernel) k_J6_267) <|
  nv_oc (n_iand (by decide +kernel)) <|
  nv_oc (n_istore_n (k := 0) (by decide +kernel) (by decide)) <|
  nv_oc (n_iload_n (k := 0) (by decide +kernel)) <|
  nv_oc (n_iload_n (k := 0) (by decide +kernel)) <|
  nv_oc (n_bipush (z := 8) (by decide +kernel) (by decide)) <|
  nv_oc (n_iushr (by decide +kernel)) <|
  nv_oc (n_iadd (by decide +kernel)) <|
  nv_oc (n_istore_n (k := 0) (by decide +kernel) (by decide)) <|
  nv_oc (n_iload_n (k := 0) (by decide +kernel)) <|
  nv_oc (n_iload_n (k := 0) (by decide +kernel)) <|
  nv_oc (n_bipush (z := 16) (by decide +kernel) (by decide)) <|
  nv_oc (n_iushr (by decide +kernel)) <|
  nv_oc (n_iadd (by decide +kernel)) <|
  nv_oc (n_istore_n (k := 0) (by decide +kernel) (by decide)) <|
  nv_oc (n_iload_n (k := 0) (by decide +kernel)) <|
  nv_oc (n_bipush (z := 63) (by decide +kernel) (by decide)) <|
  nv_oc (n_iand (by decide +kernel)) <|
  nv_oc (n_iret (by decide +kernel) rfl) <|
  nv_on
def M_X0_standingBehind : nv_MD := (RX0, yX0_standingBehind, cX0_standingBehind, 4, (some .int), 3, 72)
theorem fn_X0_standingBehind : nv_fn M_X0_standingBehind 1 := ⟨List.mem_of_getElem? (i := 631) (by decide +kernel), List.mem_of_getElem? (i := 45) (by decide +kernel), by decide +kernel⟩
theorem fv_X0_standingBehind : nv_fnV M_X0_standingBehind := ⟨List.mem_of_getElem? (i := 629) (by decide +kernel), List.mem_of_getElem? (i := 630) (by decide +kernel)⟩
def P_X0_standingBehind : nv_Pg := [(0, s_ki (1) 1), (1, s_is 2 2), (2, s_ki (0) 3), (3, s_is 3 4), (4, s_il 3 5), (5, s_il 1 6), (6, s_ic c_ge 24 9), (9, s_il 2 10), (10, s_if c_eq 24 13), (13, s_al 0 14), (14, s_cv 0 M_X0_passHour 0 17), (17, s_is 2 18), (18, s_inc 3 (1) 21), (21, s_go 4), (24, s_al 0 25), (25, s_gf 0 0 28), (28, s_al 0 29), (29, s_cv 0 M_X0_fallenSet 0 32), (32, s_cs M_J6_bitCount_0f7a4 1 35), (35, s_sub 36), (36, s_ir)]
set_option maxRecDepth 100000 in
set_option maxHeartbeats 4000000 in
theorem ok_X0_standingBehind : nv_ok_P M_X0_standingBehind P_X0_standingBehind :=
  nv_oc (n_iconst (z := 1) (by decide +kernel)) <|
  nv_oc (n_istore_n (k := 2) (by decide +kernel) (by decide)) <|
  nv_oc (n_iconst (z := 0) (by decide +kernel)) <|
  nv_oc (n_istore_n (k := 3) (by decide +kernel) (by decide)) <|
  nv_oc (n_iload_n (k := 3) (by decide +kernel)) <|
  nv_oc (n_iload_n (k := 1) (by decide +kernel)) <|
  nv_oc (n_icmp_ge (off := 18) (tgt := 24) (by decide +kernel) (by decide)) <|
  nv_oc (n_iload_n (k := 2) (by decide +kernel)) <|
  nv_oc (n_if_eq (off := 14) (tgt := 24) (by decide +kernel) (by decide)) <|
  nv_oc (n_aload_n (k := 0) (by decide +kernel)) <|
  nv_oc (n_virtual (M' := M_X0_passHour) (idx := 87) (n := 0) (ci := 0) (N := 11) (D := RX0) (T := TX0) (by decide +kernel) fn_X0_passHour fv_X0_passHour rfl rfl l_X0_87 ⟨by decide, by decide⟩) <|
  nv_oc (n_istore_n (k := 2) (by decide +kernel) (by decide)) <|
  nv_oc (n_iinc (k := 3) (d := 1) (by decide +kernel) (by decide)) <|
  nv_oc (n_goto (off := -17) (tgt := 4) (by decide +kernel) (by decide)) <|
  nv_oc (n_aload_n (k := 0) (by decide +kernel)) <|
  nv_oc (n_getfield (idx := 37) (ci := 0) (k := 0) (N := 11) (D := RX0) (T := TX0) (by decide +kernel) rfl i_X0 (by decide) (by decide) f_X0_37) <|
  nv_oc (n_aload_n (k := 0) (by decide +kernel)) <|
  nv_oc (n_virtual (M' := M_X0_fallenSet) (idx := 96) (n := 0) (ci := 0) (N := 11) (D := RX0) (T := TX0) (by decide +kernel) fn_X0_fallenSet fv_X0_fallenSet rfl rfl l_X0_96 ⟨by decide, by decide⟩) <|
  nv_oc (n_static (M' := M_J6_bitCount_0f7a4) (idx := 99) (n := 1) (by decide +kernel) fn_J6_bitCount_0f7a4 st_J6_bitCount_0f7a4 l_X0_99 ⟨by decide, by decide⟩) <|
  nv_oc (n_isub (by decide +kernel)) <|
  nv_oc (n_iret (by decide +kernel) rfl) <|
  nv_on
def M_X1_forget : nv_MD := (RX1, yX1_forget, cX1_forget, 1, none, 0, 0)
theorem fn_X1_forget : nv_fn M_X1_forget 0 := ⟨List.mem_of_getElem? (i := 258) (by decide +kernel), List.mem_of_getElem? (i := 46) (by decide +kernel), by decide +kernel⟩
theorem fv_X1_forget : nv_fnV M_X1_forget := ⟨List.mem_of_getElem? (i := 256) (by decide +kernel), List.mem_of_getElem? (i := 257) (by decide +kernel)⟩
def P_X1_forget : nv_Pg := [(0, s_al 0 1), (1, s_ki (0) 2), (2, s_pf 1 1 5), (5, s_vr)]
set_option maxRecDepth 100000 in
set_option maxHeartbeats 4000000 in
theorem ok_X1_forget : nv_ok_P M_X1_forget P_X1_forget :=
  nv_oc (n_aload_n (k := 0) (by decide +kernel)) <|
  nv_oc (n_iconst (z := 0) (by decide +kernel)) <|
  nv_oc (n_putfield (idx := 16) (ci := 1) (k := 1) (N := 3) (D := RX1) (T := TX1) tyX1 tyX1_ok nmX1 (by decide +kernel) rfl i_X1 (by decide) (by decide) rfl f_X1_16 rfl) <|
  nv_oc (n_vret (by decide +kernel) rfl) <|
  nv_on
def M_X1_keep : nv_MD := (RX1, yX1_keep, cX1_keep, 2, none, 2, 61)
theorem fn_X1_keep : nv_fn M_X1_keep 1 := ⟨List.mem_of_getElem? (i := 491) (by decide +kernel), List.mem_of_getElem? (i := 46) (by decide +kernel), by decide +kernel⟩
theorem fv_X1_keep : nv_fnV M_X1_keep := ⟨List.mem_of_getElem? (i := 489) (by decide +kernel), List.mem_of_getElem? (i := 490) (by decide +kernel)⟩
def P_X1_keep : nv_Pg := [(0, s_al 0 1), (1, s_gf 1 0 4), (4, s_al 0 5), (5, s_gf 1 2 8), (8, s_a3 9), (9, s_al 1 10), (10, s_cv 0 M_X0_takeMoment 1 13), (13, s_al 0 14), (14, s_al 0 15), (15, s_gf 1 2 18), (18, s_ki (1) 19), (19, s_add 20), (20, s_ki (8) 22), (22, s_rem 23), (23, s_pf 1 2 26), (26, s_al 0 27), (27, s_ki (8) 29), (29, s_al 0 30), (30, s_gf 1 1 33), (33, s_ki (1) 34), (34, s_add 35), (35, s_min 38), (38, s_pf 1 1 41), (41, s_vr)]
set_option maxRecDepth 100000 in
set_option maxHeartbeats 4000000 in
theorem ok_X1_keep : nv_ok_P M_X1_keep P_X1_keep :=
  nv_oc (n_aload_n (k := 0) (by decide +kernel)) <|
  nv_oc (n_getfield (idx := 11) (ci := 1) (k := 0) (N := 3) (D := RX1) (T := TX1) (by decide +kernel) rfl i_X1 (by decide) (by decide) f_X1_11) <|
  nv_oc (n_aload_n (k := 0) (by decide +kernel)) <|
  nv_oc (n_getfield (idx := 20) (ci := 1) (k := 2) (N := 3) (D := RX1) (T := TX1) (by decide +kernel) rfl i_X1 (by decide) (by decide) f_X1_20) <|
  nv_oc (n_aaload3 (by decide +kernel)) <|
  nv_oc (n_aload_n (k := 1) (by decide +kernel)) <|
  nv_oc (n_virtual (M' := M_X0_takeMoment) (idx := 23) (n := 1) (ci := 0) (N := 11) (D := RX0) (T := TX0) (by decide +kernel) fn_X0_takeMoment fv_X0_takeMoment rfl rfl l_X1_23 ⟨by decide, by decide⟩) <|
  nv_oc (n_aload_n (k := 0) (by decide +kernel)) <|
  nv_oc (n_aload_n (k := 0) (by decide +kernel)) <|
  nv_oc (n_getfield (idx := 20) (ci := 1) (k := 2) (N := 3) (D := RX1) (T := TX1) (by decide +kernel) rfl i_X1 (by decide) (by decide) f_X1_20) <|
  nv_oc (n_iconst (z := 1) (by decide +kernel)) <|
  nv_oc (n_iadd (by decide +kernel)) <|
  nv_oc (n_bipush (z := 8) (by decide +kernel) (by decide)) <|
  nv_oc (n_irem (by decide +kernel)) <|
  nv_oc (n_putfield (idx := 20) (ci := 1) (k := 2) (N := 3) (D := RX1) (T := TX1) tyX1 tyX1_ok nmX1 (by decide +kernel) rfl i_X1 (by decide) (by decide) rfl f_X1_20 rfl) <|
  nv_oc (n_aload_n (k := 0) (by decide +kernel)) <|
  nv_oc (n_bipush (z := 8) (by decide +kernel) (by decide)) <|
  nv_oc (n_aload_n (k := 0) (by decide +kernel)) <|
  nv_oc (n_getfield (idx := 16) (ci := 1) (k := 1) (N := 3) (D := RX1) (T := TX1) (by decide +kernel) rfl i_X1 (by decide) (by decide) f_X1_16) <|
  nv_oc (n_iconst (z := 1) (by decide +kernel)) <|
  nv_oc (n_iadd (by decide +kernel)) <|
  nv_oc (n_min (idx := 27) (by decide +kernel) l_X1_27 (by decide) (by decide)) <|
  nv_oc (n_putfield (idx := 16) (ci := 1) (k := 1) (N := 3) (D := RX1) (T := TX1) tyX1 tyX1_ok nmX1 (by decide +kernel) rfl i_X1 (by decide) (by decide) rfl f_X1_16 rfl) <|
  nv_oc (n_vret (by decide +kernel) rfl) <|
  nv_on
def M_X1_giveBack : nv_MD := (RX1, yX1_giveBack, cX1_giveBack, 2, (some .boolean), 2, 61)
theorem fn_X1_giveBack : nv_fn M_X1_giveBack 1 := ⟨List.mem_of_getElem? (i := 547) (by decide +kernel), List.mem_of_getElem? (i := 46) (by decide +kernel), by decide +kernel⟩
theorem fv_X1_giveBack : nv_fnV M_X1_giveBack := ⟨List.mem_of_getElem? (i := 545) (by decide +kernel), List.mem_of_getElem? (i := 546) (by decide +kernel)⟩
def P_X1_giveBack : nv_Pg := [(0, s_al 0 1), (1, s_gf 1 1 4), (4, s_if c_eq 7 9), (7, s_ki (0) 8), (8, s_zr), (9, s_al 0 10), (10, s_dup 11), (11, s_gf 1 1 14), (14, s_ki (1) 15), (15, s_sub 16), (16, s_pf 1 1 19), (19, s_al 0 20), (20, s_al 0 21), (21, s_gf 1 2 24), (24, s_ki (8) 26), (26, s_add 27), (27, s_ki (1) 28), (28, s_sub 29), (29, s_ki (8) 31), (31, s_rem 32), (32, s_pf 1 2 35), (35, s_al 1 36), (36, s_al 0 37), (37, s_gf 1 0 40), (40, s_al 0 41), (41, s_gf 1 2 44), (44, s_a3 45), (45, s_cv 0 M_X0_takeMoment 1 48), (48, s_ki (1) 49), (49, s_zr)]
set_option maxRecDepth 100000 in
set_option maxHeartbeats 4000000 in
theorem ok_X1_giveBack : nv_ok_P M_X1_giveBack P_X1_giveBack :=
  nv_oc (n_aload_n (k := 0) (by decide +kernel)) <|
  nv_oc (n_getfield (idx := 16) (ci := 1) (k := 1) (N := 3) (D := RX1) (T := TX1) (by decide +kernel) rfl i_X1 (by decide) (by decide) f_X1_16) <|
  nv_oc (n_if_ne (off := 5) (tgt := 9) (by decide +kernel) (by decide)) <|
  nv_oc (n_iconst (z := 0) (by decide +kernel)) <|
  nv_oc (n_zret (by decide +kernel) rfl) <|
  nv_oc (n_aload_n (k := 0) (by decide +kernel)) <|
  nv_oc (n_dup (by decide +kernel)) <|
  nv_oc (n_getfield (idx := 16) (ci := 1) (k := 1) (N := 3) (D := RX1) (T := TX1) (by decide +kernel) rfl i_X1 (by decide) (by decide) f_X1_16) <|
  nv_oc (n_iconst (z := 1) (by decide +kernel)) <|
  nv_oc (n_isub (by decide +kernel)) <|
  nv_oc (n_putfield (idx := 16) (ci := 1) (k := 1) (N := 3) (D := RX1) (T := TX1) tyX1 tyX1_ok nmX1 (by decide +kernel) rfl i_X1 (by decide) (by decide) rfl f_X1_16 rfl) <|
  nv_oc (n_aload_n (k := 0) (by decide +kernel)) <|
  nv_oc (n_aload_n (k := 0) (by decide +kernel)) <|
  nv_oc (n_getfield (idx := 20) (ci := 1) (k := 2) (N := 3) (D := RX1) (T := TX1) (by decide +kernel) rfl i_X1 (by decide) (by decide) f_X1_20) <|
  nv_oc (n_bipush (z := 8) (by decide +kernel) (by decide)) <|
  nv_oc (n_iadd (by decide +kernel)) <|
  nv_oc (n_iconst (z := 1) (by decide +kernel)) <|
  nv_oc (n_isub (by decide +kernel)) <|
  nv_oc (n_bipush (z := 8) (by decide +kernel) (by decide)) <|
  nv_oc (n_irem (by decide +kernel)) <|
  nv_oc (n_putfield (idx := 20) (ci := 1) (k := 2) (N := 3) (D := RX1) (T := TX1) tyX1 tyX1_ok nmX1 (by decide +kernel) rfl i_X1 (by decide) (by decide) rfl f_X1_20 rfl) <|
  nv_oc (n_aload_n (k := 1) (by decide +kernel)) <|
  nv_oc (n_aload_n (k := 0) (by decide +kernel)) <|
  nv_oc (n_getfield (idx := 11) (ci := 1) (k := 0) (N := 3) (D := RX1) (T := TX1) (by decide +kernel) rfl i_X1 (by decide) (by decide) f_X1_11) <|
  nv_oc (n_aload_n (k := 0) (by decide +kernel)) <|
  nv_oc (n_getfield (idx := 20) (ci := 1) (k := 2) (N := 3) (D := RX1) (T := TX1) (by decide +kernel) rfl i_X1 (by decide) (by decide) f_X1_20) <|
  nv_oc (n_aaload3 (by decide +kernel)) <|
  nv_oc (n_virtual (M' := M_X0_takeMoment) (idx := 23) (n := 1) (ci := 0) (N := 11) (D := RX0) (T := TX0) (by decide +kernel) fn_X0_takeMoment fv_X0_takeMoment rfl rfl l_X1_23 ⟨by decide, by decide⟩) <|
  nv_oc (n_iconst (z := 1) (by decide +kernel)) <|
  nv_oc (n_zret (by decide +kernel) rfl) <|
  nv_on
def M_X1_takePast : nv_MD := (RX1, yX1_takePast, cX1_takePast, 3, none, 2, 61)
theorem fn_X1_takePast : nv_fn M_X1_takePast 1 := ⟨List.mem_of_getElem? (i := 682) (by decide +kernel), List.mem_of_getElem? (i := 46) (by decide +kernel), by decide +kernel⟩
theorem fv_X1_takePast : nv_fnV M_X1_takePast := ⟨List.mem_of_getElem? (i := 680) (by decide +kernel), List.mem_of_getElem? (i := 681) (by decide +kernel)⟩
def P_X1_takePast : nv_Pg := [(0, s_al 0 1), (1, s_al 1 2), (2, s_gf 1 1 5), (5, s_pf 1 1 8), (8, s_al 0 9), (9, s_al 1 10), (10, s_gf 1 2 13), (13, s_pf 1 2 16), (16, s_ki (0) 17), (17, s_is 2 18), (18, s_il 2 19), (19, s_ki (8) 21), (21, s_ic c_ge 45 24), (24, s_al 0 25), (25, s_gf 1 0 28), (28, s_il 2 29), (29, s_a3 30), (30, s_al 1 31), (31, s_gf 1 0 34), (34, s_il 2 35), (35, s_a3 36), (36, s_cv 0 M_X0_takeMoment 1 39), (39, s_inc 2 (1) 42), (42, s_go 18), (45, s_vr)]
set_option maxRecDepth 100000 in
set_option maxHeartbeats 4000000 in
theorem ok_X1_takePast : nv_ok_P M_X1_takePast P_X1_takePast :=
  nv_oc (n_aload_n (k := 0) (by decide +kernel)) <|
  nv_oc (n_aload_n (k := 1) (by decide +kernel)) <|
  nv_oc (n_getfield (idx := 16) (ci := 1) (k := 1) (N := 3) (D := RX1) (T := TX1) (by decide +kernel) rfl i_X1 (by decide) (by decide) f_X1_16) <|
  nv_oc (n_putfield (idx := 16) (ci := 1) (k := 1) (N := 3) (D := RX1) (T := TX1) tyX1 tyX1_ok nmX1 (by decide +kernel) rfl i_X1 (by decide) (by decide) rfl f_X1_16 rfl) <|
  nv_oc (n_aload_n (k := 0) (by decide +kernel)) <|
  nv_oc (n_aload_n (k := 1) (by decide +kernel)) <|
  nv_oc (n_getfield (idx := 20) (ci := 1) (k := 2) (N := 3) (D := RX1) (T := TX1) (by decide +kernel) rfl i_X1 (by decide) (by decide) f_X1_20) <|
  nv_oc (n_putfield (idx := 20) (ci := 1) (k := 2) (N := 3) (D := RX1) (T := TX1) tyX1 tyX1_ok nmX1 (by decide +kernel) rfl i_X1 (by decide) (by decide) rfl f_X1_20 rfl) <|
  nv_oc (n_iconst (z := 0) (by decide +kernel)) <|
  nv_oc (n_istore_n (k := 2) (by decide +kernel) (by decide)) <|
  nv_oc (n_iload_n (k := 2) (by decide +kernel)) <|
  nv_oc (n_bipush (z := 8) (by decide +kernel) (by decide)) <|
  nv_oc (n_icmp_ge (off := 24) (tgt := 45) (by decide +kernel) (by decide)) <|
  nv_oc (n_aload_n (k := 0) (by decide +kernel)) <|
  nv_oc (n_getfield (idx := 11) (ci := 1) (k := 0) (N := 3) (D := RX1) (T := TX1) (by decide +kernel) rfl i_X1 (by decide) (by decide) f_X1_11) <|
  nv_oc (n_iload_n (k := 2) (by decide +kernel)) <|
  nv_oc (n_aaload3 (by decide +kernel)) <|
  nv_oc (n_aload_n (k := 1) (by decide +kernel)) <|
  nv_oc (n_getfield (idx := 11) (ci := 1) (k := 0) (N := 3) (D := RX1) (T := TX1) (by decide +kernel) rfl i_X1 (by decide) (by decide) f_X1_11) <|
  nv_oc (n_iload_n (k := 2) (by decide +kernel)) <|
  nv_oc (n_aaload3 (by decide +kernel)) <|
  nv_oc (n_virtual (M' := M_X0_takeMoment) (idx := 23) (n := 1) (ci := 0) (N := 11) (D := RX0) (T := TX0) (by decide +kernel) fn_X0_takeMoment fv_X0_takeMoment rfl rfl l_X1_23 ⟨by decide, by decide⟩) <|
  nv_oc (n_iinc (k := 2) (d := 1) (by decide +kernel) (by decide)) <|
  nv_oc (n_goto (off := -24) (tgt := 18) (by decide +kernel) (by decide)) <|
  nv_oc (n_vret (by decide +kernel) rfl) <|
  nv_on
def M_X2_told : nv_MD := (RX2, yX2_told, cX2_told, 2, (some .int), 0, 0)
theorem fn_X2_told : nv_fn M_X2_told 1 := ⟨List.mem_of_getElem? (i := 648) (by decide +kernel), List.mem_of_getElem? (i := 47) (by decide +kernel), by decide +kernel⟩
theorem fv_X2_told : nv_fnV M_X2_told := ⟨List.mem_of_getElem? (i := 646) (by decide +kernel), List.mem_of_getElem? (i := 647) (by decide +kernel)⟩
def P_X2_told : nv_Pg := [(0, s_il 1 1), (1, s_if c_ge 11 4), (4, s_al 0 5), (5, s_gf 2 6 8), (8, s_go 17), (11, s_al 0 12), (12, s_gf 2 2 15), (15, s_il 1 16), (16, s_ia 17), (17, s_ir)]
set_option maxRecDepth 100000 in
set_option maxHeartbeats 4000000 in
theorem ok_X2_told : nv_ok_P M_X2_told P_X2_told :=
  nv_oc (n_iload_n (k := 1) (by decide +kernel)) <|
  nv_oc (n_if_ge (off := 10) (tgt := 11) (by decide +kernel) (by decide)) <|
  nv_oc (n_aload_n (k := 0) (by decide +kernel)) <|
  nv_oc (n_getfield (idx := 25) (ci := 2) (k := 6) (N := 8) (D := RX2) (T := TX2) (by decide +kernel) rfl i_X2 (by decide) (by decide) f_X2_25) <|
  nv_oc (n_goto (off := 9) (tgt := 17) (by decide +kernel) (by decide)) <|
  nv_oc (n_aload_n (k := 0) (by decide +kernel)) <|
  nv_oc (n_getfield (idx := 22) (ci := 2) (k := 2) (N := 8) (D := RX2) (T := TX2) (by decide +kernel) rfl i_X2 (by decide) (by decide) f_X2_22) <|
  nv_oc (n_iload_n (k := 1) (by decide +kernel)) <|
  nv_oc (n_iaload (by decide +kernel)) <|
  nv_oc (n_iret (by decide +kernel) rfl) <|
  nv_on
def M_X5_power : nv_MD := (RX5, yX5_power, cX5_power, 4, (some .int), 0, 0)
theorem fn_X5_power : nv_fn M_X5_power 2 := ⟨List.mem_of_getElem? (i := 617) (by decide +kernel), List.mem_of_getElem? (i := 44) (by decide +kernel), by decide +kernel⟩
theorem st_X5_power : Cond.static (nv_y M_X5_power) ∈ lw_tbl := List.mem_of_getElem? (i := 616) (by decide +kernel)
def P_X5_power : nv_Pg := [(0, s_ki (1) 1), (1, s_is 2 2), (2, s_ki (0) 3), (3, s_is 3 4), (4, s_il 3 5), (5, s_il 1 6), (6, s_ic c_ge 19 9), (9, s_il 2 10), (10, s_il 0 11), (11, s_mul 12), (12, s_is 2 13), (13, s_inc 3 (1) 16), (16, s_go 4), (19, s_il 2 20), (20, s_ir)]
set_option maxRecDepth 100000 in
set_option maxHeartbeats 4000000 in
theorem ok_X5_power : nv_ok_P M_X5_power P_X5_power :=
  nv_oc (n_iconst (z := 1) (by decide +kernel)) <|
  nv_oc (n_istore_n (k := 2) (by decide +kernel) (by decide)) <|
  nv_oc (n_iconst (z := 0) (by decide +kernel)) <|
  nv_oc (n_istore_n (k := 3) (by decide +kernel) (by decide)) <|
  nv_oc (n_iload_n (k := 3) (by decide +kernel)) <|
  nv_oc (n_iload_n (k := 1) (by decide +kernel)) <|
  nv_oc (n_icmp_ge (off := 13) (tgt := 19) (by decide +kernel) (by decide)) <|
  nv_oc (n_iload_n (k := 2) (by decide +kernel)) <|
  nv_oc (n_iload_n (k := 0) (by decide +kernel)) <|
  nv_oc (n_imul (by decide +kernel)) <|
  nv_oc (n_istore_n (k := 2) (by decide +kernel) (by decide)) <|
  nv_oc (n_iinc (k := 3) (d := 1) (by decide +kernel) (by decide)) <|
  nv_oc (n_goto (off := -12) (tgt := 4) (by decide +kernel) (by decide)) <|
  nv_oc (n_iload_n (k := 2) (by decide +kernel)) <|
  nv_oc (n_iret (by decide +kernel) rfl) <|
  nv_on
def M_X2_movesNow : nv_MD := (RX2, yX2_movesNow, cX2_movesNow, 3, (some .int), 0, 0)
theorem fn_X2_movesNow : nv_fn M_X2_movesNow 0 := ⟨List.mem_of_getElem? (i := 625) (by decide +kernel), List.mem_of_getElem? (i := 47) (by decide +kernel), by decide +kernel⟩
theorem fv_X2_movesNow : nv_fnV M_X2_movesNow := ⟨List.mem_of_getElem? (i := 624) (by decide +kernel), List.mem_of_getElem? (i := 19) (by decide +kernel)⟩
def P_X2_movesNow : nv_Pg := [(0, s_ki (0) 1), (1, s_is 1 2), (2, s_ki (0) 3), (3, s_is 2 4), (4, s_il 2 5), (5, s_al 0 6), (6, s_gf 2 0 9), (9, s_gf 0 1 12), (12, s_ic c_ge 42 15), (15, s_al 0 16), (16, s_gf 2 1 19), (19, s_il 2 20), (20, s_ia 21), (21, s_al 0 22), (22, s_gf 2 0 25), (25, s_gf 0 9 28), (28, s_il 2 29), (29, s_ia 30), (30, s_ic c_eq 36 33), (33, s_inc 1 (1) 36), (36, s_inc 2 (1) 39), (39, s_go 4), (42, s_il 1 43), (43, s_ir)]
set_option maxRecDepth 100000 in
set_option maxHeartbeats 4000000 in
theorem ok_X2_movesNow : nv_ok_P M_X2_movesNow P_X2_movesNow :=
  nv_oc (n_iconst (z := 0) (by decide +kernel)) <|
  nv_oc (n_istore_n (k := 1) (by decide +kernel) (by decide)) <|
  nv_oc (n_iconst (z := 0) (by decide +kernel)) <|
  nv_oc (n_istore_n (k := 2) (by decide +kernel) (by decide)) <|
  nv_oc (n_iload_n (k := 2) (by decide +kernel)) <|
  nv_oc (n_aload_n (k := 0) (by decide +kernel)) <|
  nv_oc (n_getfield (idx := 12) (ci := 2) (k := 0) (N := 8) (D := RX2) (T := TX2) (by decide +kernel) rfl i_X2 (by decide) (by decide) f_X2_12) <|
  nv_oc (n_getfield (idx := 56) (ci := 0) (k := 1) (N := 11) (D := RX0) (T := TX0) (by decide +kernel) rfl i_X0 (by decide) (by decide) f_X2_56) <|
  nv_oc (n_icmp_ge (off := 30) (tgt := 42) (by decide +kernel) (by decide)) <|
  nv_oc (n_aload_n (k := 0) (by decide +kernel)) <|
  nv_oc (n_getfield (idx := 18) (ci := 2) (k := 1) (N := 8) (D := RX2) (T := TX2) (by decide +kernel) rfl i_X2 (by decide) (by decide) f_X2_18) <|
  nv_oc (n_iload_n (k := 2) (by decide +kernel)) <|
  nv_oc (n_iaload (by decide +kernel)) <|
  nv_oc (n_aload_n (k := 0) (by decide +kernel)) <|
  nv_oc (n_getfield (idx := 12) (ci := 2) (k := 0) (N := 8) (D := RX2) (T := TX2) (by decide +kernel) rfl i_X2 (by decide) (by decide) f_X2_12) <|
  nv_oc (n_getfield (idx := 75) (ci := 0) (k := 9) (N := 11) (D := RX0) (T := TX0) (by decide +kernel) rfl i_X0 (by decide) (by decide) f_X2_75) <|
  nv_oc (n_iload_n (k := 2) (by decide +kernel)) <|
  nv_oc (n_iaload (by decide +kernel)) <|
  nv_oc (n_icmp_eq (off := 6) (tgt := 36) (by decide +kernel) (by decide)) <|
  nv_oc (n_iinc (k := 1) (d := 1) (by decide +kernel) (by decide)) <|
  nv_oc (n_iinc (k := 2) (d := 1) (by decide +kernel) (by decide)) <|
  nv_oc (n_goto (off := -35) (tgt := 4) (by decide +kernel) (by decide)) <|
  nv_oc (n_iload_n (k := 1) (by decide +kernel)) <|
  nv_oc (n_iret (by decide +kernel) rfl) <|
  nv_on
def M_X2_weigh : nv_MD := (RX2, yX2_weigh, cX2_weigh, 5, none, 4, 96)
theorem fn_X2_weigh : nv_fn M_X2_weigh 1 := ⟨List.mem_of_getElem? (i := 621) (by decide +kernel), List.mem_of_getElem? (i := 47) (by decide +kernel), by decide +kernel⟩
theorem fv_X2_weigh : nv_fnV M_X2_weigh := ⟨List.mem_of_getElem? (i := 620) (by decide +kernel), List.mem_of_getElem? (i := 18) (by decide +kernel)⟩
def P_X2_weigh : nv_Pg := [(0, s_al 0 1), (1, s_cv 2 M_X2_movesNow 0 4), (4, s_is 2 5), (5, s_il 2 6), (6, s_al 0 7), (7, s_gf 2 6 10), (10, s_ic c_ge 20 13), (13, s_al 0 14), (14, s_gf 2 5 17), (17, s_go 26), (20, s_al 0 21), (21, s_gf 2 5 24), (24, s_ki (1) 25), (25, s_sub 26), (26, s_is 3 27), (27, s_il 3 28), (28, s_if c_ge 32 31), (31, s_vr), (32, s_al 1 33), (33, s_al 0 34), (34, s_gf 2 0 37), (37, s_cv 0 M_X0_takeMoment 1 40), (40, s_al 0 41), (41, s_gf 2 1 44), (44, s_ki (0) 45), (45, s_al 1 46), (46, s_gf 0 9 49), (49, s_ki (0) 50), (50, s_ki (5) 51), (51, s_cpi 54), (54, s_al 0 55), (55, s_gf 2 4 58), (58, s_if c_le 72 61), (61, s_al 1 62), (62, s_al 0 63), (63, s_gf 2 4 66), (66, s_cv 0 M_X0_standingBehind 1 69), (69, s_go 86), (72, s_al 1 73), (73, s_ki (60) 75), (75, s_il 3 76), (76, s_min 79), (79, s_al 0 80), (80, s_gf 2 7 83), (83, s_cv 0 M_X0_noonWithin 2 86), (86, s_is 4 88), (88, s_il 4 90), (90, s_il 3 91), (91, s_ic c_gt 119 94), (94, s_al 0 95), (95, s_il 4 97), (97, s_pf 2 5 100), (100, s_al 0 101), (101, s_il 2 102), (102, s_pf 2 6 105), (105, s_al 0 106), (106, s_gf 2 1 109), (109, s_ki (0) 110), (110, s_al 0 111), (111, s_gf 2 2 114), (114, s_ki (0) 115), (115, s_ki (5) 116), (116, s_cpi 119), (119, s_vr)]
set_option maxRecDepth 100000 in
set_option maxHeartbeats 4000000 in
theorem ok_X2_weigh : nv_ok_P M_X2_weigh P_X2_weigh :=
  nv_oc (n_aload_n (k := 0) (by decide +kernel)) <|
  nv_oc (n_virtual (M' := M_X2_movesNow) (idx := 69) (n := 0) (ci := 2) (N := 8) (D := RX2) (T := TX2) (by decide +kernel) fn_X2_movesNow fv_X2_movesNow rfl rfl l_X2_69 ⟨by decide, by decide⟩) <|
  nv_oc (n_istore_n (k := 2) (by decide +kernel) (by decide)) <|
  nv_oc (n_iload_n (k := 2) (by decide +kernel)) <|
  nv_oc (n_aload_n (k := 0) (by decide +kernel)) <|
  nv_oc (n_getfield (idx := 25) (ci := 2) (k := 6) (N := 8) (D := RX2) (T := TX2) (by decide +kernel) rfl i_X2 (by decide) (by decide) f_X2_25) <|
  nv_oc (n_icmp_ge (off := 10) (tgt := 20) (by decide +kernel) (by decide)) <|
  nv_oc (n_aload_n (k := 0) (by decide +kernel)) <|
  nv_oc (n_getfield (idx := 44) (ci := 2) (k := 5) (N := 8) (D := RX2) (T := TX2) (by decide +kernel) rfl i_X2 (by decide) (by decide) f_X2_44) <|
  nv_oc (n_goto (off := 9) (tgt := 26) (by decide +kernel) (by decide)) <|
  nv_oc (n_aload_n (k := 0) (by decide +kernel)) <|
  nv_oc (n_getfield (idx := 44) (ci := 2) (k := 5) (N := 8) (D := RX2) (T := TX2) (by decide +kernel) rfl i_X2 (by decide) (by decide) f_X2_44) <|
  nv_oc (n_iconst (z := 1) (by decide +kernel)) <|
  nv_oc (n_isub (by decide +kernel)) <|
  nv_oc (n_istore_n (k := 3) (by decide +kernel) (by decide)) <|
  nv_oc (n_iload_n (k := 3) (by decide +kernel)) <|
  nv_oc (n_if_ge (off := 4) (tgt := 32) (by decide +kernel) (by decide)) <|
  nv_oc (n_vret (by decide +kernel) rfl) <|
  nv_oc (n_aload_n (k := 1) (by decide +kernel)) <|
  nv_oc (n_aload_n (k := 0) (by decide +kernel)) <|
  nv_oc (n_getfield (idx := 12) (ci := 2) (k := 0) (N := 8) (D := RX2) (T := TX2) (by decide +kernel) rfl i_X2 (by decide) (by decide) f_X2_12) <|
  nv_oc (n_virtual (M' := M_X0_takeMoment) (idx := 72) (n := 1) (ci := 0) (N := 11) (D := RX0) (T := TX0) (by decide +kernel) fn_X0_takeMoment fv_X0_takeMoment rfl rfl l_X2_72 ⟨by decide, by decide⟩) <|
  nv_oc (n_aload_n (k := 0) (by decide +kernel)) <|
  nv_oc (n_getfield (idx := 18) (ci := 2) (k := 1) (N := 8) (D := RX2) (T := TX2) (by decide +kernel) rfl i_X2 (by decide) (by decide) f_X2_18) <|
  nv_oc (n_iconst (z := 0) (by decide +kernel)) <|
  nv_oc (n_aload_n (k := 1) (by decide +kernel)) <|
  nv_oc (n_getfield (idx := 75) (ci := 0) (k := 9) (N := 11) (D := RX0) (T := TX0) (by decide +kernel) rfl i_X0 (by decide) (by decide) f_X2_75) <|
  nv_oc (n_iconst (z := 0) (by decide +kernel)) <|
  nv_oc (n_iconst (z := 5) (by decide +kernel)) <|
  nv_oc (n_cpi (idx := 78) (by decide +kernel) l_X2_78 w_nat w_natst w_natin (by decide) (by decide)) <|
  nv_oc (n_aload_n (k := 0) (by decide +kernel)) <|
  nv_oc (n_getfield (idx := 33) (ci := 2) (k := 4) (N := 8) (D := RX2) (T := TX2) (by decide +kernel) rfl i_X2 (by decide) (by decide) f_X2_33) <|
  nv_oc (n_if_le (off := 14) (tgt := 72) (by decide +kernel) (by decide)) <|
  nv_oc (n_aload_n (k := 1) (by decide +kernel)) <|
  nv_oc (n_aload_n (k := 0) (by decide +kernel)) <|
  nv_oc (n_getfield (idx := 33) (ci := 2) (k := 4) (N := 8) (D := RX2) (T := TX2) (by decide +kernel) rfl i_X2 (by decide) (by decide) f_X2_33) <|
  nv_oc (n_virtual (M' := M_X0_standingBehind) (idx := 84) (n := 1) (ci := 0) (N := 11) (D := RX0) (T := TX0) (by decide +kernel) fn_X0_standingBehind fv_X0_standingBehind rfl rfl l_X2_84 ⟨by decide, by decide⟩) <|
  nv_oc (n_goto (off := 17) (tgt := 86) (by decide +kernel) (by decide)) <|
  nv_oc (n_aload_n (k := 1) (by decide +kernel)) <|
  nv_oc (n_bipush (z := 60) (by decide +kernel) (by decide)) <|
  nv_oc (n_iload_n (k := 3) (by decide +kernel)) <|
  nv_oc (n_min (idx := 88) (by decide +kernel) l_X2_88 (by decide) (by decide)) <|
  nv_oc (n_aload_n (k := 0) (by decide +kernel)) <|
  nv_oc (n_getfield (idx := 51) (ci := 2) (k := 7) (N := 8) (D := RX2) (T := TX2) (by decide +kernel) rfl i_X2 (by decide) (by decide) f_X2_51) <|
  nv_oc (n_virtual (M' := M_X0_noonWithin) (idx := 93) (n := 2) (ci := 0) (N := 11) (D := RX0) (T := TX0) (by decide +kernel) fn_X0_noonWithin fv_X0_noonWithin rfl rfl l_X2_93 ⟨by decide, by decide⟩) <|
  nv_oc (n_istore (k := 4) (by decide +kernel) (by decide)) <|
  nv_oc (n_iload (k := 4) (by decide +kernel)) <|
  nv_oc (n_iload_n (k := 3) (by decide +kernel)) <|
  nv_oc (n_icmp_gt (off := 28) (tgt := 119) (by decide +kernel) (by decide)) <|
  nv_oc (n_aload_n (k := 0) (by decide +kernel)) <|
  nv_oc (n_iload (k := 4) (by decide +kernel)) <|
  nv_oc (n_putfield (idx := 44) (ci := 2) (k := 5) (N := 8) (D := RX2) (T := TX2) tyX2 tyX2_ok nmX2 (by decide +kernel) rfl i_X2 (by decide) (by decide) rfl f_X2_44 rfl) <|
  nv_oc (n_aload_n (k := 0) (by decide +kernel)) <|
  nv_oc (n_iload_n (k := 2) (by decide +kernel)) <|
  nv_oc (n_putfield (idx := 25) (ci := 2) (k := 6) (N := 8) (D := RX2) (T := TX2) tyX2 tyX2_ok nmX2 (by decide +kernel) rfl i_X2 (by decide) (by decide) rfl f_X2_25 rfl) <|
  nv_oc (n_aload_n (k := 0) (by decide +kernel)) <|
  nv_oc (n_getfield (idx := 18) (ci := 2) (k := 1) (N := 8) (D := RX2) (T := TX2) (by decide +kernel) rfl i_X2 (by decide) (by decide) f_X2_18) <|
  nv_oc (n_iconst (z := 0) (by decide +kernel)) <|
  nv_oc (n_aload_n (k := 0) (by decide +kernel)) <|
  nv_oc (n_getfield (idx := 22) (ci := 2) (k := 2) (N := 8) (D := RX2) (T := TX2) (by decide +kernel) rfl i_X2 (by decide) (by decide) f_X2_22) <|
  nv_oc (n_iconst (z := 0) (by decide +kernel)) <|
  nv_oc (n_iconst (z := 5) (by decide +kernel)) <|
  nv_oc (n_cpi (idx := 78) (by decide +kernel) l_X2_78 w_nat w_natst w_natin (by decide) (by decide)) <|
  nv_oc (n_vret (by decide +kernel) rfl) <|
  nv_on
def M_X2_toNextWay : nv_MD := (RX2, yX2_toNextWay, cX2_toNextWay, 2, none, 0, 0)
theorem fn_X2_toNextWay : nv_fn M_X2_toNextWay 0 := ⟨List.mem_of_getElem? (i := 644) (by decide +kernel), List.mem_of_getElem? (i := 47) (by decide +kernel), by decide +kernel⟩
theorem fv_X2_toNextWay : nv_fnV M_X2_toNextWay := ⟨List.mem_of_getElem? (i := 643) (by decide +kernel), List.mem_of_getElem? (i := 20) (by decide +kernel)⟩
def P_X2_toNextWay : nv_Pg := [(0, s_al 0 1), (1, s_gf 2 0 4), (4, s_gf 0 1 7), (7, s_ki (1) 8), (8, s_sub 9), (9, s_is 1 10), (10, s_il 1 11), (11, s_if c_lt 54 14), (14, s_al 0 15), (15, s_gf 2 1 18), (18, s_il 1 19), (19, s_dup2 20), (20, s_ia 21), (21, s_ki (1) 22), (22, s_add 23), (23, s_iw 24), (24, s_al 0 25), (25, s_gf 2 1 28), (28, s_il 1 29), (29, s_ia 30), (30, s_al 0 31), (31, s_gf 2 0 34), (34, s_gf 0 0 37), (37, s_ic c_ge 41 40), (40, s_vr), (41, s_al 0 42), (42, s_gf 2 1 45), (45, s_il 1 46), (46, s_ki (0) 47), (47, s_iw 48), (48, s_inc 1 (-1) 51), (51, s_go 10), (54, s_vr)]
set_option maxRecDepth 100000 in
set_option maxHeartbeats 4000000 in
theorem ok_X2_toNextWay : nv_ok_P M_X2_toNextWay P_X2_toNextWay :=
  nv_oc (n_aload_n (k := 0) (by decide +kernel)) <|
  nv_oc (n_getfield (idx := 12) (ci := 2) (k := 0) (N := 8) (D := RX2) (T := TX2) (by decide +kernel) rfl i_X2 (by decide) (by decide) f_X2_12) <|
  nv_oc (n_getfield (idx := 56) (ci := 0) (k := 1) (N := 11) (D := RX0) (T := TX0) (by decide +kernel) rfl i_X0 (by decide) (by decide) f_X2_56) <|
  nv_oc (n_iconst (z := 1) (by decide +kernel)) <|
  nv_oc (n_isub (by decide +kernel)) <|
  nv_oc (n_istore_n (k := 1) (by decide +kernel) (by decide)) <|
  nv_oc (n_iload_n (k := 1) (by decide +kernel)) <|
  nv_oc (n_if_lt (off := 43) (tgt := 54) (by decide +kernel) (by decide)) <|
  nv_oc (n_aload_n (k := 0) (by decide +kernel)) <|
  nv_oc (n_getfield (idx := 18) (ci := 2) (k := 1) (N := 8) (D := RX2) (T := TX2) (by decide +kernel) rfl i_X2 (by decide) (by decide) f_X2_18) <|
  nv_oc (n_iload_n (k := 1) (by decide +kernel)) <|
  nv_oc (n_dup2 (by decide +kernel)) <|
  nv_oc (n_iaload (by decide +kernel)) <|
  nv_oc (n_iconst (z := 1) (by decide +kernel)) <|
  nv_oc (n_iadd (by decide +kernel)) <|
  nv_oc (n_iastore (by decide +kernel)) <|
  nv_oc (n_aload_n (k := 0) (by decide +kernel)) <|
  nv_oc (n_getfield (idx := 18) (ci := 2) (k := 1) (N := 8) (D := RX2) (T := TX2) (by decide +kernel) rfl i_X2 (by decide) (by decide) f_X2_18) <|
  nv_oc (n_iload_n (k := 1) (by decide +kernel)) <|
  nv_oc (n_iaload (by decide +kernel)) <|
  nv_oc (n_aload_n (k := 0) (by decide +kernel)) <|
  nv_oc (n_getfield (idx := 12) (ci := 2) (k := 0) (N := 8) (D := RX2) (T := TX2) (by decide +kernel) rfl i_X2 (by decide) (by decide) f_X2_12) <|
  nv_oc (n_getfield (idx := 53) (ci := 0) (k := 0) (N := 11) (D := RX0) (T := TX0) (by decide +kernel) rfl i_X0 (by decide) (by decide) f_X2_53) <|
  nv_oc (n_icmp_ge (off := 4) (tgt := 41) (by decide +kernel) (by decide)) <|
  nv_oc (n_vret (by decide +kernel) rfl) <|
  nv_oc (n_aload_n (k := 0) (by decide +kernel)) <|
  nv_oc (n_getfield (idx := 18) (ci := 2) (k := 1) (N := 8) (D := RX2) (T := TX2) (by decide +kernel) rfl i_X2 (by decide) (by decide) f_X2_18) <|
  nv_oc (n_iload_n (k := 1) (by decide +kernel)) <|
  nv_oc (n_iconst (z := 0) (by decide +kernel)) <|
  nv_oc (n_iastore (by decide +kernel)) <|
  nv_oc (n_iinc (k := 1) (d := -1) (by decide +kernel) (by decide)) <|
  nv_oc (n_goto (off := -41) (tgt := 10) (by decide +kernel) (by decide)) <|
  nv_oc (n_vret (by decide +kernel) rfl) <|
  nv_on
def M_X2_make : nv_MD := (RX2, yX2_make, cX2_make, 6, none, 5, 120)
theorem fn_X2_make : nv_fn M_X2_make 3 := ⟨List.mem_of_getElem? (i := 608) (by decide +kernel), List.mem_of_getElem? (i := 47) (by decide +kernel), by decide +kernel⟩
theorem fv_X2_make : nv_fnV M_X2_make := ⟨List.mem_of_getElem? (i := 606) (by decide +kernel), List.mem_of_getElem? (i := 607) (by decide +kernel)⟩
def P_X2_make : nv_Pg := [(0, s_al 0 1), (1, s_gf 2 3 4), (4, s_if c_eq 27 7), (7, s_al 0 8), (8, s_gf 2 4 11), (11, s_il 2 12), (12, s_ic c_eq 15 27), (15, s_al 0 16), (16, s_gf 2 0 19), (19, s_al 1 20), (20, s_cv 0 M_X0_isLike 1 23), (23, s_if c_eq 27 26), (26, s_vr), (27, s_al 0 28), (28, s_ki (1) 29), (29, s_pz 2 3 32), (32, s_al 0 33), (33, s_il 2 34), (34, s_pf 2 4 37), (37, s_al 0 38), (38, s_gf 2 0 41), (41, s_al 1 42), (42, s_cv 0 M_X0_takeAll 1 45), (45, s_al 3 46), (46, s_al 1 47), (47, s_cv 0 M_X0_takeAll 1 50), (50, s_al 0 51), (51, s_ki (62) 53), (53, s_pf 2 5 56), (56, s_al 0 57), (57, s_ki (6) 59), (59, s_pf 2 6 62), (62, s_al 0 63), (63, s_al 1 64), (64, s_cv 0 M_X0_mostCut 0 67), (67, s_pf 2 7 70), (70, s_ki (0) 71), (71, s_is 4 73), (73, s_il 4 75), (75, s_ki (5) 76), (76, s_ic c_ge 93 79), (79, s_al 0 80), (80, s_gf 2 1 83), (83, s_il 4 85), (85, s_ki (0) 86), (86, s_iw 87), (87, s_inc 4 (1) 90), (90, s_go 73), (93, s_al 1 94), (94, s_gf 0 0 97), (97, s_al 1 98), (98, s_gf 0 1 101), (101, s_cs M_X5_power 2 104), (104, s_is 4 106), (106, s_ki (0) 107), (107, s_is 5 109), (109, s_il 5 111), (111, s_il 4 113), (113, s_ic c_ge 131 116), (116, s_al 0 117), (117, s_al 3 118), (118, s_cv 2 M_X2_weigh 1 121), (121, s_al 0 122), (122, s_cv 2 M_X2_toNextWay 0 125), (125, s_inc 5 (1) 128), (128, s_go 109), (131, s_vr)]
set_option maxRecDepth 100000 in
set_option maxHeartbeats 4000000 in
theorem ok_X2_make : nv_ok_P M_X2_make P_X2_make :=
  nv_oc (n_aload_n (k := 0) (by decide +kernel)) <|
  nv_oc (n_getfield (idx := 29) (ci := 2) (k := 3) (N := 8) (D := RX2) (T := TX2) (by decide +kernel) rfl i_X2 (by decide) (by decide) f_X2_29) <|
  nv_oc (n_if_eq (off := 23) (tgt := 27) (by decide +kernel) (by decide)) <|
  nv_oc (n_aload_n (k := 0) (by decide +kernel)) <|
  nv_oc (n_getfield (idx := 33) (ci := 2) (k := 4) (N := 8) (D := RX2) (T := TX2) (by decide +kernel) rfl i_X2 (by decide) (by decide) f_X2_33) <|
  nv_oc (n_iload_n (k := 2) (by decide +kernel)) <|
  nv_oc (n_icmp_ne (off := 15) (tgt := 27) (by decide +kernel) (by decide)) <|
  nv_oc (n_aload_n (k := 0) (by decide +kernel)) <|
  nv_oc (n_getfield (idx := 12) (ci := 2) (k := 0) (N := 8) (D := RX2) (T := TX2) (by decide +kernel) rfl i_X2 (by decide) (by decide) f_X2_12) <|
  nv_oc (n_aload_n (k := 1) (by decide +kernel)) <|
  nv_oc (n_virtual (M' := M_X0_isLike) (idx := 36) (n := 1) (ci := 0) (N := 11) (D := RX0) (T := TX0) (by decide +kernel) fn_X0_isLike fv_X0_isLike rfl rfl l_X2_36 ⟨by decide, by decide⟩) <|
  nv_oc (n_if_eq (off := 4) (tgt := 27) (by decide +kernel) (by decide)) <|
  nv_oc (n_vret (by decide +kernel) rfl) <|
  nv_oc (n_aload_n (k := 0) (by decide +kernel)) <|
  nv_oc (n_iconst (z := 1) (by decide +kernel)) <|
  nv_oc (n_putbool (idx := 29) (ci := 2) (k := 3) (N := 8) (D := RX2) (T := TX2) tyX2 tyX2_ok nmX2 (by decide +kernel) rfl i_X2 (by decide) (by decide) rfl f_X2_29 rfl) <|
  nv_oc (n_aload_n (k := 0) (by decide +kernel)) <|
  nv_oc (n_iload_n (k := 2) (by decide +kernel)) <|
  nv_oc (n_putfield (idx := 33) (ci := 2) (k := 4) (N := 8) (D := RX2) (T := TX2) tyX2 tyX2_ok nmX2 (by decide +kernel) rfl i_X2 (by decide) (by decide) rfl f_X2_33 rfl) <|
  nv_oc (n_aload_n (k := 0) (by decide +kernel)) <|
  nv_oc (n_getfield (idx := 12) (ci := 2) (k := 0) (N := 8) (D := RX2) (T := TX2) (by decide +kernel) rfl i_X2 (by decide) (by decide) f_X2_12) <|
  nv_oc (n_aload_n (k := 1) (by decide +kernel)) <|
  nv_oc (n_virtual (M' := M_X0_takeAll) (idx := 40) (n := 1) (ci := 0) (N := 11) (D := RX0) (T := TX0) (by decide +kernel) fn_X0_takeAll fv_X0_takeAll rfl rfl l_X2_40 ⟨by decide, by decide⟩) <|
  nv_oc (n_aload_n (k := 3) (by decide +kernel)) <|
  nv_oc (n_aload_n (k := 1) (by decide +kernel)) <|
  nv_oc (n_virtual (M' := M_X0_takeAll) (idx := 40) (n := 1) (ci := 0) (N := 11) (D := RX0) (T := TX0) (by decide +kernel) fn_X0_takeAll fv_X0_takeAll rfl rfl l_X2_40 ⟨by decide, by decide⟩) <|
  nv_oc (n_aload_n (k := 0) (by decide +kernel)) <|
  nv_oc (n_bipush (z := 62) (by decide +kernel) (by decide)) <|
  nv_oc (n_putfield (idx := 44) (ci := 2) (k := 5) (N := 8) (D := RX2) (T := TX2) tyX2 tyX2_ok nmX2 (by decide +kernel) rfl i_X2 (by decide) (by decide) rfl f_X2_44 rfl) <|
  nv_oc (n_aload_n (k := 0) (by decide +kernel)) <|
  nv_oc (n_bipush (z := 6) (by decide +kernel) (by decide)) <|
  nv_oc (n_putfield (idx := 25) (ci := 2) (k := 6) (N := 8) (D := RX2) (T := TX2) tyX2 tyX2_ok nmX2 (by decide +kernel) rfl i_X2 (by decide) (by decide) rfl f_X2_25 rfl) <|
  nv_oc (n_aload_n (k := 0) (by decide +kernel)) <|
  nv_oc (n_aload_n (k := 1) (by decide +kernel)) <|
  nv_oc (n_virtual (M' := M_X0_mostCut) (idx := 47) (n := 0) (ci := 0) (N := 11) (D := RX0) (T := TX0) (by decide +kernel) fn_X0_mostCut fv_X0_mostCut rfl rfl l_X2_47 ⟨by decide, by decide⟩) <|
  nv_oc (n_putfield (idx := 51) (ci := 2) (k := 7) (N := 8) (D := RX2) (T := TX2) tyX2 tyX2_ok nmX2 (by decide +kernel) rfl i_X2 (by decide) (by decide) rfl f_X2_51 rfl) <|
  nv_oc (n_iconst (z := 0) (by decide +kernel)) <|
  nv_oc (n_istore (k := 4) (by decide +kernel) (by decide)) <|
  nv_oc (n_iload (k := 4) (by decide +kernel)) <|
  nv_oc (n_iconst (z := 5) (by decide +kernel)) <|
  nv_oc (n_icmp_ge (off := 17) (tgt := 93) (by decide +kernel) (by decide)) <|
  nv_oc (n_aload_n (k := 0) (by decide +kernel)) <|
  nv_oc (n_getfield (idx := 18) (ci := 2) (k := 1) (N := 8) (D := RX2) (T := TX2) (by decide +kernel) rfl i_X2 (by decide) (by decide) f_X2_18) <|
  nv_oc (n_iload (k := 4) (by decide +kernel)) <|
  nv_oc (n_iconst (z := 0) (by decide +kernel)) <|
  nv_oc (n_iastore (by decide +kernel)) <|
  nv_oc (n_iinc (k := 4) (d := 1) (by decide +kernel) (by decide)) <|
  nv_oc (n_goto (off := -17) (tgt := 73) (by decide +kernel) (by decide)) <|
  nv_oc (n_aload_n (k := 1) (by decide +kernel)) <|
  nv_oc (n_getfield (idx := 53) (ci := 0) (k := 0) (N := 11) (D := RX0) (T := TX0) (by decide +kernel) rfl i_X0 (by decide) (by decide) f_X2_53) <|
  nv_oc (n_aload_n (k := 1) (by decide +kernel)) <|
  nv_oc (n_getfield (idx := 56) (ci := 0) (k := 1) (N := 11) (D := RX0) (T := TX0) (by decide +kernel) rfl i_X0 (by decide) (by decide) f_X2_56) <|
  nv_oc (n_staticN (M' := M_X5_power) (idx := 59) (n := 2) (host := "NoonSaws") (by decide +kernel) fn_X5_power st_X5_power (fun _ _ h => h.2.2.1) ⟨by decide, by decide⟩) <|
  nv_oc (n_istore (k := 4) (by decide +kernel) (by decide)) <|
  nv_oc (n_iconst (z := 0) (by decide +kernel)) <|
  nv_oc (n_istore (k := 5) (by decide +kernel) (by decide)) <|
  nv_oc (n_iload (k := 5) (by decide +kernel)) <|
  nv_oc (n_iload (k := 4) (by decide +kernel)) <|
  nv_oc (n_icmp_ge (off := 18) (tgt := 131) (by decide +kernel) (by decide)) <|
  nv_oc (n_aload_n (k := 0) (by decide +kernel)) <|
  nv_oc (n_aload_n (k := 3) (by decide +kernel)) <|
  nv_oc (n_virtual (M' := M_X2_weigh) (idx := 63) (n := 1) (ci := 2) (N := 8) (D := RX2) (T := TX2) (by decide +kernel) fn_X2_weigh fv_X2_weigh rfl rfl l_X2_63 ⟨by decide, by decide⟩) <|
  nv_oc (n_aload_n (k := 0) (by decide +kernel)) <|
  nv_oc (n_virtual (M' := M_X2_toNextWay) (idx := 66) (n := 0) (ci := 2) (N := 8) (D := RX2) (T := TX2) (by decide +kernel) fn_X2_toNextWay fv_X2_toNextWay rfl rfl l_X2_66 ⟨by decide, by decide⟩) <|
  nv_oc (n_iinc (k := 5) (d := 1) (by decide +kernel) (by decide)) <|
  nv_oc (n_goto (off := -19) (tgt := 109) (by decide +kernel) (by decide)) <|
  nv_oc (n_vret (by decide +kernel) rfl) <|
  nv_on
def M_X3_isNothing : nv_MD := (RX3, yX3_isNothing, cX3_isNothing, 1, (some .boolean), 0, 0)
theorem fn_X3_isNothing : nv_fn M_X3_isNothing 0 := ⟨List.mem_of_getElem? (i := 704) (by decide +kernel), List.mem_of_getElem? (i := 49) (by decide +kernel), by decide +kernel⟩
theorem fv_X3_isNothing : nv_fnV M_X3_isNothing := ⟨List.mem_of_getElem? (i := 702) (by decide +kernel), List.mem_of_getElem? (i := 703) (by decide +kernel)⟩
def P_X3_isNothing : nv_Pg := [(0, s_al 0 1), (1, s_gf 3 1 4), (4, s_ki (-1) 5), (5, s_ic c_eq 8 12), (8, s_ki (1) 9), (9, s_go 13), (12, s_ki (0) 13), (13, s_zr)]
set_option maxRecDepth 100000 in
set_option maxHeartbeats 4000000 in
theorem ok_X3_isNothing : nv_ok_P M_X3_isNothing P_X3_isNothing :=
  nv_oc (n_aload_n (k := 0) (by decide +kernel)) <|
  nv_oc (n_getfield (idx := 15) (ci := 3) (k := 1) (N := 3) (D := RX3) (T := TX3) (by decide +kernel) rfl i_X3 (by decide) (by decide) f_X3_15) <|
  nv_oc (n_iconst (z := -1) (by decide +kernel)) <|
  nv_oc (n_icmp_ne (off := 7) (tgt := 12) (by decide +kernel) (by decide)) <|
  nv_oc (n_iconst (z := 1) (by decide +kernel)) <|
  nv_oc (n_goto (off := 4) (tgt := 13) (by decide +kernel) (by decide)) <|
  nv_oc (n_iconst (z := 0) (by decide +kernel)) <|
  nv_oc (n_zret (by decide +kernel) rfl) <|
  nv_on
def M_X3_begin : nv_MD := (RX3, yX3_begin, cX3_begin, 4, none, 0, 0)
theorem fn_X3_begin : nv_fn M_X3_begin 2 := ⟨List.mem_of_getElem? (i := 732) (by decide +kernel), List.mem_of_getElem? (i := 49) (by decide +kernel), by decide +kernel⟩
theorem fv_X3_begin : nv_fnV M_X3_begin := ⟨List.mem_of_getElem? (i := 730) (by decide +kernel), List.mem_of_getElem? (i := 731) (by decide +kernel)⟩
def P_X3_begin : nv_Pg := [(0, s_al 0 1), (1, s_il 1 2), (2, s_pf 3 1 5), (5, s_al 0 6), (6, s_il 2 7), (7, s_pf 3 2 10), (10, s_ki (0) 11), (11, s_is 3 12), (12, s_il 3 13), (13, s_ki (24) 15), (15, s_ic c_ge 31 18), (18, s_al 0 19), (19, s_gf 3 0 22), (22, s_il 3 23), (23, s_kl 0 24), (24, s_lw 25), (25, s_inc 3 (1) 28), (28, s_go 12), (31, s_vr)]
set_option maxRecDepth 100000 in
set_option maxHeartbeats 4000000 in
theorem ok_X3_begin : nv_ok_P M_X3_begin P_X3_begin :=
  nv_oc (n_aload_n (k := 0) (by decide +kernel)) <|
  nv_oc (n_iload_n (k := 1) (by decide +kernel)) <|
  nv_oc (n_putfield (idx := 15) (ci := 3) (k := 1) (N := 3) (D := RX3) (T := TX3) tyX3 tyX3_ok nmX3 (by decide +kernel) rfl i_X3 (by decide) (by decide) rfl f_X3_15 rfl) <|
  nv_oc (n_aload_n (k := 0) (by decide +kernel)) <|
  nv_oc (n_iload_n (k := 2) (by decide +kernel)) <|
  nv_oc (n_putfield (idx := 19) (ci := 3) (k := 2) (N := 3) (D := RX3) (T := TX3) tyX3 tyX3_ok nmX3 (by decide +kernel) rfl i_X3 (by decide) (by decide) rfl f_X3_19 rfl) <|
  nv_oc (n_iconst (z := 0) (by decide +kernel)) <|
  nv_oc (n_istore_n (k := 3) (by decide +kernel) (by decide)) <|
  nv_oc (n_iload_n (k := 3) (by decide +kernel)) <|
  nv_oc (n_bipush (z := 24) (by decide +kernel) (by decide)) <|
  nv_oc (n_icmp_ge (off := 16) (tgt := 31) (by decide +kernel) (by decide)) <|
  nv_oc (n_aload_n (k := 0) (by decide +kernel)) <|
  nv_oc (n_getfield (idx := 9) (ci := 3) (k := 0) (N := 3) (D := RX3) (T := TX3) (by decide +kernel) rfl i_X3 (by decide) (by decide) f_X3_9) <|
  nv_oc (n_iload_n (k := 3) (by decide +kernel)) <|
  nv_oc (n_lconst (z := 0) (v := 0) (by decide +kernel) (by decide)) <|
  nv_oc (n_lastore (by decide +kernel)) <|
  nv_oc (n_iinc (k := 3) (d := 1) (by decide +kernel) (by decide)) <|
  nv_oc (n_goto (off := -16) (tgt := 12) (by decide +kernel) (by decide)) <|
  nv_oc (n_vret (by decide +kernel) rfl) <|
  nv_on
def M_X3_clear : nv_MD := (RX3, yX3_clear, cX3_clear, 1, (some .int), 1, 20)
theorem fn_X3_clear : nv_fn M_X3_clear 0 := ⟨List.mem_of_getElem? (i := 740) (by decide +kernel), List.mem_of_getElem? (i := 49) (by decide +kernel), by decide +kernel⟩
theorem fv_X3_clear : nv_fnV M_X3_clear := ⟨List.mem_of_getElem? (i := 738) (by decide +kernel), List.mem_of_getElem? (i := 739) (by decide +kernel)⟩
def P_X3_clear : nv_Pg := [(0, s_al 0 1), (1, s_cv 3 M_X3_isNothing 0 4), (4, s_if c_eq 10 7), (7, s_ki (-11) 9), (9, s_ir), (10, s_al 0 11), (11, s_ki (-1) 12), (12, s_pf 3 1 15), (15, s_al 0 16), (16, s_gf 3 2 19), (19, s_ir)]
set_option maxRecDepth 100000 in
set_option maxHeartbeats 4000000 in
theorem ok_X3_clear : nv_ok_P M_X3_clear P_X3_clear :=
  nv_oc (n_aload_n (k := 0) (by decide +kernel)) <|
  nv_oc (n_virtual (M' := M_X3_isNothing) (idx := 22) (n := 0) (ci := 3) (N := 3) (D := RX3) (T := TX3) (by decide +kernel) fn_X3_isNothing fv_X3_isNothing rfl rfl l_X3_22 ⟨by decide, by decide⟩) <|
  nv_oc (n_if_eq (off := 6) (tgt := 10) (by decide +kernel) (by decide)) <|
  nv_oc (n_bipush (z := -11) (by decide +kernel) (by decide)) <|
  nv_oc (n_iret (by decide +kernel) rfl) <|
  nv_oc (n_aload_n (k := 0) (by decide +kernel)) <|
  nv_oc (n_iconst (z := -1) (by decide +kernel)) <|
  nv_oc (n_putfield (idx := 15) (ci := 3) (k := 1) (N := 3) (D := RX3) (T := TX3) tyX3 tyX3_ok nmX3 (by decide +kernel) rfl i_X3 (by decide) (by decide) rfl f_X3_15 rfl) <|
  nv_oc (n_aload_n (k := 0) (by decide +kernel)) <|
  nv_oc (n_getfield (idx := 19) (ci := 3) (k := 2) (N := 3) (D := RX3) (T := TX3) (by decide +kernel) rfl i_X3 (by decide) (by decide) f_X3_19) <|
  nv_oc (n_iret (by decide +kernel) rfl) <|
  nv_on
def M_X3_lacks : nv_MD := (RX3, yX3_lacks, cX3_lacks, 3, (some .boolean), 0, 0)
theorem fn_X3_lacks : nv_fn M_X3_lacks 2 := ⟨List.mem_of_getElem? (i := 708) (by decide +kernel), List.mem_of_getElem? (i := 49) (by decide +kernel), by decide +kernel⟩
theorem fv_X3_lacks : nv_fnV M_X3_lacks := ⟨List.mem_of_getElem? (i := 706) (by decide +kernel), List.mem_of_getElem? (i := 707) (by decide +kernel)⟩
def P_X3_lacks : nv_Pg := [(0, s_il 2 1), (1, s_if c_lt 18 4), (4, s_il 1 5), (5, s_if c_lt 18 8), (8, s_il 1 9), (9, s_al 0 10), (10, s_gf 3 2 13), (13, s_il 2 14), (14, s_sub 15), (15, s_ic c_le 22 18), (18, s_ki (1) 19), (19, s_go 23), (22, s_ki (0) 23), (23, s_zr)]
set_option maxRecDepth 100000 in
set_option maxHeartbeats 4000000 in
theorem ok_X3_lacks : nv_ok_P M_X3_lacks P_X3_lacks :=
  nv_oc (n_iload_n (k := 2) (by decide +kernel)) <|
  nv_oc (n_if_lt (off := 17) (tgt := 18) (by decide +kernel) (by decide)) <|
  nv_oc (n_iload_n (k := 1) (by decide +kernel)) <|
  nv_oc (n_if_lt (off := 13) (tgt := 18) (by decide +kernel) (by decide)) <|
  nv_oc (n_iload_n (k := 1) (by decide +kernel)) <|
  nv_oc (n_aload_n (k := 0) (by decide +kernel)) <|
  nv_oc (n_getfield (idx := 19) (ci := 3) (k := 2) (N := 3) (D := RX3) (T := TX3) (by decide +kernel) rfl i_X3 (by decide) (by decide) f_X3_19) <|
  nv_oc (n_iload_n (k := 2) (by decide +kernel)) <|
  nv_oc (n_isub (by decide +kernel)) <|
  nv_oc (n_icmp_le (off := 7) (tgt := 22) (by decide +kernel) (by decide)) <|
  nv_oc (n_iconst (z := 1) (by decide +kernel)) <|
  nv_oc (n_goto (off := 4) (tgt := 23) (by decide +kernel) (by decide)) <|
  nv_oc (n_iconst (z := 0) (by decide +kernel)) <|
  nv_oc (n_zret (by decide +kernel) rfl) <|
  nv_on
def M_X3_refusal : nv_MD := (RX3, yX3_refusal, cX3_refusal, 4, (some .int), 1, 22)
theorem fn_X3_refusal : nv_fn M_X3_refusal 3 := ⟨List.mem_of_getElem? (i := 700) (by decide +kernel), List.mem_of_getElem? (i := 49) (by decide +kernel), by decide +kernel⟩
theorem fv_X3_refusal : nv_fnV M_X3_refusal := ⟨List.mem_of_getElem? (i := 698) (by decide +kernel), List.mem_of_getElem? (i := 699) (by decide +kernel)⟩
def P_X3_refusal : nv_Pg := [(0, s_al 0 1), (1, s_cv 3 M_X3_isNothing 0 4), (4, s_if c_eq 10 7), (7, s_ki (-11) 9), (9, s_ir), (10, s_al 0 11), (11, s_gf 3 1 14), (14, s_il 1 15), (15, s_ic c_eq 21 18), (18, s_ki (-12) 20), (20, s_ir), (21, s_al 0 22), (22, s_il 2 23), (23, s_il 3 24), (24, s_cv 3 M_X3_lacks 2 27), (27, s_if c_eq 35 30), (30, s_ki (-13) 32), (32, s_go 36), (35, s_ki (0) 36), (36, s_ir)]
set_option maxRecDepth 100000 in
set_option maxHeartbeats 4000000 in
theorem ok_X3_refusal : nv_ok_P M_X3_refusal P_X3_refusal :=
  nv_oc (n_aload_n (k := 0) (by decide +kernel)) <|
  nv_oc (n_virtual (M' := M_X3_isNothing) (idx := 22) (n := 0) (ci := 3) (N := 3) (D := RX3) (T := TX3) (by decide +kernel) fn_X3_isNothing fv_X3_isNothing rfl rfl l_X3_22 ⟨by decide, by decide⟩) <|
  nv_oc (n_if_eq (off := 6) (tgt := 10) (by decide +kernel) (by decide)) <|
  nv_oc (n_bipush (z := -11) (by decide +kernel) (by decide)) <|
  nv_oc (n_iret (by decide +kernel) rfl) <|
  nv_oc (n_aload_n (k := 0) (by decide +kernel)) <|
  nv_oc (n_getfield (idx := 15) (ci := 3) (k := 1) (N := 3) (D := RX3) (T := TX3) (by decide +kernel) rfl i_X3 (by decide) (by decide) f_X3_15) <|
  nv_oc (n_iload_n (k := 1) (by decide +kernel)) <|
  nv_oc (n_icmp_eq (off := 6) (tgt := 21) (by decide +kernel) (by decide)) <|
  nv_oc (n_bipush (z := -12) (by decide +kernel) (by decide)) <|
  nv_oc (n_iret (by decide +kernel) rfl) <|
  nv_oc (n_aload_n (k := 0) (by decide +kernel)) <|
  nv_oc (n_iload_n (k := 2) (by decide +kernel)) <|
  nv_oc (n_iload_n (k := 3) (by decide +kernel)) <|
  nv_oc (n_virtual (M' := M_X3_lacks) (idx := 26) (n := 2) (ci := 3) (N := 3) (D := RX3) (T := TX3) (by decide +kernel) fn_X3_lacks fv_X3_lacks rfl rfl l_X3_26 ⟨by decide, by decide⟩) <|
  nv_oc (n_if_eq (off := 8) (tgt := 35) (by decide +kernel) (by decide)) <|
  nv_oc (n_bipush (z := -13) (by decide +kernel) (by decide)) <|
  nv_oc (n_goto (off := 4) (tgt := 36) (by decide +kernel) (by decide)) <|
  nv_oc (n_iconst (z := 0) (by decide +kernel)) <|
  nv_oc (n_iret (by decide +kernel) rfl) <|
  nv_on
def M_X3_put : nv_MD := (RX3, yX3_put, cX3_put, 4, none, 0, 0)
theorem fn_X3_put : nv_fn M_X3_put 2 := ⟨List.mem_of_getElem? (i := 724) (by decide +kernel), List.mem_of_getElem? (i := 49) (by decide +kernel), by decide +kernel⟩
theorem fv_X3_put : nv_fnV M_X3_put := ⟨List.mem_of_getElem? (i := 722) (by decide +kernel), List.mem_of_getElem? (i := 723) (by decide +kernel)⟩
def P_X3_put : nv_Pg := [(0, s_al 0 1), (1, s_gf 3 1 4), (4, s_sw 0 70 [32, 45, 58]), (32, s_al 0 33), (33, s_gf 3 0 36), (36, s_il 1 37), (37, s_ll 2 38), (38, s_l2i 39), (39, s_u1 nv_b8 40), (40, s_i2l 41), (41, s_lw 42), (42, s_go 77), (45, s_al 0 46), (46, s_gf 3 0 49), (49, s_il 1 50), (50, s_ll 2 51), (51, s_l2i 52), (52, s_u1 nv_s16 53), (53, s_i2l 54), (54, s_lw 55), (55, s_go 77), (58, s_al 0 59), (59, s_gf 3 0 62), (62, s_il 1 63), (63, s_ll 2 64), (64, s_l2i 65), (65, s_i2l 66), (66, s_lw 67), (67, s_go 77), (70, s_al 0 71), (71, s_gf 3 0 74), (74, s_il 1 75), (75, s_ll 2 76), (76, s_lw 77), (77, s_vr)]
set_option maxRecDepth 100000 in
set_option maxHeartbeats 4000000 in
theorem ok_X3_put : nv_ok_P M_X3_put P_X3_put :=
  nv_oc (n_aload_n (k := 0) (by decide +kernel)) <|
  nv_oc (n_getfield (idx := 15) (ci := 3) (k := 1) (N := 3) (D := RX3) (T := TX3) (by decide +kernel) rfl i_X3 (by decide) (by decide) f_X3_15) <|
  nv_oc (n_tableswitch (dflt := 66) (lo := 0) (hi := 2) (offs := #[28, 41, 54]) (len := 28) (df := 70) (ts := [32, 45, 58]) (by decide +kernel) (by decide) (by decide) (by decide)) <|
  nv_oc (n_aload_n (k := 0) (by decide +kernel)) <|
  nv_oc (n_getfield (idx := 9) (ci := 3) (k := 0) (N := 3) (D := RX3) (T := TX3) (by decide +kernel) rfl i_X3 (by decide) (by decide) f_X3_9) <|
  nv_oc (n_iload_n (k := 1) (by decide +kernel)) <|
  nv_oc (n_lload_n (k := 2) (by decide +kernel)) <|
  nv_oc (n_l2i (by decide +kernel)) <|
  nv_oc (n_i2b (by decide +kernel)) <|
  nv_oc (n_i2l (by decide +kernel)) <|
  nv_oc (n_lastore (by decide +kernel)) <|
  nv_oc (n_goto (off := 35) (tgt := 77) (by decide +kernel) (by decide)) <|
  nv_oc (n_aload_n (k := 0) (by decide +kernel)) <|
  nv_oc (n_getfield (idx := 9) (ci := 3) (k := 0) (N := 3) (D := RX3) (T := TX3) (by decide +kernel) rfl i_X3 (by decide) (by decide) f_X3_9) <|
  nv_oc (n_iload_n (k := 1) (by decide +kernel)) <|
  nv_oc (n_lload_n (k := 2) (by decide +kernel)) <|
  nv_oc (n_l2i (by decide +kernel)) <|
  nv_oc (n_i2s (by decide +kernel)) <|
  nv_oc (n_i2l (by decide +kernel)) <|
  nv_oc (n_lastore (by decide +kernel)) <|
  nv_oc (n_goto (off := 22) (tgt := 77) (by decide +kernel) (by decide)) <|
  nv_oc (n_aload_n (k := 0) (by decide +kernel)) <|
  nv_oc (n_getfield (idx := 9) (ci := 3) (k := 0) (N := 3) (D := RX3) (T := TX3) (by decide +kernel) rfl i_X3 (by decide) (by decide) f_X3_9) <|
  nv_oc (n_iload_n (k := 1) (by decide +kernel)) <|
  nv_oc (n_lload_n (k := 2) (by decide +kernel)) <|
  nv_oc (n_l2i (by decide +kernel)) <|
  nv_oc (n_i2l (by decide +kernel)) <|
  nv_oc (n_lastore (by decide +kernel)) <|
  nv_oc (n_goto (off := 10) (tgt := 77) (by decide +kernel) (by decide)) <|
  nv_oc (n_aload_n (k := 0) (by decide +kernel)) <|
  nv_oc (n_getfield (idx := 9) (ci := 3) (k := 0) (N := 3) (D := RX3) (T := TX3) (by decide +kernel) rfl i_X3 (by decide) (by decide) f_X3_9) <|
  nv_oc (n_iload_n (k := 1) (by decide +kernel)) <|
  nv_oc (n_lload_n (k := 2) (by decide +kernel)) <|
  nv_oc (n_lastore (by decide +kernel)) <|
  nv_oc (n_vret (by decide +kernel) rfl) <|
  nv_on
def M_X4_addLetter : nv_MD := (RX4, yX4_addLetter, cX4_addLetter, 2, (some .int), 0, 0)
theorem fn_X4_addLetter : nv_fn M_X4_addLetter 1 := ⟨List.mem_of_getElem? (i := 310) (by decide +kernel), List.mem_of_getElem? (i := 48) (by decide +kernel), by decide +kernel⟩
theorem fv_X4_addLetter : nv_fnV M_X4_addLetter := ⟨List.mem_of_getElem? (i := 308) (by decide +kernel), List.mem_of_getElem? (i := 309) (by decide +kernel)⟩
def P_X4_addLetter : nv_Pg := [(0, s_al 0 1), (1, s_gf 4 1 4), (4, s_ki (80) 6), (6, s_ic c_lt 12 9), (9, s_ki (-3) 11), (11, s_ir), (12, s_al 0 13), (13, s_gf 4 0 16), (16, s_al 0 17), (17, s_gf 4 1 20), (20, s_il 1 21), (21, s_cw 22), (22, s_al 0 23), (23, s_dup 24), (24, s_gf 4 1 27), (27, s_ki (1) 28), (28, s_add 29), (29, s_pf 4 1 32), (32, s_al 0 33), (33, s_gf 4 1 36), (36, s_ir)]
set_option maxRecDepth 100000 in
set_option maxHeartbeats 4000000 in
theorem ok_X4_addLetter : nv_ok_P M_X4_addLetter P_X4_addLetter :=
  nv_oc (n_aload_n (k := 0) (by decide +kernel)) <|
  nv_oc (n_getfield (idx := 15) (ci := 4) (k := 1) (N := 3) (D := RX4) (T := TX4) (by decide +kernel) rfl i_X4 (by decide) (by decide) f_X4_15) <|
  nv_oc (n_bipush (z := 80) (by decide +kernel) (by decide)) <|
  nv_oc (n_icmp_lt (off := 6) (tgt := 12) (by decide +kernel) (by decide)) <|
  nv_oc (n_bipush (z := -3) (by decide +kernel) (by decide)) <|
  nv_oc (n_iret (by decide +kernel) rfl) <|
  nv_oc (n_aload_n (k := 0) (by decide +kernel)) <|
  nv_oc (n_getfield (idx := 11) (ci := 4) (k := 0) (N := 3) (D := RX4) (T := TX4) (by decide +kernel) rfl i_X4 (by decide) (by decide) f_X4_11) <|
  nv_oc (n_aload_n (k := 0) (by decide +kernel)) <|
  nv_oc (n_getfield (idx := 15) (ci := 4) (k := 1) (N := 3) (D := RX4) (T := TX4) (by decide +kernel) rfl i_X4 (by decide) (by decide) f_X4_15) <|
  nv_oc (n_iload_n (k := 1) (by decide +kernel)) <|
  nv_oc (n_castore (by decide +kernel)) <|
  nv_oc (n_aload_n (k := 0) (by decide +kernel)) <|
  nv_oc (n_dup (by decide +kernel)) <|
  nv_oc (n_getfield (idx := 15) (ci := 4) (k := 1) (N := 3) (D := RX4) (T := TX4) (by decide +kernel) rfl i_X4 (by decide) (by decide) f_X4_15) <|
  nv_oc (n_iconst (z := 1) (by decide +kernel)) <|
  nv_oc (n_iadd (by decide +kernel)) <|
  nv_oc (n_putfield (idx := 15) (ci := 4) (k := 1) (N := 3) (D := RX4) (T := TX4) tyX4 tyX4_ok nmX4 (by decide +kernel) rfl i_X4 (by decide) (by decide) rfl f_X4_15 rfl) <|
  nv_oc (n_aload_n (k := 0) (by decide +kernel)) <|
  nv_oc (n_getfield (idx := 15) (ci := 4) (k := 1) (N := 3) (D := RX4) (T := TX4) (by decide +kernel) rfl i_X4 (by decide) (by decide) f_X4_15) <|
  nv_oc (n_iret (by decide +kernel) rfl) <|
  nv_on
def M_X4_wipe : nv_MD := (RX4, yX4_wipe, cX4_wipe, 1, none, 0, 0)
theorem fn_X4_wipe : nv_fn M_X4_wipe 0 := ⟨List.mem_of_getElem? (i := 455) (by decide +kernel), List.mem_of_getElem? (i := 48) (by decide +kernel), by decide +kernel⟩
theorem fv_X4_wipe : nv_fnV M_X4_wipe := ⟨List.mem_of_getElem? (i := 453) (by decide +kernel), List.mem_of_getElem? (i := 454) (by decide +kernel)⟩
def P_X4_wipe : nv_Pg := [(0, s_al 0 1), (1, s_ki (0) 2), (2, s_pf 4 1 5), (5, s_vr)]
set_option maxRecDepth 100000 in
set_option maxHeartbeats 4000000 in
theorem ok_X4_wipe : nv_ok_P M_X4_wipe P_X4_wipe :=
  nv_oc (n_aload_n (k := 0) (by decide +kernel)) <|
  nv_oc (n_iconst (z := 0) (by decide +kernel)) <|
  nv_oc (n_putfield (idx := 15) (ci := 4) (k := 1) (N := 3) (D := RX4) (T := TX4) tyX4 tyX4_ok nmX4 (by decide +kernel) rfl i_X4 (by decide) (by decide) rfl f_X4_15 rfl) <|
  nv_oc (n_vret (by decide +kernel) rfl) <|
  nv_on
def M_X4_letterHere : nv_MD := (RX4, yX4_letterHere, cX4_letterHere, 1, (some .char), 0, 0)
theorem fn_X4_letterHere : nv_fn M_X4_letterHere 0 := ⟨List.mem_of_getElem? (i := 342) (by decide +kernel), List.mem_of_getElem? (i := 48) (by decide +kernel), by decide +kernel⟩
theorem fv_X4_letterHere : nv_fnV M_X4_letterHere := ⟨List.mem_of_getElem? (i := 341) (by decide +kernel), List.mem_of_getElem? (i := 7) (by decide +kernel)⟩
def P_X4_letterHere : nv_Pg := [(0, s_al 0 1), (1, s_gf 4 2 4), (4, s_al 0 5), (5, s_gf 4 1 8), (8, s_ic c_ge 23 11), (11, s_al 0 12), (12, s_gf 4 0 15), (15, s_al 0 16), (16, s_gf 4 2 19), (19, s_ca 20), (20, s_go 24), (23, s_ki (0) 24), (24, s_cr)]
set_option maxRecDepth 100000 in
set_option maxHeartbeats 4000000 in
theorem ok_X4_letterHere : nv_ok_P M_X4_letterHere P_X4_letterHere :=
  nv_oc (n_aload_n (k := 0) (by decide +kernel)) <|
  nv_oc (n_getfield (idx := 24) (ci := 4) (k := 2) (N := 3) (D := RX4) (T := TX4) (by decide +kernel) rfl i_X4 (by decide) (by decide) f_X4_24) <|
  nv_oc (n_aload_n (k := 0) (by decide +kernel)) <|
  nv_oc (n_getfield (idx := 15) (ci := 4) (k := 1) (N := 3) (D := RX4) (T := TX4) (by decide +kernel) rfl i_X4 (by decide) (by decide) f_X4_15) <|
  nv_oc (n_icmp_ge (off := 15) (tgt := 23) (by decide +kernel) (by decide)) <|
  nv_oc (n_aload_n (k := 0) (by decide +kernel)) <|
  nv_oc (n_getfield (idx := 11) (ci := 4) (k := 0) (N := 3) (D := RX4) (T := TX4) (by decide +kernel) rfl i_X4 (by decide) (by decide) f_X4_11) <|
  nv_oc (n_aload_n (k := 0) (by decide +kernel)) <|
  nv_oc (n_getfield (idx := 24) (ci := 4) (k := 2) (N := 3) (D := RX4) (T := TX4) (by decide +kernel) rfl i_X4 (by decide) (by decide) f_X4_24) <|
  nv_oc (n_caload (by decide +kernel)) <|
  nv_oc (n_goto (off := 4) (tgt := 24) (by decide +kernel) (by decide)) <|
  nv_oc (n_iconst (z := 0) (by decide +kernel)) <|
  nv_oc (n_cret (by decide +kernel) rfl) <|
  nv_on
def M_X4_nextLetter : nv_MD := (RX4, yX4_nextLetter, cX4_nextLetter, 1, (some .char), 1, 20)
theorem fn_X4_nextLetter : nv_fn M_X4_nextLetter 0 := ⟨List.mem_of_getElem? (i := 338) (by decide +kernel), List.mem_of_getElem? (i := 48) (by decide +kernel), by decide +kernel⟩
theorem fv_X4_nextLetter : nv_fnV M_X4_nextLetter := ⟨List.mem_of_getElem? (i := 337) (by decide +kernel), List.mem_of_getElem? (i := 6) (by decide +kernel)⟩
def P_X4_nextLetter : nv_Pg := [(0, s_al 0 1), (1, s_gf 4 2 4), (4, s_al 0 5), (5, s_gf 4 1 8), (8, s_ic c_ge 38 11), (11, s_al 0 12), (12, s_gf 4 0 15), (15, s_al 0 16), (16, s_gf 4 2 19), (19, s_ca 20), (20, s_ki (32) 22), (22, s_ic c_eq 25 38), (25, s_al 0 26), (26, s_dup 27), (27, s_gf 4 2 30), (30, s_ki (1) 31), (31, s_add 32), (32, s_pf 4 2 35), (35, s_go 0), (38, s_al 0 39), (39, s_cv 4 M_X4_letterHere 0 42), (42, s_cr)]
set_option maxRecDepth 100000 in
set_option maxHeartbeats 4000000 in
theorem ok_X4_nextLetter : nv_ok_P M_X4_nextLetter P_X4_nextLetter :=
  nv_oc (n_aload_n (k := 0) (by decide +kernel)) <|
  nv_oc (n_getfield (idx := 24) (ci := 4) (k := 2) (N := 3) (D := RX4) (T := TX4) (by decide +kernel) rfl i_X4 (by decide) (by decide) f_X4_24) <|
  nv_oc (n_aload_n (k := 0) (by decide +kernel)) <|
  nv_oc (n_getfield (idx := 15) (ci := 4) (k := 1) (N := 3) (D := RX4) (T := TX4) (by decide +kernel) rfl i_X4 (by decide) (by decide) f_X4_15) <|
  nv_oc (n_icmp_ge (off := 30) (tgt := 38) (by decide +kernel) (by decide)) <|
  nv_oc (n_aload_n (k := 0) (by decide +kernel)) <|
  nv_oc (n_getfield (idx := 11) (ci := 4) (k := 0) (N := 3) (D := RX4) (T := TX4) (by decide +kernel) rfl i_X4 (by decide) (by decide) f_X4_11) <|
  nv_oc (n_aload_n (k := 0) (by decide +kernel)) <|
  nv_oc (n_getfield (idx := 24) (ci := 4) (k := 2) (N := 3) (D := RX4) (T := TX4) (by decide +kernel) rfl i_X4 (by decide) (by decide) f_X4_24) <|
  nv_oc (n_caload (by decide +kernel)) <|
  nv_oc (n_bipush (z := 32) (by decide +kernel) (by decide)) <|
  nv_oc (n_icmp_ne (off := 16) (tgt := 38) (by decide +kernel) (by decide)) <|
  nv_oc (n_aload_n (k := 0) (by decide +kernel)) <|
  nv_oc (n_dup (by decide +kernel)) <|
  nv_oc (n_getfield (idx := 24) (ci := 4) (k := 2) (N := 3) (D := RX4) (T := TX4) (by decide +kernel) rfl i_X4 (by decide) (by decide) f_X4_24) <|
  nv_oc (n_iconst (z := 1) (by decide +kernel)) <|
  nv_oc (n_iadd (by decide +kernel)) <|
  nv_oc (n_putfield (idx := 24) (ci := 4) (k := 2) (N := 3) (D := RX4) (T := TX4) tyX4 tyX4_ok nmX4 (by decide +kernel) rfl i_X4 (by decide) (by decide) rfl f_X4_24 rfl) <|
  nv_oc (n_goto (off := -35) (tgt := 0) (by decide +kernel) (by decide)) <|
  nv_oc (n_aload_n (k := 0) (by decide +kernel)) <|
  nv_oc (n_virtual (M' := M_X4_letterHere) (idx := 73) (n := 0) (ci := 4) (N := 3) (D := RX4) (T := TX4) (by decide +kernel) fn_X4_letterHere fv_X4_letterHere rfl rfl l_X4_73 ⟨by decide, by decide⟩) <|
  nv_oc (n_cret (by decide +kernel) rfl) <|
  nv_on
def M_X4_valueOf : nv_MD := (RX4, yX4_valueOf, cX4_valueOf, 1, (some .int), 0, 0)
theorem fn_X4_valueOf : nv_fn M_X4_valueOf 1 := ⟨List.mem_of_getElem? (i := 345) (by decide +kernel), List.mem_of_getElem? (i := 48) (by decide +kernel), by decide +kernel⟩
theorem st_X4_valueOf : Cond.static (nv_y M_X4_valueOf) ∈ lw_tbl := List.mem_of_getElem? (i := 344) (by decide +kernel)
def P_X4_valueOf : nv_Pg := [(0, s_il 0 1), (1, s_ki (48) 3), (3, s_ic c_lt 19 6), (6, s_il 0 7), (7, s_ki (57) 9), (9, s_ic c_gt 19 12), (12, s_il 0 13), (13, s_ki (48) 15), (15, s_sub 16), (16, s_go 20), (19, s_ki (-1) 20), (20, s_ir)]
set_option maxRecDepth 100000 in
set_option maxHeartbeats 4000000 in
theorem ok_X4_valueOf : nv_ok_P M_X4_valueOf P_X4_valueOf :=
  nv_oc (n_iload_n (k := 0) (by decide +kernel)) <|
  nv_oc (n_bipush (z := 48) (by decide +kernel) (by decide)) <|
  nv_oc (n_icmp_lt (off := 16) (tgt := 19) (by decide +kernel) (by decide)) <|
  nv_oc (n_iload_n (k := 0) (by decide +kernel)) <|
  nv_oc (n_bipush (z := 57) (by decide +kernel) (by decide)) <|
  nv_oc (n_icmp_gt (off := 10) (tgt := 19) (by decide +kernel) (by decide)) <|
  nv_oc (n_iload_n (k := 0) (by decide +kernel)) <|
  nv_oc (n_bipush (z := 48) (by decide +kernel) (by decide)) <|
  nv_oc (n_isub (by decide +kernel)) <|
  nv_oc (n_goto (off := 4) (tgt := 20) (by decide +kernel) (by decide)) <|
  nv_oc (n_iconst (z := -1) (by decide +kernel)) <|
  nv_oc (n_iret (by decide +kernel) rfl) <|
  nv_on
def M_X5_outside : nv_MD := (RX5, yX5_outside, cX5_outside, 3, (some .boolean), 0, 0)
theorem fn_X5_outside : nv_fn M_X5_outside 3 := ⟨List.mem_of_getElem? (i := 250) (by decide +kernel), List.mem_of_getElem? (i := 44) (by decide +kernel), by decide +kernel⟩
theorem st_X5_outside : Cond.static (nv_y M_X5_outside) ∈ lw_tbl := List.mem_of_getElem? (i := 249) (by decide +kernel)
def P_X5_outside : nv_Pg := [(0, s_il 0 1), (1, s_il 1 2), (2, s_ic c_lt 10 5), (5, s_il 0 6), (6, s_il 2 7), (7, s_ic c_le 14 10), (10, s_ki (1) 11), (11, s_go 15), (14, s_ki (0) 15), (15, s_zr)]
set_option maxRecDepth 100000 in
set_option maxHeartbeats 4000000 in
theorem ok_X5_outside : nv_ok_P M_X5_outside P_X5_outside :=
  nv_oc (n_iload_n (k := 0) (by decide +kernel)) <|
  nv_oc (n_iload_n (k := 1) (by decide +kernel)) <|
  nv_oc (n_icmp_lt (off := 8) (tgt := 10) (by decide +kernel) (by decide)) <|
  nv_oc (n_iload_n (k := 0) (by decide +kernel)) <|
  nv_oc (n_iload_n (k := 2) (by decide +kernel)) <|
  nv_oc (n_icmp_le (off := 7) (tgt := 14) (by decide +kernel) (by decide)) <|
  nv_oc (n_iconst (z := 1) (by decide +kernel)) <|
  nv_oc (n_goto (off := 4) (tgt := 15) (by decide +kernel) (by decide)) <|
  nv_oc (n_iconst (z := 0) (by decide +kernel)) <|
  nv_oc (n_zret (by decide +kernel) rfl) <|
  nv_on
def M_X4_takeNumber : nv_MD := (RX4, yX4_takeNumber, cX4_takeNumber, 6, (some .int), 2, 40)
theorem fn_X4_takeNumber : nv_fn M_X4_takeNumber 2 := ⟨List.mem_of_getElem? (i := 334) (by decide +kernel), List.mem_of_getElem? (i := 48) (by decide +kernel), by decide +kernel⟩
theorem fv_X4_takeNumber : nv_fnV M_X4_takeNumber := ⟨List.mem_of_getElem? (i := 333) (by decide +kernel), List.mem_of_getElem? (i := 5) (by decide +kernel)⟩
def P_X4_takeNumber : nv_Pg := [(0, s_al 0 1), (1, s_cv 4 M_X4_nextLetter 0 4), (4, s_cs M_X4_valueOf 1 7), (7, s_is 3 8), (8, s_il 3 9), (9, s_if c_ge 14 12), (12, s_ki (-1) 13), (13, s_ir), (14, s_al 0 15), (15, s_gf 4 2 18), (18, s_is 4 20), (20, s_al 0 21), (21, s_dup 22), (22, s_gf 4 2 25), (25, s_ki (1) 26), (26, s_add 27), (27, s_pf 4 2 30), (30, s_al 0 31), (31, s_cv 4 M_X4_letterHere 0 34), (34, s_cs M_X4_valueOf 1 37), (37, s_is 5 39), (39, s_il 5 41), (41, s_if c_lt 62 44), (44, s_al 0 45), (45, s_dup 46), (46, s_gf 4 2 49), (49, s_ki (1) 50), (50, s_add 51), (51, s_pf 4 2 54), (54, s_ki (10) 56), (56, s_il 3 57), (57, s_mul 58), (58, s_il 5 60), (60, s_add 61), (61, s_is 3 62), (62, s_il 3 63), (63, s_il 1 64), (64, s_il 2 65), (65, s_cs M_X5_outside 3 68), (68, s_if c_eq 79 71), (71, s_al 0 72), (72, s_il 4 74), (74, s_pf 4 2 77), (77, s_ki (-1) 78), (78, s_ir), (79, s_il 3 80), (80, s_ir)]
set_option maxRecDepth 100000 in
set_option maxHeartbeats 4000000 in
theorem ok_X4_takeNumber : nv_ok_P M_X4_takeNumber P_X4_takeNumber :=
  nv_oc (n_aload_n (k := 0) (by decide +kernel)) <|
  nv_oc (n_virtual (M' := M_X4_nextLetter) (idx := 38) (n := 0) (ci := 4) (N := 3) (D := RX4) (T := TX4) (by decide +kernel) fn_X4_nextLetter fv_X4_nextLetter rfl rfl l_X4_38 ⟨by decide, by decide⟩) <|
  nv_oc (n_static (M' := M_X4_valueOf) (idx := 76) (n := 1) (by decide +kernel) fn_X4_valueOf st_X4_valueOf l_X4_76 ⟨by decide, by decide⟩) <|
  nv_oc (n_istore_n (k := 3) (by decide +kernel) (by decide)) <|
  nv_oc (n_iload_n (k := 3) (by decide +kernel)) <|
  nv_oc (n_if_ge (off := 5) (tgt := 14) (by decide +kernel) (by decide)) <|
  nv_oc (n_iconst (z := -1) (by decide +kernel)) <|
  nv_oc (n_iret (by decide +kernel) rfl) <|
  nv_oc (n_aload_n (k := 0) (by decide +kernel)) <|
  nv_oc (n_getfield (idx := 24) (ci := 4) (k := 2) (N := 3) (D := RX4) (T := TX4) (by decide +kernel) rfl i_X4 (by decide) (by decide) f_X4_24) <|
  nv_oc (n_istore (k := 4) (by decide +kernel) (by decide)) <|
  nv_oc (n_aload_n (k := 0) (by decide +kernel)) <|
  nv_oc (n_dup (by decide +kernel)) <|
  nv_oc (n_getfield (idx := 24) (ci := 4) (k := 2) (N := 3) (D := RX4) (T := TX4) (by decide +kernel) rfl i_X4 (by decide) (by decide) f_X4_24) <|
  nv_oc (n_iconst (z := 1) (by decide +kernel)) <|
  nv_oc (n_iadd (by decide +kernel)) <|
  nv_oc (n_putfield (idx := 24) (ci := 4) (k := 2) (N := 3) (D := RX4) (T := TX4) tyX4 tyX4_ok nmX4 (by decide +kernel) rfl i_X4 (by decide) (by decide) rfl f_X4_24 rfl) <|
  nv_oc (n_aload_n (k := 0) (by decide +kernel)) <|
  nv_oc (n_virtual (M' := M_X4_letterHere) (idx := 73) (n := 0) (ci := 4) (N := 3) (D := RX4) (T := TX4) (by decide +kernel) fn_X4_letterHere fv_X4_letterHere rfl rfl l_X4_73 ⟨by decide, by decide⟩) <|
  nv_oc (n_static (M' := M_X4_valueOf) (idx := 76) (n := 1) (by decide +kernel) fn_X4_valueOf st_X4_valueOf l_X4_76 ⟨by decide, by decide⟩) <|
  nv_oc (n_istore (k := 5) (by decide +kernel) (by decide)) <|
  nv_oc (n_iload (k := 5) (by decide +kernel)) <|
  nv_oc (n_if_lt (off := 21) (tgt := 62) (by decide +kernel) (by decide)) <|
  nv_oc (n_aload_n (k := 0) (by decide +kernel)) <|
  nv_oc (n_dup (by decide +kernel)) <|
  nv_oc (n_getfield (idx := 24) (ci := 4) (k := 2) (N := 3) (D := RX4) (T := TX4) (by decide +kernel) rfl i_X4 (by decide) (by decide) f_X4_24) <|
  nv_oc (n_iconst (z := 1) (by decide +kernel)) <|
  nv_oc (n_iadd (by decide +kernel)) <|
  nv_oc (n_putfield (idx := 24) (ci := 4) (k := 2) (N := 3) (D := RX4) (T := TX4) tyX4 tyX4_ok nmX4 (by decide +kernel) rfl i_X4 (by decide) (by decide) rfl f_X4_24 rfl) <|
  nv_oc (n_bipush (z := 10) (by decide +kernel) (by decide)) <|
  nv_oc (n_iload_n (k := 3) (by decide +kernel)) <|
  nv_oc (n_imul (by decide +kernel)) <|
  nv_oc (n_iload (k := 5) (by decide +kernel)) <|
  nv_oc (n_iadd (by decide +kernel)) <|
  nv_oc (n_istore_n (k := 3) (by decide +kernel) (by decide)) <|
  nv_oc (n_iload_n (k := 3) (by decide +kernel)) <|
  nv_oc (n_iload_n (k := 1) (by decide +kernel)) <|
  nv_oc (n_iload_n (k := 2) (by decide +kernel)) <|
  nv_oc (n_staticN (M' := M_X5_outside) (idx := 80) (n := 3) (host := "NoonSaws") (by decide +kernel) fn_X5_outside st_X5_outside (fun _ _ h => h.2.1) ⟨by decide, by decide⟩) <|
  nv_oc (n_if_eq (off := 11) (tgt := 79) (by decide +kernel) (by decide)) <|
  nv_oc (n_aload_n (k := 0) (by decide +kernel)) <|
  nv_oc (n_iload (k := 4) (by decide +kernel)) <|
  nv_oc (n_putfield (idx := 24) (ci := 4) (k := 2) (N := 3) (D := RX4) (T := TX4) tyX4 tyX4_ok nmX4 (by decide +kernel) rfl i_X4 (by decide) (by decide) rfl f_X4_24 rfl) <|
  nv_oc (n_iconst (z := -1) (by decide +kernel)) <|
  nv_oc (n_iret (by decide +kernel) rfl) <|
  nv_oc (n_iload_n (k := 3) (by decide +kernel)) <|
  nv_oc (n_iret (by decide +kernel) rfl) <|
  nv_on
def M_X4_takes : nv_MD := (RX4, yX4_takes, cX4_takes, 2, (some .boolean), 2, 40)
theorem fn_X4_takes : nv_fn M_X4_takes 1 := ⟨List.mem_of_getElem? (i := 350) (by decide +kernel), List.mem_of_getElem? (i := 48) (by decide +kernel), by decide +kernel⟩
theorem fv_X4_takes : nv_fnV M_X4_takes := ⟨List.mem_of_getElem? (i := 349) (by decide +kernel), List.mem_of_getElem? (i := 8) (by decide +kernel)⟩
def P_X4_takes : nv_Pg := [(0, s_al 0 1), (1, s_cv 4 M_X4_nextLetter 0 4), (4, s_il 1 5), (5, s_ic c_eq 10 8), (8, s_ki (0) 9), (9, s_zr), (10, s_al 0 11), (11, s_dup 12), (12, s_gf 4 2 15), (15, s_ki (1) 16), (16, s_add 17), (17, s_pf 4 2 20), (20, s_ki (1) 21), (21, s_zr)]
set_option maxRecDepth 100000 in
set_option maxHeartbeats 4000000 in
theorem ok_X4_takes : nv_ok_P M_X4_takes P_X4_takes :=
  nv_oc (n_aload_n (k := 0) (by decide +kernel)) <|
  nv_oc (n_virtual (M' := M_X4_nextLetter) (idx := 38) (n := 0) (ci := 4) (N := 3) (D := RX4) (T := TX4) (by decide +kernel) fn_X4_nextLetter fv_X4_nextLetter rfl rfl l_X4_38 ⟨by decide, by decide⟩) <|
  nv_oc (n_iload_n (k := 1) (by decide +kernel)) <|
  nv_oc (n_icmp_eq (off := 5) (tgt := 10) (by decide +kernel) (by decide)) <|
  nv_oc (n_iconst (z := 0) (by decide +kernel)) <|
  nv_oc (n_zret (by decide +kernel) rfl) <|
  nv_oc (n_aload_n (k := 0) (by decide +kernel)) <|
  nv_oc (n_dup (by decide +kernel)) <|
  nv_oc (n_getfield (idx := 24) (ci := 4) (k := 2) (N := 3) (D := RX4) (T := TX4) (by decide +kernel) rfl i_X4 (by decide) (by decide) f_X4_24) <|
  nv_oc (n_iconst (z := 1) (by decide +kernel)) <|
  nv_oc (n_iadd (by decide +kernel)) <|
  nv_oc (n_putfield (idx := 24) (ci := 4) (k := 2) (N := 3) (D := RX4) (T := TX4) tyX4 tyX4_ok nmX4 (by decide +kernel) rfl i_X4 (by decide) (by decide) rfl f_X4_24 rfl) <|
  nv_oc (n_iconst (z := 1) (by decide +kernel)) <|
  nv_oc (n_zret (by decide +kernel) rfl) <|
  nv_on
def M_X4_takeDigit : nv_MD := (RX4, yX4_takeDigit, cX4_takeDigit, 3, (some .int), 2, 40)
theorem fn_X4_takeDigit : nv_fn M_X4_takeDigit 1 := ⟨List.mem_of_getElem? (i := 354) (by decide +kernel), List.mem_of_getElem? (i := 48) (by decide +kernel), by decide +kernel⟩
theorem fv_X4_takeDigit : nv_fnV M_X4_takeDigit := ⟨List.mem_of_getElem? (i := 353) (by decide +kernel), List.mem_of_getElem? (i := 9) (by decide +kernel)⟩
def P_X4_takeDigit : nv_Pg := [(0, s_al 0 1), (1, s_cv 4 M_X4_nextLetter 0 4), (4, s_cs M_X4_valueOf 1 7), (7, s_is 2 8), (8, s_il 2 9), (9, s_if c_lt 17 12), (12, s_il 2 13), (13, s_il 1 14), (14, s_ic c_le 19 17), (17, s_ki (-1) 18), (18, s_ir), (19, s_al 0 20), (20, s_dup 21), (21, s_gf 4 2 24), (24, s_ki (1) 25), (25, s_add 26), (26, s_pf 4 2 29), (29, s_il 2 30), (30, s_ir)]
set_option maxRecDepth 100000 in
set_option maxHeartbeats 4000000 in
theorem ok_X4_takeDigit : nv_ok_P M_X4_takeDigit P_X4_takeDigit :=
  nv_oc (n_aload_n (k := 0) (by decide +kernel)) <|
  nv_oc (n_virtual (M' := M_X4_nextLetter) (idx := 38) (n := 0) (ci := 4) (N := 3) (D := RX4) (T := TX4) (by decide +kernel) fn_X4_nextLetter fv_X4_nextLetter rfl rfl l_X4_38 ⟨by decide, by decide⟩) <|
  nv_oc (n_static (M' := M_X4_valueOf) (idx := 76) (n := 1) (by decide +kernel) fn_X4_valueOf st_X4_valueOf l_X4_76 ⟨by decide, by decide⟩) <|
  nv_oc (n_istore_n (k := 2) (by decide +kernel) (by decide)) <|
  nv_oc (n_iload_n (k := 2) (by decide +kernel)) <|
  nv_oc (n_if_lt (off := 8) (tgt := 17) (by decide +kernel) (by decide)) <|
  nv_oc (n_iload_n (k := 2) (by decide +kernel)) <|
  nv_oc (n_iload_n (k := 1) (by decide +kernel)) <|
  nv_oc (n_icmp_le (off := 5) (tgt := 19) (by decide +kernel) (by decide)) <|
  nv_oc (n_iconst (z := -1) (by decide +kernel)) <|
  nv_oc (n_iret (by decide +kernel) rfl) <|
  nv_oc (n_aload_n (k := 0) (by decide +kernel)) <|
  nv_oc (n_dup (by decide +kernel)) <|
  nv_oc (n_getfield (idx := 24) (ci := 4) (k := 2) (N := 3) (D := RX4) (T := TX4) (by decide +kernel) rfl i_X4 (by decide) (by decide) f_X4_24) <|
  nv_oc (n_iconst (z := 1) (by decide +kernel)) <|
  nv_oc (n_iadd (by decide +kernel)) <|
  nv_oc (n_putfield (idx := 24) (ci := 4) (k := 2) (N := 3) (D := RX4) (T := TX4) tyX4 tyX4_ok nmX4 (by decide +kernel) rfl i_X4 (by decide) (by decide) rfl f_X4_24 rfl) <|
  nv_oc (n_iload_n (k := 2) (by decide +kernel)) <|
  nv_oc (n_iret (by decide +kernel) rfl) <|
  nv_on
end
section
def M_X4_tellPlank : nv_MD := (RX4, yX4_tellPlank, cX4_tellPlank, 5, (some .boolean), 3, 65)
theorem fn_X4_tellPlank : nv_fn M_X4_tellPlank 1 := ⟨List.mem_of_getElem? (i := 330) (by decide +kernel), List.mem_of_getElem? (i := 48) (by decide +kernel), by decide +kernel⟩
theorem fv_X4_tellPlank : nv_fnV M_X4_tellPlank := ⟨List.mem_of_getElem? (i := 329) (by decide +kernel), List.mem_of_getElem? (i := 4) (by decide +kernel)⟩
def P_X4_tellPlank : nv_Pg := [(0, s_al 0 1), (1, s_ki (1) 2), (2, s_ki (99) 4), (4, s_cv 4 M_X4_takeNumber 2 7), (7, s_is 2 8), (8, s_il 2 9), (9, s_if c_ge 14 12), (12, s_ki (0) 13), (13, s_zr), (14, s_al 0 15), (15, s_ki (37) 17), (17, s_cv 4 M_X4_takes 1 20), (20, s_if c_eq 32 23), (23, s_al 0 24), (24, s_ki (9) 26), (26, s_cv 4 M_X4_takeDigit 1 29), (29, s_go 33), (32, s_ki (0) 33), (33, s_is 3 34), (34, s_il 3 35), (35, s_if c_ge 40 38), (38, s_ki (0) 39), (39, s_zr), (40, s_al 0 41), (41, s_ki (45) 43), (43, s_cv 4 M_X4_takes 1 46), (46, s_if c_eq 58 49), (49, s_al 0 50), (50, s_ki (0) 51), (51, s_il 2 52), (52, s_cv 4 M_X4_takeNumber 2 55), (55, s_go 59), (58, s_ki (0) 59), (59, s_is 4 61), (61, s_il 4 63), (63, s_if c_lt 83 66), (66, s_al 1 67), (67, s_il 2 68), (68, s_il 3 69), (69, s_il 2 70), (70, s_il 4 72), (72, s_sub 73), (73, s_cv 0 M_X0_addPlank 3 76), (76, s_if c_lt 83 79), (79, s_ki (1) 80), (80, s_go 84), (83, s_ki (0) 84), (84, s_zr)]
set_option maxRecDepth 100000 in
set_option maxHeartbeats 4000000 in
theorem ok_X4_tellPlank : nv_ok_P M_X4_tellPlank P_X4_tellPlank :=
  nv_oc (n_aload_n (k := 0) (by decide +kernel)) <|
  nv_oc (n_iconst (z := 1) (by decide +kernel)) <|
  nv_oc (n_bipush (z := 99) (by decide +kernel) (by decide)) <|
  nv_oc (n_virtual (M' := M_X4_takeNumber) (idx := 48) (n := 2) (ci := 4) (N := 3) (D := RX4) (T := TX4) (by decide +kernel) fn_X4_takeNumber fv_X4_takeNumber rfl rfl l_X4_48 ⟨by decide, by decide⟩) <|
  nv_oc (n_istore_n (k := 2) (by decide +kernel) (by decide)) <|
  nv_oc (n_iload_n (k := 2) (by decide +kernel)) <|
  nv_oc (n_if_ge (off := 5) (tgt := 14) (by decide +kernel) (by decide)) <|
  nv_oc (n_iconst (z := 0) (by decide +kernel)) <|
  nv_oc (n_zret (by decide +kernel) rfl) <|
  nv_oc (n_aload_n (k := 0) (by decide +kernel)) <|
  nv_oc (n_bipush (z := 37) (by decide +kernel) (by decide)) <|
  nv_oc (n_virtual (M' := M_X4_takes) (idx := 31) (n := 1) (ci := 4) (N := 3) (D := RX4) (T := TX4) (by decide +kernel) fn_X4_takes fv_X4_takes rfl rfl l_X4_31 ⟨by decide, by decide⟩) <|
  nv_oc (n_if_eq (off := 12) (tgt := 32) (by decide +kernel) (by decide)) <|
  nv_oc (n_aload_n (k := 0) (by decide +kernel)) <|
  nv_oc (n_bipush (z := 9) (by decide +kernel) (by decide)) <|
  nv_oc (n_virtual (M' := M_X4_takeDigit) (idx := 52) (n := 1) (ci := 4) (N := 3) (D := RX4) (T := TX4) (by decide +kernel) fn_X4_takeDigit fv_X4_takeDigit rfl rfl l_X4_52 ⟨by decide, by decide⟩) <|
  nv_oc (n_goto (off := 4) (tgt := 33) (by decide +kernel) (by decide)) <|
  nv_oc (n_iconst (z := 0) (by decide +kernel)) <|
  nv_oc (n_istore_n (k := 3) (by decide +kernel) (by decide)) <|
  nv_oc (n_iload_n (k := 3) (by decide +kernel)) <|
  nv_oc (n_if_ge (off := 5) (tgt := 40) (by decide +kernel) (by decide)) <|
  nv_oc (n_iconst (z := 0) (by decide +kernel)) <|
  nv_oc (n_zret (by decide +kernel) rfl) <|
  nv_oc (n_aload_n (k := 0) (by decide +kernel)) <|
  nv_oc (n_bipush (z := 45) (by decide +kernel) (by decide)) <|
  nv_oc (n_virtual (M' := M_X4_takes) (idx := 31) (n := 1) (ci := 4) (N := 3) (D := RX4) (T := TX4) (by decide +kernel) fn_X4_takes fv_X4_takes rfl rfl l_X4_31 ⟨by decide, by decide⟩) <|
  nv_oc (n_if_eq (off := 12) (tgt := 58) (by decide +kernel) (by decide)) <|
  nv_oc (n_aload_n (k := 0) (by decide +kernel)) <|
  nv_oc (n_iconst (z := 0) (by decide +kernel)) <|
  nv_oc (n_iload_n (k := 2) (by decide +kernel)) <|
  nv_oc (n_virtual (M' := M_X4_takeNumber) (idx := 48) (n := 2) (ci := 4) (N := 3) (D := RX4) (T := TX4) (by decide +kernel) fn_X4_takeNumber fv_X4_takeNumber rfl rfl l_X4_48 ⟨by decide, by decide⟩) <|
  nv_oc (n_goto (off := 4) (tgt := 59) (by decide +kernel) (by decide)) <|
  nv_oc (n_iconst (z := 0) (by decide +kernel)) <|
  nv_oc (n_istore (k := 4) (by decide +kernel) (by decide)) <|
  nv_oc (n_iload (k := 4) (by decide +kernel)) <|
  nv_oc (n_if_lt (off := 20) (tgt := 83) (by decide +kernel) (by decide)) <|
  nv_oc (n_aload_n (k := 1) (by decide +kernel)) <|
  nv_oc (n_iload_n (k := 2) (by decide +kernel)) <|
  nv_oc (n_iload_n (k := 3) (by decide +kernel)) <|
  nv_oc (n_iload_n (k := 2) (by decide +kernel)) <|
  nv_oc (n_iload (k := 4) (by decide +kernel)) <|
  nv_oc (n_isub (by decide +kernel)) <|
  nv_oc (n_virtual (M' := M_X0_addPlank) (idx := 56) (n := 3) (ci := 0) (N := 11) (D := RX0) (T := TX0) (by decide +kernel) fn_X0_addPlank fv_X0_addPlank rfl rfl l_X4_56 ⟨by decide, by decide⟩) <|
  nv_oc (n_if_lt (off := 7) (tgt := 83) (by decide +kernel) (by decide)) <|
  nv_oc (n_iconst (z := 1) (by decide +kernel)) <|
  nv_oc (n_goto (off := 4) (tgt := 84) (by decide +kernel) (by decide)) <|
  nv_oc (n_iconst (z := 0) (by decide +kernel)) <|
  nv_oc (n_zret (by decide +kernel) rfl) <|
  nv_on
def M_X4_tellPlanks : nv_MD := (RX4, yX4_tellPlanks, cX4_tellPlanks, 3, (some .boolean), 4, 89)
theorem fn_X4_tellPlanks : nv_fn M_X4_tellPlanks 1 := ⟨List.mem_of_getElem? (i := 326) (by decide +kernel), List.mem_of_getElem? (i := 48) (by decide +kernel), by decide +kernel⟩
theorem fv_X4_tellPlanks : nv_fnV M_X4_tellPlanks := ⟨List.mem_of_getElem? (i := 325) (by decide +kernel), List.mem_of_getElem? (i := 3) (by decide +kernel)⟩
def P_X4_tellPlanks : nv_Pg := [(0, s_ki (0) 1), (1, s_is 2 2), (2, s_il 2 3), (3, s_ki (5) 4), (4, s_ic c_ge 39 7), (7, s_al 0 8), (8, s_al 1 9), (9, s_cv 4 M_X4_tellPlank 1 12), (12, s_if c_eq 15 17), (15, s_ki (0) 16), (16, s_zr), (17, s_il 2 18), (18, s_ki (4) 19), (19, s_ic c_eq 31 22), (22, s_al 0 23), (23, s_ki (44) 25), (25, s_cv 4 M_X4_takes 1 28), (28, s_if c_eq 31 33), (31, s_ki (1) 32), (32, s_zr), (33, s_inc 2 (1) 36), (36, s_go 2), (39, s_ki (1) 40), (40, s_zr)]
set_option maxRecDepth 100000 in
set_option maxHeartbeats 4000000 in
theorem ok_X4_tellPlanks : nv_ok_P M_X4_tellPlanks P_X4_tellPlanks :=
  nv_oc (n_iconst (z := 0) (by decide +kernel)) <|
  nv_oc (n_istore_n (k := 2) (by decide +kernel) (by decide)) <|
  nv_oc (n_iload_n (k := 2) (by decide +kernel)) <|
  nv_oc (n_iconst (z := 5) (by decide +kernel)) <|
  nv_oc (n_icmp_ge (off := 35) (tgt := 39) (by decide +kernel) (by decide)) <|
  nv_oc (n_aload_n (k := 0) (by decide +kernel)) <|
  nv_oc (n_aload_n (k := 1) (by decide +kernel)) <|
  nv_oc (n_virtual (M' := M_X4_tellPlank) (idx := 45) (n := 1) (ci := 4) (N := 3) (D := RX4) (T := TX4) (by decide +kernel) fn_X4_tellPlank fv_X4_tellPlank rfl rfl l_X4_45 ⟨by decide, by decide⟩) <|
  nv_oc (n_if_ne (off := 5) (tgt := 17) (by decide +kernel) (by decide)) <|
  nv_oc (n_iconst (z := 0) (by decide +kernel)) <|
  nv_oc (n_zret (by decide +kernel) rfl) <|
  nv_oc (n_iload_n (k := 2) (by decide +kernel)) <|
  nv_oc (n_iconst (z := 4) (by decide +kernel)) <|
  nv_oc (n_icmp_eq (off := 12) (tgt := 31) (by decide +kernel) (by decide)) <|
  nv_oc (n_aload_n (k := 0) (by decide +kernel)) <|
  nv_oc (n_bipush (z := 44) (by decide +kernel) (by decide)) <|
  nv_oc (n_virtual (M' := M_X4_takes) (idx := 31) (n := 1) (ci := 4) (N := 3) (D := RX4) (T := TX4) (by decide +kernel) fn_X4_takes fv_X4_takes rfl rfl l_X4_31 ⟨by decide, by decide⟩) <|
  nv_oc (n_if_ne (off := 5) (tgt := 33) (by decide +kernel) (by decide)) <|
  nv_oc (n_iconst (z := 1) (by decide +kernel)) <|
  nv_oc (n_zret (by decide +kernel) rfl) <|
  nv_oc (n_iinc (k := 2) (d := 1) (by decide +kernel) (by decide)) <|
  nv_oc (n_goto (off := -34) (tgt := 2) (by decide +kernel) (by decide)) <|
  nv_oc (n_iconst (z := 1) (by decide +kernel)) <|
  nv_oc (n_zret (by decide +kernel) rfl) <|
  nv_on
def M_X4_tellSawyer : nv_MD := (RX4, yX4_tellSawyer, cX4_tellSawyer, 5, (some .boolean), 7, 221)
theorem fn_X4_tellSawyer : nv_fn M_X4_tellSawyer 1 := ⟨List.mem_of_getElem? (i := 363) (by decide +kernel), List.mem_of_getElem? (i := 48) (by decide +kernel), by decide +kernel⟩
theorem fv_X4_tellSawyer : nv_fnV M_X4_tellSawyer := ⟨List.mem_of_getElem? (i := 362) (by decide +kernel), List.mem_of_getElem? (i := 11) (by decide +kernel)⟩
def P_X4_tellSawyer : nv_Pg := [(0, s_str 2), (2, s_al 0 3), (3, s_cv 4 M_X4_nextLetter 0 6), (6, s_cS M_J0_indexOf_0f7a4 1 9), (9, s_is 2 10), (10, s_il 2 11), (11, s_if c_ge 16 14), (14, s_ki (0) 15), (15, s_zr), (16, s_al 0 17), (17, s_dup 18), (18, s_gf 4 2 21), (21, s_ki (1) 22), (22, s_add 23), (23, s_pf 4 2 26), (26, s_al 0 27), (27, s_ki (9) 29), (29, s_cv 4 M_X4_takeDigit 1 32), (32, s_is 3 33), (33, s_il 3 34), (34, s_if c_ge 39 37), (37, s_ki (0) 38), (38, s_zr), (39, s_al 0 40), (40, s_ki (64) 42), (42, s_cv 4 M_X4_takes 1 45), (45, s_if c_eq 48 65), (48, s_al 1 49), (49, s_il 2 50), (50, s_il 3 51), (51, s_ki (-4) 53), (53, s_cv 0 M_X0_addSawyer 3 56), (56, s_if c_lt 63 59), (59, s_ki (1) 60), (60, s_go 64), (63, s_ki (0) 64), (64, s_zr), (65, s_al 0 66), (66, s_al 1 67), (67, s_gf 0 0 70), (70, s_ki (1) 71), (71, s_sub 72), (72, s_cv 4 M_X4_takeDigit 1 75), (75, s_is 4 77), (77, s_il 4 79), (79, s_if c_lt 97 82), (82, s_al 1 83), (83, s_il 2 84), (84, s_il 3 85), (85, s_il 4 87), (87, s_cv 0 M_X0_addSawyer 3 90), (90, s_if c_lt 97 93), (93, s_ki (1) 94), (94, s_go 98), (97, s_ki (0) 98), (98, s_zr)]
set_option maxRecDepth 100000 in
set_option maxHeartbeats 4000000 in
theorem ok_X4_tellSawyer : nv_ok_P M_X4_tellSawyer P_X4_tellSawyer :=
  nv_oc (n_ldcS (by decide +kernel) rfl) <|
  nv_oc (n_aload_n (k := 0) (by decide +kernel)) <|
  nv_oc (n_virtual (M' := M_X4_nextLetter) (idx := 38) (n := 0) (ci := 4) (N := 3) (D := RX4) (T := TX4) (by decide +kernel) fn_X4_nextLetter fv_X4_nextLetter rfl rfl l_X4_38 ⟨by decide, by decide⟩) <|
  nv_oc (n_virtualS (M' := M_J0_indexOf_0f7a4) (idx := 65) (n := 1) (by decide +kernel) fn_J0_indexOf_0f7a4 fv_J0_indexOf_0f7a4 rfl l_X4_65 ⟨by decide, by decide⟩) <|
  nv_oc (n_istore_n (k := 2) (by decide +kernel) (by decide)) <|
  nv_oc (n_iload_n (k := 2) (by decide +kernel)) <|
  nv_oc (n_if_ge (off := 5) (tgt := 16) (by decide +kernel) (by decide)) <|
  nv_oc (n_iconst (z := 0) (by decide +kernel)) <|
  nv_oc (n_zret (by decide +kernel) rfl) <|
  nv_oc (n_aload_n (k := 0) (by decide +kernel)) <|
  nv_oc (n_dup (by decide +kernel)) <|
  nv_oc (n_getfield (idx := 24) (ci := 4) (k := 2) (N := 3) (D := RX4) (T := TX4) (by decide +kernel) rfl i_X4 (by decide) (by decide) f_X4_24) <|
  nv_oc (n_iconst (z := 1) (by decide +kernel)) <|
  nv_oc (n_iadd (by decide +kernel)) <|
  nv_oc (n_putfield (idx := 24) (ci := 4) (k := 2) (N := 3) (D := RX4) (T := TX4) tyX4 tyX4_ok nmX4 (by decide +kernel) rfl i_X4 (by decide) (by decide) rfl f_X4_24 rfl) <|
  nv_oc (n_aload_n (k := 0) (by decide +kernel)) <|
  nv_oc (n_bipush (z := 9) (by decide +kernel) (by decide)) <|
  nv_oc (n_virtual (M' := M_X4_takeDigit) (idx := 52) (n := 1) (ci := 4) (N := 3) (D := RX4) (T := TX4) (by decide +kernel) fn_X4_takeDigit fv_X4_takeDigit rfl rfl l_X4_52 ⟨by decide, by decide⟩) <|
  nv_oc (n_istore_n (k := 3) (by decide +kernel) (by decide)) <|
  nv_oc (n_iload_n (k := 3) (by decide +kernel)) <|
  nv_oc (n_if_ge (off := 5) (tgt := 39) (by decide +kernel) (by decide)) <|
  nv_oc (n_iconst (z := 0) (by decide +kernel)) <|
  nv_oc (n_zret (by decide +kernel) rfl) <|
  nv_oc (n_aload_n (k := 0) (by decide +kernel)) <|
  nv_oc (n_bipush (z := 64) (by decide +kernel) (by decide)) <|
  nv_oc (n_virtual (M' := M_X4_takes) (idx := 31) (n := 1) (ci := 4) (N := 3) (D := RX4) (T := TX4) (by decide +kernel) fn_X4_takes fv_X4_takes rfl rfl l_X4_31 ⟨by decide, by decide⟩) <|
  nv_oc (n_if_ne (off := 20) (tgt := 65) (by decide +kernel) (by decide)) <|
  nv_oc (n_aload_n (k := 1) (by decide +kernel)) <|
  nv_oc (n_iload_n (k := 2) (by decide +kernel)) <|
  nv_oc (n_iload_n (k := 3) (by decide +kernel)) <|
  nv_oc (n_bipush (z := -4) (by decide +kernel) (by decide)) <|
  nv_oc (n_virtual (M' := M_X0_addSawyer) (idx := 70) (n := 3) (ci := 0) (N := 11) (D := RX0) (T := TX0) (by decide +kernel) fn_X0_addSawyer fv_X0_addSawyer rfl rfl l_X4_70 ⟨by decide, by decide⟩) <|
  nv_oc (n_if_lt (off := 7) (tgt := 63) (by decide +kernel) (by decide)) <|
  nv_oc (n_iconst (z := 1) (by decide +kernel)) <|
  nv_oc (n_goto (off := 4) (tgt := 64) (by decide +kernel) (by decide)) <|
  nv_oc (n_iconst (z := 0) (by decide +kernel)) <|
  nv_oc (n_zret (by decide +kernel) rfl) <|
  nv_oc (n_aload_n (k := 0) (by decide +kernel)) <|
  nv_oc (n_aload_n (k := 1) (by decide +kernel)) <|
  nv_oc (n_getfield (idx := 42) (ci := 0) (k := 0) (N := 11) (D := RX0) (T := TX0) (by decide +kernel) rfl i_X0 (by decide) (by decide) f_X4_42) <|
  nv_oc (n_iconst (z := 1) (by decide +kernel)) <|
  nv_oc (n_isub (by decide +kernel)) <|
  nv_oc (n_virtual (M' := M_X4_takeDigit) (idx := 52) (n := 1) (ci := 4) (N := 3) (D := RX4) (T := TX4) (by decide +kernel) fn_X4_takeDigit fv_X4_takeDigit rfl rfl l_X4_52 ⟨by decide, by decide⟩) <|
  nv_oc (n_istore (k := 4) (by decide +kernel) (by decide)) <|
  nv_oc (n_iload (k := 4) (by decide +kernel)) <|
  nv_oc (n_if_lt (off := 18) (tgt := 97) (by decide +kernel) (by decide)) <|
  nv_oc (n_aload_n (k := 1) (by decide +kernel)) <|
  nv_oc (n_iload_n (k := 2) (by decide +kernel)) <|
  nv_oc (n_iload_n (k := 3) (by decide +kernel)) <|
  nv_oc (n_iload (k := 4) (by decide +kernel)) <|
  nv_oc (n_virtual (M' := M_X0_addSawyer) (idx := 70) (n := 3) (ci := 0) (N := 11) (D := RX0) (T := TX0) (by decide +kernel) fn_X0_addSawyer fv_X0_addSawyer rfl rfl l_X4_70 ⟨by decide, by decide⟩) <|
  nv_oc (n_if_lt (off := 7) (tgt := 97) (by decide +kernel) (by decide)) <|
  nv_oc (n_iconst (z := 1) (by decide +kernel)) <|
  nv_oc (n_goto (off := 4) (tgt := 98) (by decide +kernel) (by decide)) <|
  nv_oc (n_iconst (z := 0) (by decide +kernel)) <|
  nv_oc (n_zret (by decide +kernel) rfl) <|
  nv_on
def M_X4_tellSawyers : nv_MD := (RX4, yX4_tellSawyers, cX4_tellSawyers, 3, (some .boolean), 8, 245)
theorem fn_X4_tellSawyers : nv_fn M_X4_tellSawyers 1 := ⟨List.mem_of_getElem? (i := 359) (by decide +kernel), List.mem_of_getElem? (i := 48) (by decide +kernel), by decide +kernel⟩
theorem fv_X4_tellSawyers : nv_fnV M_X4_tellSawyers := ⟨List.mem_of_getElem? (i := 358) (by decide +kernel), List.mem_of_getElem? (i := 10) (by decide +kernel)⟩
def P_X4_tellSawyers : nv_Pg := [(0, s_ki (0) 1), (1, s_is 2 2), (2, s_il 2 3), (3, s_ki (5) 4), (4, s_ic c_ge 39 7), (7, s_al 0 8), (8, s_al 1 9), (9, s_cv 4 M_X4_tellSawyer 1 12), (12, s_if c_eq 15 17), (15, s_ki (0) 16), (16, s_zr), (17, s_il 2 18), (18, s_ki (4) 19), (19, s_ic c_eq 31 22), (22, s_al 0 23), (23, s_ki (44) 25), (25, s_cv 4 M_X4_takes 1 28), (28, s_if c_eq 31 33), (31, s_ki (1) 32), (32, s_zr), (33, s_inc 2 (1) 36), (36, s_go 2), (39, s_ki (1) 40), (40, s_zr)]
set_option maxRecDepth 100000 in
set_option maxHeartbeats 4000000 in
theorem ok_X4_tellSawyers : nv_ok_P M_X4_tellSawyers P_X4_tellSawyers :=
  nv_oc (n_iconst (z := 0) (by decide +kernel)) <|
  nv_oc (n_istore_n (k := 2) (by decide +kernel) (by decide)) <|
  nv_oc (n_iload_n (k := 2) (by decide +kernel)) <|
  nv_oc (n_iconst (z := 5) (by decide +kernel)) <|
  nv_oc (n_icmp_ge (off := 35) (tgt := 39) (by decide +kernel) (by decide)) <|
  nv_oc (n_aload_n (k := 0) (by decide +kernel)) <|
  nv_oc (n_aload_n (k := 1) (by decide +kernel)) <|
  nv_oc (n_virtual (M' := M_X4_tellSawyer) (idx := 60) (n := 1) (ci := 4) (N := 3) (D := RX4) (T := TX4) (by decide +kernel) fn_X4_tellSawyer fv_X4_tellSawyer rfl rfl l_X4_60 ⟨by decide, by decide⟩) <|
  nv_oc (n_if_ne (off := 5) (tgt := 17) (by decide +kernel) (by decide)) <|
  nv_oc (n_iconst (z := 0) (by decide +kernel)) <|
  nv_oc (n_zret (by decide +kernel) rfl) <|
  nv_oc (n_iload_n (k := 2) (by decide +kernel)) <|
  nv_oc (n_iconst (z := 4) (by decide +kernel)) <|
  nv_oc (n_icmp_eq (off := 12) (tgt := 31) (by decide +kernel) (by decide)) <|
  nv_oc (n_aload_n (k := 0) (by decide +kernel)) <|
  nv_oc (n_bipush (z := 44) (by decide +kernel) (by decide)) <|
  nv_oc (n_virtual (M' := M_X4_takes) (idx := 31) (n := 1) (ci := 4) (N := 3) (D := RX4) (T := TX4) (by decide +kernel) fn_X4_takes fv_X4_takes rfl rfl l_X4_31 ⟨by decide, by decide⟩) <|
  nv_oc (n_if_ne (off := 5) (tgt := 33) (by decide +kernel) (by decide)) <|
  nv_oc (n_iconst (z := 1) (by decide +kernel)) <|
  nv_oc (n_zret (by decide +kernel) rfl) <|
  nv_oc (n_iinc (k := 2) (d := 1) (by decide +kernel) (by decide)) <|
  nv_oc (n_goto (off := -34) (tgt := 2) (by decide +kernel) (by decide)) <|
  nv_oc (n_iconst (z := 1) (by decide +kernel)) <|
  nv_oc (n_zret (by decide +kernel) rfl) <|
  nv_on
def M_X4_tellNoon : nv_MD := (RX4, yX4_tellNoon, cX4_tellNoon, 3, (some .int), 9, 267)
theorem fn_X4_tellNoon : nv_fn M_X4_tellNoon 1 := ⟨List.mem_of_getElem? (i := 318) (by decide +kernel), List.mem_of_getElem? (i := 48) (by decide +kernel), by decide +kernel⟩
theorem fv_X4_tellNoon : nv_fnV M_X4_tellNoon := ⟨List.mem_of_getElem? (i := 316) (by decide +kernel), List.mem_of_getElem? (i := 317) (by decide +kernel)⟩
def P_X4_tellNoon : nv_Pg := [(0, s_al 1 1), (1, s_cv 0 M_X0_empty 0 4), (4, s_al 0 5), (5, s_ki (0) 6), (6, s_pf 4 2 9), (9, s_al 0 10), (10, s_al 1 11), (11, s_cv 4 M_X4_tellPlanks 1 14), (14, s_if c_eq 45 17), (17, s_al 0 18), (18, s_ki (59) 20), (20, s_cv 4 M_X4_takes 1 23), (23, s_if c_eq 34 26), (26, s_al 0 27), (27, s_al 1 28), (28, s_cv 4 M_X4_tellSawyers 1 31), (31, s_if c_eq 45 34), (34, s_al 0 35), (35, s_cv 4 M_X4_nextLetter 0 38), (38, s_if c_eq 41 45), (41, s_ki (1) 42), (42, s_go 46), (45, s_ki (0) 46), (46, s_is 2 47), (47, s_il 2 48), (48, s_if c_eq 58 51), (51, s_al 1 52), (52, s_gf 0 0 55), (55, s_go 65), (58, s_ki (-20) 60), (60, s_al 0 61), (61, s_gf 4 2 64), (64, s_sub 65), (65, s_ir)]
set_option maxRecDepth 100000 in
set_option maxHeartbeats 4000000 in
theorem ok_X4_tellNoon : nv_ok_P M_X4_tellNoon P_X4_tellNoon :=
  nv_oc (n_aload_n (k := 1) (by decide +kernel)) <|
  nv_oc (n_virtual (M' := M_X0_empty) (idx := 19) (n := 0) (ci := 0) (N := 11) (D := RX0) (T := TX0) (by decide +kernel) fn_X0_empty fv_X0_empty rfl rfl l_X4_19 ⟨by decide, by decide⟩) <|
  nv_oc (n_aload_n (k := 0) (by decide +kernel)) <|
  nv_oc (n_iconst (z := 0) (by decide +kernel)) <|
  nv_oc (n_putfield (idx := 24) (ci := 4) (k := 2) (N := 3) (D := RX4) (T := TX4) tyX4 tyX4_ok nmX4 (by decide +kernel) rfl i_X4 (by decide) (by decide) rfl f_X4_24 rfl) <|
  nv_oc (n_aload_n (k := 0) (by decide +kernel)) <|
  nv_oc (n_aload_n (k := 1) (by decide +kernel)) <|
  nv_oc (n_virtual (M' := M_X4_tellPlanks) (idx := 27) (n := 1) (ci := 4) (N := 3) (D := RX4) (T := TX4) (by decide +kernel) fn_X4_tellPlanks fv_X4_tellPlanks rfl rfl l_X4_27 ⟨by decide, by decide⟩) <|
  nv_oc (n_if_eq (off := 31) (tgt := 45) (by decide +kernel) (by decide)) <|
  nv_oc (n_aload_n (k := 0) (by decide +kernel)) <|
  nv_oc (n_bipush (z := 59) (by decide +kernel) (by decide)) <|
  nv_oc (n_virtual (M' := M_X4_takes) (idx := 31) (n := 1) (ci := 4) (N := 3) (D := RX4) (T := TX4) (by decide +kernel) fn_X4_takes fv_X4_takes rfl rfl l_X4_31 ⟨by decide, by decide⟩) <|
  nv_oc (n_if_eq (off := 11) (tgt := 34) (by decide +kernel) (by decide)) <|
  nv_oc (n_aload_n (k := 0) (by decide +kernel)) <|
  nv_oc (n_aload_n (k := 1) (by decide +kernel)) <|
  nv_oc (n_virtual (M' := M_X4_tellSawyers) (idx := 35) (n := 1) (ci := 4) (N := 3) (D := RX4) (T := TX4) (by decide +kernel) fn_X4_tellSawyers fv_X4_tellSawyers rfl rfl l_X4_35 ⟨by decide, by decide⟩) <|
  nv_oc (n_if_eq (off := 14) (tgt := 45) (by decide +kernel) (by decide)) <|
  nv_oc (n_aload_n (k := 0) (by decide +kernel)) <|
  nv_oc (n_virtual (M' := M_X4_nextLetter) (idx := 38) (n := 0) (ci := 4) (N := 3) (D := RX4) (T := TX4) (by decide +kernel) fn_X4_nextLetter fv_X4_nextLetter rfl rfl l_X4_38 ⟨by decide, by decide⟩) <|
  nv_oc (n_if_ne (off := 7) (tgt := 45) (by decide +kernel) (by decide)) <|
  nv_oc (n_iconst (z := 1) (by decide +kernel)) <|
  nv_oc (n_goto (off := 4) (tgt := 46) (by decide +kernel) (by decide)) <|
  nv_oc (n_iconst (z := 0) (by decide +kernel)) <|
  nv_oc (n_istore_n (k := 2) (by decide +kernel) (by decide)) <|
  nv_oc (n_iload_n (k := 2) (by decide +kernel)) <|
  nv_oc (n_if_eq (off := 10) (tgt := 58) (by decide +kernel) (by decide)) <|
  nv_oc (n_aload_n (k := 1) (by decide +kernel)) <|
  nv_oc (n_getfield (idx := 42) (ci := 0) (k := 0) (N := 11) (D := RX0) (T := TX0) (by decide +kernel) rfl i_X0 (by decide) (by decide) f_X4_42) <|
  nv_oc (n_goto (off := 10) (tgt := 65) (by decide +kernel) (by decide)) <|
  nv_oc (n_bipush (z := -20) (by decide +kernel) (by decide)) <|
  nv_oc (n_aload_n (k := 0) (by decide +kernel)) <|
  nv_oc (n_getfield (idx := 24) (ci := 4) (k := 2) (N := 3) (D := RX4) (T := TX4) (by decide +kernel) rfl i_X4 (by decide) (by decide) f_X4_24) <|
  nv_oc (n_isub (by decide +kernel)) <|
  nv_oc (n_iret (by decide +kernel) rfl) <|
  nv_on
def M_X5_plank : nv_MD := (RX5, yX5_plank, cX5_plank, 4, (some .int), 1, 23)
theorem fn_X5_plank : nv_fn M_X5_plank 2 := ⟨List.mem_of_getElem? (i := 247) (by decide +kernel), List.mem_of_getElem? (i := 44) (by decide +kernel), by decide +kernel⟩
theorem fv_X5_plank : nv_fnV M_X5_plank := ⟨List.mem_of_getElem? (i := 245) (by decide +kernel), List.mem_of_getElem? (i := 246) (by decide +kernel)⟩
def P_X5_plank : nv_Pg := [(0, s_il 1 1), (1, s_ki (1) 2), (2, s_ki (99) 4), (4, s_cs M_X5_outside 3 7), (7, s_if c_eq 10 20), (10, s_il 2 11), (11, s_ki (0) 12), (12, s_ki (9) 14), (14, s_cs M_X5_outside 3 17), (17, s_if c_eq 22 20), (20, s_ki (-1) 21), (21, s_ir), (22, s_al 0 23), (23, s_gf 5 0 26), (26, s_il 1 27), (27, s_il 2 28), (28, s_il 1 29), (29, s_cv 0 M_X0_addPlank 3 32), (32, s_is 3 33), (33, s_il 3 34), (34, s_if c_lt 44 37), (37, s_al 0 38), (38, s_gf 5 1 41), (41, s_cv 1 M_X1_forget 0 44), (44, s_il 3 45), (45, s_ir)]
set_option maxRecDepth 100000 in
set_option maxHeartbeats 4000000 in
theorem ok_X5_plank : nv_ok_P M_X5_plank P_X5_plank :=
  nv_oc (n_iload_n (k := 1) (by decide +kernel)) <|
  nv_oc (n_iconst (z := 1) (by decide +kernel)) <|
  nv_oc (n_bipush (z := 99) (by decide +kernel) (by decide)) <|
  nv_oc (n_static (M' := M_X5_outside) (idx := 56) (n := 3) (by decide +kernel) fn_X5_outside st_X5_outside l_X5_56 ⟨by decide, by decide⟩) <|
  nv_oc (n_if_ne (off := 13) (tgt := 20) (by decide +kernel) (by decide)) <|
  nv_oc (n_iload_n (k := 2) (by decide +kernel)) <|
  nv_oc (n_iconst (z := 0) (by decide +kernel)) <|
  nv_oc (n_bipush (z := 9) (by decide +kernel) (by decide)) <|
  nv_oc (n_static (M' := M_X5_outside) (idx := 56) (n := 3) (by decide +kernel) fn_X5_outside st_X5_outside l_X5_56 ⟨by decide, by decide⟩) <|
  nv_oc (n_if_eq (off := 5) (tgt := 22) (by decide +kernel) (by decide)) <|
  nv_oc (n_iconst (z := -1) (by decide +kernel)) <|
  nv_oc (n_iret (by decide +kernel) rfl) <|
  nv_oc (n_aload_n (k := 0) (by decide +kernel)) <|
  nv_oc (n_getfield (idx := 12) (ci := 5) (k := 0) (N := 10) (D := RX5) (T := TX5) (by decide +kernel) rfl i_X5 (by decide) (by decide) f_X5_12) <|
  nv_oc (n_iload_n (k := 1) (by decide +kernel)) <|
  nv_oc (n_iload_n (k := 2) (by decide +kernel)) <|
  nv_oc (n_iload_n (k := 1) (by decide +kernel)) <|
  nv_oc (n_virtual (M' := M_X0_addPlank) (idx := 60) (n := 3) (ci := 0) (N := 11) (D := RX0) (T := TX0) (by decide +kernel) fn_X0_addPlank fv_X0_addPlank rfl rfl l_X5_60 ⟨by decide, by decide⟩) <|
  nv_oc (n_istore_n (k := 3) (by decide +kernel) (by decide)) <|
  nv_oc (n_iload_n (k := 3) (by decide +kernel)) <|
  nv_oc (n_if_lt (off := 10) (tgt := 44) (by decide +kernel) (by decide)) <|
  nv_oc (n_aload_n (k := 0) (by decide +kernel)) <|
  nv_oc (n_getfield (idx := 19) (ci := 5) (k := 1) (N := 10) (D := RX5) (T := TX5) (by decide +kernel) rfl i_X5 (by decide) (by decide) f_X5_19) <|
  nv_oc (n_virtual (M' := M_X1_forget) (idx := 64) (n := 0) (ci := 1) (N := 3) (D := RX1) (T := TX1) (by decide +kernel) fn_X1_forget fv_X1_forget rfl rfl l_X5_64 ⟨by decide, by decide⟩) <|
  nv_oc (n_iload_n (k := 3) (by decide +kernel)) <|
  nv_oc (n_iret (by decide +kernel) rfl) <|
  nv_on
def M_X5_sawyer : nv_MD := (RX5, yX5_sawyer, cX5_sawyer, 4, (some .int), 1, 23)
theorem fn_X5_sawyer : nv_fn M_X5_sawyer 2 := ⟨List.mem_of_getElem? (i := 262) (by decide +kernel), List.mem_of_getElem? (i := 44) (by decide +kernel), by decide +kernel⟩
theorem fv_X5_sawyer : nv_fnV M_X5_sawyer := ⟨List.mem_of_getElem? (i := 260) (by decide +kernel), List.mem_of_getElem? (i := 261) (by decide +kernel)⟩
def P_X5_sawyer : nv_Pg := [(0, s_il 1 1), (1, s_ki (0) 2), (2, s_ki (4) 3), (3, s_cs M_X5_outside 3 6), (6, s_if c_eq 9 19), (9, s_il 2 10), (10, s_ki (0) 11), (11, s_ki (9) 13), (13, s_cs M_X5_outside 3 16), (16, s_if c_eq 21 19), (19, s_ki (-1) 20), (20, s_ir), (21, s_al 0 22), (22, s_gf 5 0 25), (25, s_il 1 26), (26, s_il 2 27), (27, s_ki (-4) 29), (29, s_cv 0 M_X0_addSawyer 3 32), (32, s_is 3 33), (33, s_il 3 34), (34, s_if c_lt 44 37), (37, s_al 0 38), (38, s_gf 5 1 41), (41, s_cv 1 M_X1_forget 0 44), (44, s_il 3 45), (45, s_ir)]
set_option maxRecDepth 100000 in
set_option maxHeartbeats 4000000 in
theorem ok_X5_sawyer : nv_ok_P M_X5_sawyer P_X5_sawyer :=
  nv_oc (n_iload_n (k := 1) (by decide +kernel)) <|
  nv_oc (n_iconst (z := 0) (by decide +kernel)) <|
  nv_oc (n_iconst (z := 4) (by decide +kernel)) <|
  nv_oc (n_static (M' := M_X5_outside) (idx := 56) (n := 3) (by decide +kernel) fn_X5_outside st_X5_outside l_X5_56 ⟨by decide, by decide⟩) <|
  nv_oc (n_if_ne (off := 13) (tgt := 19) (by decide +kernel) (by decide)) <|
  nv_oc (n_iload_n (k := 2) (by decide +kernel)) <|
  nv_oc (n_iconst (z := 0) (by decide +kernel)) <|
  nv_oc (n_bipush (z := 9) (by decide +kernel) (by decide)) <|
  nv_oc (n_static (M' := M_X5_outside) (idx := 56) (n := 3) (by decide +kernel) fn_X5_outside st_X5_outside l_X5_56 ⟨by decide, by decide⟩) <|
  nv_oc (n_if_eq (off := 5) (tgt := 21) (by decide +kernel) (by decide)) <|
  nv_oc (n_iconst (z := -1) (by decide +kernel)) <|
  nv_oc (n_iret (by decide +kernel) rfl) <|
  nv_oc (n_aload_n (k := 0) (by decide +kernel)) <|
  nv_oc (n_getfield (idx := 12) (ci := 5) (k := 0) (N := 10) (D := RX5) (T := TX5) (by decide +kernel) rfl i_X5 (by decide) (by decide) f_X5_12) <|
  nv_oc (n_iload_n (k := 1) (by decide +kernel)) <|
  nv_oc (n_iload_n (k := 2) (by decide +kernel)) <|
  nv_oc (n_bipush (z := -4) (by decide +kernel) (by decide)) <|
  nv_oc (n_virtual (M' := M_X0_addSawyer) (idx := 67) (n := 3) (ci := 0) (N := 11) (D := RX0) (T := TX0) (by decide +kernel) fn_X0_addSawyer fv_X0_addSawyer rfl rfl l_X5_67 ⟨by decide, by decide⟩) <|
  nv_oc (n_istore_n (k := 3) (by decide +kernel) (by decide)) <|
  nv_oc (n_iload_n (k := 3) (by decide +kernel)) <|
  nv_oc (n_if_lt (off := 10) (tgt := 44) (by decide +kernel) (by decide)) <|
  nv_oc (n_aload_n (k := 0) (by decide +kernel)) <|
  nv_oc (n_getfield (idx := 19) (ci := 5) (k := 1) (N := 10) (D := RX5) (T := TX5) (by decide +kernel) rfl i_X5 (by decide) (by decide) f_X5_19) <|
  nv_oc (n_virtual (M' := M_X1_forget) (idx := 64) (n := 0) (ci := 1) (N := 3) (D := RX1) (T := TX1) (by decide +kernel) fn_X1_forget fv_X1_forget rfl rfl l_X5_64 ⟨by decide, by decide⟩) <|
  nv_oc (n_iload_n (k := 3) (by decide +kernel)) <|
  nv_oc (n_iret (by decide +kernel) rfl) <|
  nv_on
def M_X5_noPlank : nv_MD := (RX5, yX5_noPlank, cX5_noPlank, 2, (some .boolean), 0, 0)
theorem fn_X5_noPlank : nv_fn M_X5_noPlank 1 := ⟨List.mem_of_getElem? (i := 274) (by decide +kernel), List.mem_of_getElem? (i := 44) (by decide +kernel), by decide +kernel⟩
theorem fv_X5_noPlank : nv_fnV M_X5_noPlank := ⟨List.mem_of_getElem? (i := 273) (by decide +kernel), List.mem_of_getElem? (i := 0) (by decide +kernel)⟩
def P_X5_noPlank : nv_Pg := [(0, s_il 1 1), (1, s_if c_lt 15 4), (4, s_il 1 5), (5, s_al 0 6), (6, s_gf 5 0 9), (9, s_gf 0 0 12), (12, s_ic c_lt 19 15), (15, s_ki (1) 16), (16, s_go 20), (19, s_ki (0) 20), (20, s_zr)]
set_option maxRecDepth 100000 in
set_option maxHeartbeats 4000000 in
theorem ok_X5_noPlank : nv_ok_P M_X5_noPlank P_X5_noPlank :=
  nv_oc (n_iload_n (k := 1) (by decide +kernel)) <|
  nv_oc (n_if_lt (off := 14) (tgt := 15) (by decide +kernel) (by decide)) <|
  nv_oc (n_iload_n (k := 1) (by decide +kernel)) <|
  nv_oc (n_aload_n (k := 0) (by decide +kernel)) <|
  nv_oc (n_getfield (idx := 12) (ci := 5) (k := 0) (N := 10) (D := RX5) (T := TX5) (by decide +kernel) rfl i_X5 (by decide) (by decide) f_X5_12) <|
  nv_oc (n_getfield (idx := 125) (ci := 0) (k := 0) (N := 11) (D := RX0) (T := TX0) (by decide +kernel) rfl i_X0 (by decide) (by decide) f_X5_125) <|
  nv_oc (n_icmp_lt (off := 7) (tgt := 19) (by decide +kernel) (by decide)) <|
  nv_oc (n_iconst (z := 1) (by decide +kernel)) <|
  nv_oc (n_goto (off := 4) (tgt := 20) (by decide +kernel) (by decide)) <|
  nv_oc (n_iconst (z := 0) (by decide +kernel)) <|
  nv_oc (n_zret (by decide +kernel) rfl) <|
  nv_on
def M_X5_of : nv_MD := (RX5, yX5_of, cX5_of, 3, (some .int), 3, 73)
theorem fn_X5_of : nv_fn M_X5_of 2 := ⟨List.mem_of_getElem? (i := 270) (by decide +kernel), List.mem_of_getElem? (i := 44) (by decide +kernel), by decide +kernel⟩
theorem fv_X5_of : nv_fnV M_X5_of := ⟨List.mem_of_getElem? (i := 268) (by decide +kernel), List.mem_of_getElem? (i := 269) (by decide +kernel)⟩
def P_X5_of : nv_Pg := [(0, s_al 0 1), (1, s_il 1 2), (2, s_cv 5 M_X5_noPlank 1 5), (5, s_if c_eq 10 8), (8, s_ki (-1) 9), (9, s_ir), (10, s_il 2 11), (11, s_sw 0 99 [44, 54, 64, 74, 83]), (44, s_al 0 45), (45, s_gf 5 0 48), (48, s_gf 0 4 51), (51, s_il 1 52), (52, s_ia 53), (53, s_ir), (54, s_al 0 55), (55, s_gf 5 0 58), (58, s_gf 0 5 61), (61, s_il 1 62), (62, s_ia 63), (63, s_ir), (64, s_al 0 65), (65, s_gf 5 0 68), (68, s_gf 0 6 71), (71, s_il 1 72), (72, s_ia 73), (73, s_ir), (74, s_al 0 75), (75, s_gf 5 0 78), (78, s_il 1 79), (79, s_cv 0 M_X0_sittersOn 1 82), (82, s_ir), (83, s_al 0 84), (84, s_gf 5 0 87), (87, s_al 0 88), (88, s_gf 5 0 91), (91, s_il 1 92), (92, s_cv 0 M_X0_sittersOn 1 95), (95, s_cv 0 M_X0_cutByAll 1 98), (98, s_ir), (99, s_ki (-1) 100), (100, s_ir)]
set_option maxRecDepth 100000 in
set_option maxHeartbeats 4000000 in
theorem ok_X5_of : nv_ok_P M_X5_of P_X5_of :=
  nv_oc (n_aload_n (k := 0) (by decide +kernel)) <|
  nv_oc (n_iload_n (k := 1) (by decide +kernel)) <|
  nv_oc (n_virtual (M' := M_X5_noPlank) (idx := 70) (n := 1) (ci := 5) (N := 10) (D := RX5) (T := TX5) (by decide +kernel) fn_X5_noPlank fv_X5_noPlank rfl rfl l_X5_70 ⟨by decide, by decide⟩) <|
  nv_oc (n_if_eq (off := 5) (tgt := 10) (by decide +kernel) (by decide)) <|
  nv_oc (n_iconst (z := -1) (by decide +kernel)) <|
  nv_oc (n_iret (by decide +kernel) rfl) <|
  nv_oc (n_iload_n (k := 2) (by decide +kernel)) <|
  nv_oc (n_tableswitch (dflt := 88) (lo := 0) (hi := 4) (offs := #[33, 43, 53, 63, 72]) (len := 33) (df := 99) (ts := [44, 54, 64, 74, 83]) (by decide +kernel) (by decide) (by decide) (by decide)) <|
  nv_oc (n_aload_n (k := 0) (by decide +kernel)) <|
  nv_oc (n_getfield (idx := 12) (ci := 5) (k := 0) (N := 10) (D := RX5) (T := TX5) (by decide +kernel) rfl i_X5 (by decide) (by decide) f_X5_12) <|
  nv_oc (n_getfield (idx := 74) (ci := 0) (k := 4) (N := 11) (D := RX0) (T := TX0) (by decide +kernel) rfl i_X0 (by decide) (by decide) f_X5_74) <|
  nv_oc (n_iload_n (k := 1) (by decide +kernel)) <|
  nv_oc (n_iaload (by decide +kernel)) <|
  nv_oc (n_iret (by decide +kernel) rfl) <|
  nv_oc (n_aload_n (k := 0) (by decide +kernel)) <|
  nv_oc (n_getfield (idx := 12) (ci := 5) (k := 0) (N := 10) (D := RX5) (T := TX5) (by decide +kernel) rfl i_X5 (by decide) (by decide) f_X5_12) <|
  nv_oc (n_getfield (idx := 78) (ci := 0) (k := 5) (N := 11) (D := RX0) (T := TX0) (by decide +kernel) rfl i_X0 (by decide) (by decide) f_X5_78) <|
  nv_oc (n_iload_n (k := 1) (by decide +kernel)) <|
  nv_oc (n_iaload (by decide +kernel)) <|
  nv_oc (n_iret (by decide +kernel) rfl) <|
  nv_oc (n_aload_n (k := 0) (by decide +kernel)) <|
  nv_oc (n_getfield (idx := 12) (ci := 5) (k := 0) (N := 10) (D := RX5) (T := TX5) (by decide +kernel) rfl i_X5 (by decide) (by decide) f_X5_12) <|
  nv_oc (n_getfield (idx := 81) (ci := 0) (k := 6) (N := 11) (D := RX0) (T := TX0) (by decide +kernel) rfl i_X0 (by decide) (by decide) f_X5_81) <|
  nv_oc (n_iload_n (k := 1) (by decide +kernel)) <|
  nv_oc (n_iaload (by decide +kernel)) <|
  nv_oc (n_iret (by decide +kernel) rfl) <|
  nv_oc (n_aload_n (k := 0) (by decide +kernel)) <|
  nv_oc (n_getfield (idx := 12) (ci := 5) (k := 0) (N := 10) (D := RX5) (T := TX5) (by decide +kernel) rfl i_X5 (by decide) (by decide) f_X5_12) <|
  nv_oc (n_iload_n (k := 1) (by decide +kernel)) <|
  nv_oc (n_virtual (M' := M_X0_sittersOn) (idx := 84) (n := 1) (ci := 0) (N := 11) (D := RX0) (T := TX0) (by decide +kernel) fn_X0_sittersOn fv_X0_sittersOn rfl rfl l_X5_84 ⟨by decide, by decide⟩) <|
  nv_oc (n_iret (by decide +kernel) rfl) <|
  nv_oc (n_aload_n (k := 0) (by decide +kernel)) <|
  nv_oc (n_getfield (idx := 12) (ci := 5) (k := 0) (N := 10) (D := RX5) (T := TX5) (by decide +kernel) rfl i_X5 (by decide) (by decide) f_X5_12) <|
  nv_oc (n_aload_n (k := 0) (by decide +kernel)) <|
  nv_oc (n_getfield (idx := 12) (ci := 5) (k := 0) (N := 10) (D := RX5) (T := TX5) (by decide +kernel) rfl i_X5 (by decide) (by decide) f_X5_12) <|
  nv_oc (n_iload_n (k := 1) (by decide +kernel)) <|
  nv_oc (n_virtual (M' := M_X0_sittersOn) (idx := 84) (n := 1) (ci := 0) (N := 11) (D := RX0) (T := TX0) (by decide +kernel) fn_X0_sittersOn fv_X0_sittersOn rfl rfl l_X5_84 ⟨by decide, by decide⟩) <|
  nv_oc (n_virtual (M' := M_X0_cutByAll) (idx := 88) (n := 1) (ci := 0) (N := 11) (D := RX0) (T := TX0) (by decide +kernel) fn_X0_cutByAll fv_X0_cutByAll rfl rfl l_X5_88 ⟨by decide, by decide⟩) <|
  nv_oc (n_iret (by decide +kernel) rfl) <|
  nv_oc (n_iconst (z := -1) (by decide +kernel)) <|
  nv_oc (n_iret (by decide +kernel) rfl) <|
  nv_on
def M_X5_noSawyer : nv_MD := (RX5, yX5_noSawyer, cX5_noSawyer, 2, (some .boolean), 0, 0)
theorem fn_X5_noSawyer : nv_fn M_X5_noSawyer 1 := ⟨List.mem_of_getElem? (i := 301) (by decide +kernel), List.mem_of_getElem? (i := 44) (by decide +kernel), by decide +kernel⟩
theorem fv_X5_noSawyer : nv_fnV M_X5_noSawyer := ⟨List.mem_of_getElem? (i := 300) (by decide +kernel), List.mem_of_getElem? (i := 2) (by decide +kernel)⟩
def P_X5_noSawyer : nv_Pg := [(0, s_il 1 1), (1, s_if c_lt 15 4), (4, s_il 1 5), (5, s_al 0 6), (6, s_gf 5 0 9), (9, s_gf 0 1 12), (12, s_ic c_lt 19 15), (15, s_ki (1) 16), (16, s_go 20), (19, s_ki (0) 20), (20, s_zr)]
set_option maxRecDepth 100000 in
set_option maxHeartbeats 4000000 in
theorem ok_X5_noSawyer : nv_ok_P M_X5_noSawyer P_X5_noSawyer :=
  nv_oc (n_iload_n (k := 1) (by decide +kernel)) <|
  nv_oc (n_if_lt (off := 14) (tgt := 15) (by decide +kernel) (by decide)) <|
  nv_oc (n_iload_n (k := 1) (by decide +kernel)) <|
  nv_oc (n_aload_n (k := 0) (by decide +kernel)) <|
  nv_oc (n_getfield (idx := 12) (ci := 5) (k := 0) (N := 10) (D := RX5) (T := TX5) (by decide +kernel) rfl i_X5 (by decide) (by decide) f_X5_12) <|
  nv_oc (n_getfield (idx := 128) (ci := 0) (k := 1) (N := 11) (D := RX0) (T := TX0) (by decide +kernel) rfl i_X0 (by decide) (by decide) f_X5_128) <|
  nv_oc (n_icmp_lt (off := 7) (tgt := 19) (by decide +kernel) (by decide)) <|
  nv_oc (n_iconst (z := 1) (by decide +kernel)) <|
  nv_oc (n_goto (off := 4) (tgt := 20) (by decide +kernel) (by decide)) <|
  nv_oc (n_iconst (z := 0) (by decide +kernel)) <|
  nv_oc (n_zret (by decide +kernel) rfl) <|
  nv_on
def M_X5_at : nv_MD := (RX5, yX5_at, cX5_at, 3, (some .int), 2, 50)
theorem fn_X5_at : nv_fn M_X5_at 2 := ⟨List.mem_of_getElem? (i := 297) (by decide +kernel), List.mem_of_getElem? (i := 44) (by decide +kernel), by decide +kernel⟩
theorem fv_X5_at : nv_fnV M_X5_at := ⟨List.mem_of_getElem? (i := 295) (by decide +kernel), List.mem_of_getElem? (i := 296) (by decide +kernel)⟩
def P_X5_at : nv_Pg := [(0, s_al 0 1), (1, s_il 1 2), (2, s_cv 5 M_X5_noSawyer 1 5), (5, s_if c_eq 10 8), (8, s_ki (-1) 9), (9, s_ir), (10, s_il 2 11), (11, s_sw 0 79 [40, 50, 60, 70]), (40, s_al 0 41), (41, s_gf 5 0 44), (44, s_gf 0 7 47), (47, s_il 1 48), (48, s_ia 49), (49, s_ir), (50, s_al 0 51), (51, s_gf 5 0 54), (54, s_gf 0 8 57), (57, s_il 1 58), (58, s_ia 59), (59, s_ir), (60, s_al 0 61), (61, s_gf 5 0 64), (64, s_gf 0 9 67), (67, s_il 1 68), (68, s_ia 69), (69, s_ir), (70, s_al 0 71), (71, s_gf 5 0 74), (74, s_il 1 75), (75, s_cv 0 M_X0_cutOf 1 78), (78, s_ir), (79, s_ki (-1) 80), (80, s_ir)]
set_option maxRecDepth 100000 in
set_option maxHeartbeats 4000000 in
theorem ok_X5_at : nv_ok_P M_X5_at P_X5_at :=
  nv_oc (n_aload_n (k := 0) (by decide +kernel)) <|
  nv_oc (n_iload_n (k := 1) (by decide +kernel)) <|
  nv_oc (n_virtual (M' := M_X5_noSawyer) (idx := 91) (n := 1) (ci := 5) (N := 10) (D := RX5) (T := TX5) (by decide +kernel) fn_X5_noSawyer fv_X5_noSawyer rfl rfl l_X5_91 ⟨by decide, by decide⟩) <|
  nv_oc (n_if_eq (off := 5) (tgt := 10) (by decide +kernel) (by decide)) <|
  nv_oc (n_iconst (z := -1) (by decide +kernel)) <|
  nv_oc (n_iret (by decide +kernel) rfl) <|
  nv_oc (n_iload_n (k := 2) (by decide +kernel)) <|
  nv_oc (n_tableswitch (dflt := 68) (lo := 0) (hi := 3) (offs := #[29, 39, 49, 59]) (len := 29) (df := 79) (ts := [40, 50, 60, 70]) (by decide +kernel) (by decide) (by decide) (by decide)) <|
  nv_oc (n_aload_n (k := 0) (by decide +kernel)) <|
  nv_oc (n_getfield (idx := 12) (ci := 5) (k := 0) (N := 10) (D := RX5) (T := TX5) (by decide +kernel) rfl i_X5 (by decide) (by decide) f_X5_12) <|
  nv_oc (n_getfield (idx := 94) (ci := 0) (k := 7) (N := 11) (D := RX0) (T := TX0) (by decide +kernel) rfl i_X0 (by decide) (by decide) f_X5_94) <|
  nv_oc (n_iload_n (k := 1) (by decide +kernel)) <|
  nv_oc (n_iaload (by decide +kernel)) <|
  nv_oc (n_iret (by decide +kernel) rfl) <|
  nv_oc (n_aload_n (k := 0) (by decide +kernel)) <|
  nv_oc (n_getfield (idx := 12) (ci := 5) (k := 0) (N := 10) (D := RX5) (T := TX5) (by decide +kernel) rfl i_X5 (by decide) (by decide) f_X5_12) <|
  nv_oc (n_getfield (idx := 97) (ci := 0) (k := 8) (N := 11) (D := RX0) (T := TX0) (by decide +kernel) rfl i_X0 (by decide) (by decide) f_X5_97) <|
  nv_oc (n_iload_n (k := 1) (by decide +kernel)) <|
  nv_oc (n_iaload (by decide +kernel)) <|
  nv_oc (n_iret (by decide +kernel) rfl) <|
  nv_oc (n_aload_n (k := 0) (by decide +kernel)) <|
  nv_oc (n_getfield (idx := 12) (ci := 5) (k := 0) (N := 10) (D := RX5) (T := TX5) (by decide +kernel) rfl i_X5 (by decide) (by decide) f_X5_12) <|
  nv_oc (n_getfield (idx := 100) (ci := 0) (k := 9) (N := 11) (D := RX0) (T := TX0) (by decide +kernel) rfl i_X0 (by decide) (by decide) f_X5_100) <|
  nv_oc (n_iload_n (k := 1) (by decide +kernel)) <|
  nv_oc (n_iaload (by decide +kernel)) <|
  nv_oc (n_iret (by decide +kernel) rfl) <|
  nv_oc (n_aload_n (k := 0) (by decide +kernel)) <|
  nv_oc (n_getfield (idx := 12) (ci := 5) (k := 0) (N := 10) (D := RX5) (T := TX5) (by decide +kernel) rfl i_X5 (by decide) (by decide) f_X5_12) <|
  nv_oc (n_iload_n (k := 1) (by decide +kernel)) <|
  nv_oc (n_virtual (M' := M_X0_cutOf) (idx := 103) (n := 1) (ci := 0) (N := 11) (D := RX0) (T := TX0) (by decide +kernel) fn_X0_cutOf fv_X0_cutOf rfl rfl l_X5_103 ⟨by decide, by decide⟩) <|
  nv_oc (n_iret (by decide +kernel) rfl) <|
  nv_oc (n_iconst (z := -1) (by decide +kernel)) <|
  nv_oc (n_iret (by decide +kernel) rfl) <|
  nv_on
def M_X5_type : nv_MD := (RX5, yX5_type, cX5_type, 2, (some .int), 1, 22)
theorem fn_X5_type : nv_fn M_X5_type 1 := ⟨List.mem_of_getElem? (i := 306) (by decide +kernel), List.mem_of_getElem? (i := 44) (by decide +kernel), by decide +kernel⟩
theorem fv_X5_type : nv_fnV M_X5_type := ⟨List.mem_of_getElem? (i := 304) (by decide +kernel), List.mem_of_getElem? (i := 305) (by decide +kernel)⟩
def P_X5_type : nv_Pg := [(0, s_il 1 1), (1, s_ki (32) 3), (3, s_ki (126) 5), (5, s_cs M_X5_outside 3 8), (8, s_if c_eq 13 11), (11, s_ki (-1) 12), (12, s_ir), (13, s_al 0 14), (14, s_gf 5 8 17), (17, s_il 1 18), (18, s_i2c 19), (19, s_cv 4 M_X4_addLetter 1 22), (22, s_ir)]
set_option maxRecDepth 100000 in
set_option maxHeartbeats 4000000 in
theorem ok_X5_type : nv_ok_P M_X5_type P_X5_type :=
  nv_oc (n_iload_n (k := 1) (by decide +kernel)) <|
  nv_oc (n_bipush (z := 32) (by decide +kernel) (by decide)) <|
  nv_oc (n_bipush (z := 126) (by decide +kernel) (by decide)) <|
  nv_oc (n_static (M' := M_X5_outside) (idx := 56) (n := 3) (by decide +kernel) fn_X5_outside st_X5_outside l_X5_56 ⟨by decide, by decide⟩) <|
  nv_oc (n_if_eq (off := 5) (tgt := 13) (by decide +kernel) (by decide)) <|
  nv_oc (n_iconst (z := -1) (by decide +kernel)) <|
  nv_oc (n_iret (by decide +kernel) rfl) <|
  nv_oc (n_aload_n (k := 0) (by decide +kernel)) <|
  nv_oc (n_getfield (idx := 45) (ci := 5) (k := 8) (N := 10) (D := RX5) (T := TX5) (by decide +kernel) rfl i_X5 (by decide) (by decide) f_X5_45) <|
  nv_oc (n_iload_n (k := 1) (by decide +kernel)) <|
  nv_oc (n_i2c (by decide +kernel)) <|
  nv_oc (n_virtual (M' := M_X4_addLetter) (idx := 106) (n := 1) (ci := 4) (N := 3) (D := RX4) (T := TX4) (by decide +kernel) fn_X4_addLetter fv_X4_addLetter rfl rfl l_X5_106 ⟨by decide, by decide⟩) <|
  nv_oc (n_iret (by decide +kernel) rfl) <|
  nv_on
def M_X5_read : nv_MD := (RX5, yX5_read, cX5_read, 2, (some .int), 10, 289)
theorem fn_X5_read : nv_fn M_X5_read 0 := ⟨List.mem_of_getElem? (i := 314) (by decide +kernel), List.mem_of_getElem? (i := 44) (by decide +kernel), by decide +kernel⟩
theorem fv_X5_read : nv_fnV M_X5_read := ⟨List.mem_of_getElem? (i := 312) (by decide +kernel), List.mem_of_getElem? (i := 313) (by decide +kernel)⟩
def P_X5_read : nv_Pg := [(0, s_al 0 1), (1, s_gf 5 8 4), (4, s_al 0 5), (5, s_gf 5 5 8), (8, s_cv 4 M_X4_tellNoon 1 11), (11, s_is 1 12), (12, s_al 0 13), (13, s_gf 5 8 16), (16, s_cv 4 M_X4_wipe 0 19), (19, s_il 1 20), (20, s_if c_lt 55 23), (23, s_al 0 24), (24, s_gf 5 5 27), (27, s_al 0 28), (28, s_gf 5 0 31), (31, s_gf 0 3 34), (34, s_pf 0 3 37), (37, s_al 0 38), (38, s_gf 5 0 41), (41, s_al 0 42), (42, s_gf 5 5 45), (45, s_cv 0 M_X0_takeAll 1 48), (48, s_al 0 49), (49, s_gf 5 1 52), (52, s_cv 1 M_X1_forget 0 55), (55, s_il 1 56), (56, s_ir)]
set_option maxRecDepth 100000 in
set_option maxHeartbeats 4000000 in
theorem ok_X5_read : nv_ok_P M_X5_read P_X5_read :=
  nv_oc (n_aload_n (k := 0) (by decide +kernel)) <|
  nv_oc (n_getfield (idx := 45) (ci := 5) (k := 8) (N := 10) (D := RX5) (T := TX5) (by decide +kernel) rfl i_X5 (by decide) (by decide) f_X5_45) <|
  nv_oc (n_aload_n (k := 0) (by decide +kernel)) <|
  nv_oc (n_getfield (idx := 29) (ci := 5) (k := 5) (N := 10) (D := RX5) (T := TX5) (by decide +kernel) rfl i_X5 (by decide) (by decide) f_X5_29) <|
  nv_oc (n_virtual (M' := M_X4_tellNoon) (idx := 110) (n := 1) (ci := 4) (N := 3) (D := RX4) (T := TX4) (by decide +kernel) fn_X4_tellNoon fv_X4_tellNoon rfl rfl l_X5_110 ⟨by decide, by decide⟩) <|
  nv_oc (n_istore_n (k := 1) (by decide +kernel) (by decide)) <|
  nv_oc (n_aload_n (k := 0) (by decide +kernel)) <|
  nv_oc (n_getfield (idx := 45) (ci := 5) (k := 8) (N := 10) (D := RX5) (T := TX5) (by decide +kernel) rfl i_X5 (by decide) (by decide) f_X5_45) <|
  nv_oc (n_virtual (M' := M_X4_wipe) (idx := 114) (n := 0) (ci := 4) (N := 3) (D := RX4) (T := TX4) (by decide +kernel) fn_X4_wipe fv_X4_wipe rfl rfl l_X5_114 ⟨by decide, by decide⟩) <|
  nv_oc (n_iload_n (k := 1) (by decide +kernel)) <|
  nv_oc (n_if_lt (off := 35) (tgt := 55) (by decide +kernel) (by decide)) <|
  nv_oc (n_aload_n (k := 0) (by decide +kernel)) <|
  nv_oc (n_getfield (idx := 29) (ci := 5) (k := 5) (N := 10) (D := RX5) (T := TX5) (by decide +kernel) rfl i_X5 (by decide) (by decide) f_X5_29) <|
  nv_oc (n_aload_n (k := 0) (by decide +kernel)) <|
  nv_oc (n_getfield (idx := 12) (ci := 5) (k := 0) (N := 10) (D := RX5) (T := TX5) (by decide +kernel) rfl i_X5 (by decide) (by decide) f_X5_12) <|
  nv_oc (n_getfield (idx := 117) (ci := 0) (k := 3) (N := 11) (D := RX0) (T := TX0) (by decide +kernel) rfl i_X0 (by decide) (by decide) f_X5_117) <|
  nv_oc (n_putfield (idx := 117) (ci := 0) (k := 3) (N := 11) (D := RX0) (T := TX0) tyX0 tyX0_ok nmX0 (by decide +kernel) rfl i_X0 (by decide) (by decide) rfl f_X5_117 rfl) <|
  nv_oc (n_aload_n (k := 0) (by decide +kernel)) <|
  nv_oc (n_getfield (idx := 12) (ci := 5) (k := 0) (N := 10) (D := RX5) (T := TX5) (by decide +kernel) rfl i_X5 (by decide) (by decide) f_X5_12) <|
  nv_oc (n_aload_n (k := 0) (by decide +kernel)) <|
  nv_oc (n_getfield (idx := 29) (ci := 5) (k := 5) (N := 10) (D := RX5) (T := TX5) (by decide +kernel) rfl i_X5 (by decide) (by decide) f_X5_29) <|
  nv_oc (n_virtual (M' := M_X0_takeAll) (idx := 121) (n := 1) (ci := 0) (N := 11) (D := RX0) (T := TX0) (by decide +kernel) fn_X0_takeAll fv_X0_takeAll rfl rfl l_X5_121 ⟨by decide, by decide⟩) <|
  nv_oc (n_aload_n (k := 0) (by decide +kernel)) <|
  nv_oc (n_getfield (idx := 19) (ci := 5) (k := 1) (N := 10) (D := RX5) (T := TX5) (by decide +kernel) rfl i_X5 (by decide) (by decide) f_X5_19) <|
  nv_oc (n_virtual (M' := M_X1_forget) (idx := 64) (n := 0) (ci := 1) (N := 3) (D := RX1) (T := TX1) (by decide +kernel) fn_X1_forget fv_X1_forget rfl rfl l_X5_64 ⟨by decide, by decide⟩) <|
  nv_oc (n_iload_n (k := 1) (by decide +kernel)) <|
  nv_oc (n_iret (by decide +kernel) rfl) <|
  nv_on
def M_X5_count : nv_MD := (RX5, yX5_count, cX5_count, 2, (some .int), 1, 23)
theorem fn_X5_count : nv_fn M_X5_count 1 := ⟨List.mem_of_getElem? (i := 471) (by decide +kernel), List.mem_of_getElem? (i := 44) (by decide +kernel), by decide +kernel⟩
theorem fv_X5_count : nv_fnV M_X5_count := ⟨List.mem_of_getElem? (i := 469) (by decide +kernel), List.mem_of_getElem? (i := 470) (by decide +kernel)⟩
def P_X5_count : nv_Pg := [(0, s_il 1 1), (1, s_sw 0 114 [48, 56, 64, 72, 80, 88, 96, 106]), (48, s_al 0 49), (49, s_gf 5 0 52), (52, s_gf 0 0 55), (55, s_ir), (56, s_al 0 57), (57, s_gf 5 0 60), (60, s_gf 0 1 63), (63, s_ir), (64, s_al 0 65), (65, s_gf 5 0 68), (68, s_gf 0 2 71), (71, s_ir), (72, s_al 0 73), (73, s_gf 5 0 76), (76, s_cv 0 M_X0_fallenSet 0 79), (79, s_ir), (80, s_al 0 81), (81, s_gf 5 0 84), (84, s_cv 0 M_X0_leftOfAll 0 87), (87, s_ir), (88, s_al 0 89), (89, s_gf 5 0 92), (92, s_cv 0 M_X0_teethOfAll 0 95), (95, s_ir), (96, s_al 0 97), (97, s_gf 5 0 100), (100, s_ki (-4) 102), (102, s_cv 0 M_X0_sittersOn 1 105), (105, s_ir), (106, s_al 0 107), (107, s_gf 5 1 110), (110, s_gf 1 1 113), (113, s_ir), (114, s_ki (-1) 115), (115, s_ir)]
set_option maxRecDepth 100000 in
set_option maxHeartbeats 4000000 in
theorem ok_X5_count : nv_ok_P M_X5_count P_X5_count :=
  nv_oc (n_iload_n (k := 1) (by decide +kernel)) <|
  nv_oc (n_tableswitch (dflt := 113) (lo := 0) (hi := 7) (offs := #[47, 55, 63, 71, 79, 87, 95, 105]) (len := 47) (df := 114) (ts := [48, 56, 64, 72, 80, 88, 96, 106]) (by decide +kernel) (by decide) (by decide) (by decide)) <|
  nv_oc (n_aload_n (k := 0) (by decide +kernel)) <|
  nv_oc (n_getfield (idx := 12) (ci := 5) (k := 0) (N := 10) (D := RX5) (T := TX5) (by decide +kernel) rfl i_X5 (by decide) (by decide) f_X5_12) <|
  nv_oc (n_getfield (idx := 125) (ci := 0) (k := 0) (N := 11) (D := RX0) (T := TX0) (by decide +kernel) rfl i_X0 (by decide) (by decide) f_X5_125) <|
  nv_oc (n_iret (by decide +kernel) rfl) <|
  nv_oc (n_aload_n (k := 0) (by decide +kernel)) <|
  nv_oc (n_getfield (idx := 12) (ci := 5) (k := 0) (N := 10) (D := RX5) (T := TX5) (by decide +kernel) rfl i_X5 (by decide) (by decide) f_X5_12) <|
  nv_oc (n_getfield (idx := 128) (ci := 0) (k := 1) (N := 11) (D := RX0) (T := TX0) (by decide +kernel) rfl i_X0 (by decide) (by decide) f_X5_128) <|
  nv_oc (n_iret (by decide +kernel) rfl) <|
  nv_oc (n_aload_n (k := 0) (by decide +kernel)) <|
  nv_oc (n_getfield (idx := 12) (ci := 5) (k := 0) (N := 10) (D := RX5) (T := TX5) (by decide +kernel) rfl i_X5 (by decide) (by decide) f_X5_12) <|
  nv_oc (n_getfield (idx := 131) (ci := 0) (k := 2) (N := 11) (D := RX0) (T := TX0) (by decide +kernel) rfl i_X0 (by decide) (by decide) f_X5_131) <|
  nv_oc (n_iret (by decide +kernel) rfl) <|
  nv_oc (n_aload_n (k := 0) (by decide +kernel)) <|
  nv_oc (n_getfield (idx := 12) (ci := 5) (k := 0) (N := 10) (D := RX5) (T := TX5) (by decide +kernel) rfl i_X5 (by decide) (by decide) f_X5_12) <|
  nv_oc (n_virtual (M' := M_X0_fallenSet) (idx := 134) (n := 0) (ci := 0) (N := 11) (D := RX0) (T := TX0) (by decide +kernel) fn_X0_fallenSet fv_X0_fallenSet rfl rfl l_X5_134 ⟨by decide, by decide⟩) <|
  nv_oc (n_iret (by decide +kernel) rfl) <|
  nv_oc (n_aload_n (k := 0) (by decide +kernel)) <|
  nv_oc (n_getfield (idx := 12) (ci := 5) (k := 0) (N := 10) (D := RX5) (T := TX5) (by decide +kernel) rfl i_X5 (by decide) (by decide) f_X5_12) <|
  nv_oc (n_virtual (M' := M_X0_leftOfAll) (idx := 138) (n := 0) (ci := 0) (N := 11) (D := RX0) (T := TX0) (by decide +kernel) fn_X0_leftOfAll fv_X0_leftOfAll rfl rfl l_X5_138 ⟨by decide, by decide⟩) <|
  nv_oc (n_iret (by decide +kernel) rfl) <|
  nv_oc (n_aload_n (k := 0) (by decide +kernel)) <|
  nv_oc (n_getfield (idx := 12) (ci := 5) (k := 0) (N := 10) (D := RX5) (T := TX5) (by decide +kernel) rfl i_X5 (by decide) (by decide) f_X5_12) <|
  nv_oc (n_virtual (M' := M_X0_teethOfAll) (idx := 141) (n := 0) (ci := 0) (N := 11) (D := RX0) (T := TX0) (by decide +kernel) fn_X0_teethOfAll fv_X0_teethOfAll rfl rfl l_X5_141 ⟨by decide, by decide⟩) <|
  nv_oc (n_iret (by decide +kernel) rfl) <|
  nv_oc (n_aload_n (k := 0) (by decide +kernel)) <|
  nv_oc (n_getfield (idx := 12) (ci := 5) (k := 0) (N := 10) (D := RX5) (T := TX5) (by decide +kernel) rfl i_X5 (by decide) (by decide) f_X5_12) <|
  nv_oc (n_bipush (z := -4) (by decide +kernel) (by decide)) <|
  nv_oc (n_virtual (M' := M_X0_sittersOn) (idx := 84) (n := 1) (ci := 0) (N := 11) (D := RX0) (T := TX0) (by decide +kernel) fn_X0_sittersOn fv_X0_sittersOn rfl rfl l_X5_84 ⟨by decide, by decide⟩) <|
  nv_oc (n_iret (by decide +kernel) rfl) <|
  nv_oc (n_aload_n (k := 0) (by decide +kernel)) <|
  nv_oc (n_getfield (idx := 19) (ci := 5) (k := 1) (N := 10) (D := RX5) (T := TX5) (by decide +kernel) rfl i_X5 (by decide) (by decide) f_X5_19) <|
  nv_oc (n_getfield (idx := 144) (ci := 1) (k := 1) (N := 3) (D := RX1) (T := TX1) (by decide +kernel) rfl i_X1 (by decide) (by decide) f_X5_144) <|
  nv_oc (n_iret (by decide +kernel) rfl) <|
  nv_oc (n_iconst (z := -1) (by decide +kernel)) <|
  nv_oc (n_iret (by decide +kernel) rfl) <|
  nv_on
def M_X5_hours : nv_MD := (RX5, yX5_hours, cX5_hours, 3, (some .int), 3, 82)
theorem fn_X5_hours : nv_fn M_X5_hours 1 := ⟨List.mem_of_getElem? (i := 487) (by decide +kernel), List.mem_of_getElem? (i := 44) (by decide +kernel), by decide +kernel⟩
theorem fv_X5_hours : nv_fnV M_X5_hours := ⟨List.mem_of_getElem? (i := 485) (by decide +kernel), List.mem_of_getElem? (i := 486) (by decide +kernel)⟩
def P_X5_hours : nv_Pg := [(0, s_il 1 1), (1, s_ki (1) 2), (2, s_ki (40) 4), (4, s_cs M_X5_outside 3 7), (7, s_if c_eq 12 10), (10, s_ki (-1) 11), (11, s_ir), (12, s_al 0 13), (13, s_gf 5 0 16), (16, s_gf 0 2 19), (19, s_il 1 20), (20, s_add 21), (21, s_ki (9999) 24), (24, s_ic c_le 30 27), (27, s_ki (-3) 29), (29, s_ir), (30, s_ki (0) 31), (31, s_is 2 32), (32, s_il 2 33), (33, s_il 1 34), (34, s_ic c_ge 62 37), (37, s_al 0 38), (38, s_gf 5 1 41), (41, s_al 0 42), (42, s_gf 5 0 45), (45, s_cv 1 M_X1_keep 1 48), (48, s_al 0 49), (49, s_gf 5 0 52), (52, s_cv 0 M_X0_passHour 0 55), (55, s_pop 56), (56, s_inc 2 (1) 59), (59, s_go 32), (62, s_al 0 63), (63, s_gf 5 0 66), (66, s_cv 0 M_X0_fallenSet 0 69), (69, s_ir)]
set_option maxRecDepth 100000 in
set_option maxHeartbeats 4000000 in
theorem ok_X5_hours : nv_ok_P M_X5_hours P_X5_hours :=
  nv_oc (n_iload_n (k := 1) (by decide +kernel)) <|
  nv_oc (n_iconst (z := 1) (by decide +kernel)) <|
  nv_oc (n_bipush (z := 40) (by decide +kernel) (by decide)) <|
  nv_oc (n_static (M' := M_X5_outside) (idx := 56) (n := 3) (by decide +kernel) fn_X5_outside st_X5_outside l_X5_56 ⟨by decide, by decide⟩) <|
  nv_oc (n_if_eq (off := 5) (tgt := 12) (by decide +kernel) (by decide)) <|
  nv_oc (n_iconst (z := -1) (by decide +kernel)) <|
  nv_oc (n_iret (by decide +kernel) rfl) <|
  nv_oc (n_aload_n (k := 0) (by decide +kernel)) <|
  nv_oc (n_getfield (idx := 12) (ci := 5) (k := 0) (N := 10) (D := RX5) (T := TX5) (by decide +kernel) rfl i_X5 (by decide) (by decide) f_X5_12) <|
  nv_oc (n_getfield (idx := 131) (ci := 0) (k := 2) (N := 11) (D := RX0) (T := TX0) (by decide +kernel) rfl i_X0 (by decide) (by decide) f_X5_131) <|
  nv_oc (n_iload_n (k := 1) (by decide +kernel)) <|
  nv_oc (n_iadd (by decide +kernel)) <|
  nv_oc (n_sipush (z := 9999) (by decide +kernel) (by decide)) <|
  nv_oc (n_icmp_le (off := 6) (tgt := 30) (by decide +kernel) (by decide)) <|
  nv_oc (n_bipush (z := -3) (by decide +kernel) (by decide)) <|
  nv_oc (n_iret (by decide +kernel) rfl) <|
  nv_oc (n_iconst (z := 0) (by decide +kernel)) <|
  nv_oc (n_istore_n (k := 2) (by decide +kernel) (by decide)) <|
  nv_oc (n_iload_n (k := 2) (by decide +kernel)) <|
  nv_oc (n_iload_n (k := 1) (by decide +kernel)) <|
  nv_oc (n_icmp_ge (off := 28) (tgt := 62) (by decide +kernel) (by decide)) <|
  nv_oc (n_aload_n (k := 0) (by decide +kernel)) <|
  nv_oc (n_getfield (idx := 19) (ci := 5) (k := 1) (N := 10) (D := RX5) (T := TX5) (by decide +kernel) rfl i_X5 (by decide) (by decide) f_X5_19) <|
  nv_oc (n_aload_n (k := 0) (by decide +kernel)) <|
  nv_oc (n_getfield (idx := 12) (ci := 5) (k := 0) (N := 10) (D := RX5) (T := TX5) (by decide +kernel) rfl i_X5 (by decide) (by decide) f_X5_12) <|
  nv_oc (n_virtual (M' := M_X1_keep) (idx := 147) (n := 1) (ci := 1) (N := 3) (D := RX1) (T := TX1) (by decide +kernel) fn_X1_keep fv_X1_keep rfl rfl l_X5_147 ⟨by decide, by decide⟩) <|
  nv_oc (n_aload_n (k := 0) (by decide +kernel)) <|
  nv_oc (n_getfield (idx := 12) (ci := 5) (k := 0) (N := 10) (D := RX5) (T := TX5) (by decide +kernel) rfl i_X5 (by decide) (by decide) f_X5_12) <|
  nv_oc (n_virtual (M' := M_X0_passHour) (idx := 150) (n := 0) (ci := 0) (N := 11) (D := RX0) (T := TX0) (by decide +kernel) fn_X0_passHour fv_X0_passHour rfl rfl l_X5_150 ⟨by decide, by decide⟩) <|
  nv_oc (n_pop (by decide +kernel)) <|
  nv_oc (n_iinc (k := 2) (d := 1) (by decide +kernel) (by decide)) <|
  nv_oc (n_goto (off := -27) (tgt := 32) (by decide +kernel) (by decide)) <|
  nv_oc (n_aload_n (k := 0) (by decide +kernel)) <|
  nv_oc (n_getfield (idx := 12) (ci := 5) (k := 0) (N := 10) (D := RX5) (T := TX5) (by decide +kernel) rfl i_X5 (by decide) (by decide) f_X5_12) <|
  nv_oc (n_virtual (M' := M_X0_fallenSet) (idx := 134) (n := 0) (ci := 0) (N := 11) (D := RX0) (T := TX0) (by decide +kernel) fn_X0_fallenSet fv_X0_fallenSet rfl rfl l_X5_134 ⟨by decide, by decide⟩) <|
  nv_oc (n_iret (by decide +kernel) rfl) <|
  nv_on
def M_X5_set : nv_MD := (RX5, yX5_set, cX5_set, 4, (some .int), 3, 82)
theorem fn_X5_set : nv_fn M_X5_set 2 := ⟨List.mem_of_getElem? (i := 514) (by decide +kernel), List.mem_of_getElem? (i := 44) (by decide +kernel), by decide +kernel⟩
theorem fv_X5_set : nv_fnV M_X5_set := ⟨List.mem_of_getElem? (i := 512) (by decide +kernel), List.mem_of_getElem? (i := 513) (by decide +kernel)⟩
def P_X5_set : nv_Pg := [(0, s_al 0 1), (1, s_il 1 2), (2, s_cv 5 M_X5_noSawyer 1 5), (5, s_if c_eq 8 22), (8, s_il 2 9), (9, s_ki (-4) 11), (11, s_ic c_eq 24 14), (14, s_al 0 15), (15, s_il 2 16), (16, s_cv 5 M_X5_noPlank 1 19), (19, s_if c_eq 24 22), (22, s_ki (-1) 23), (23, s_ir), (24, s_al 0 25), (25, s_gf 5 0 28), (28, s_gf 0 9 31), (31, s_il 1 32), (32, s_ia 33), (33, s_is 3 34), (34, s_il 3 35), (35, s_il 2 36), (36, s_ic c_eq 39 42), (39, s_ki (-2) 41), (41, s_ir), (42, s_al 0 43), (43, s_gf 5 1 46), (46, s_al 0 47), (47, s_gf 5 0 50), (50, s_cv 1 M_X1_keep 1 53), (53, s_al 0 54), (54, s_gf 5 0 57), (57, s_gf 0 9 60), (60, s_il 1 61), (61, s_il 2 62), (62, s_iw 63), (63, s_il 3 64), (64, s_ir)]
set_option maxRecDepth 100000 in
set_option maxHeartbeats 4000000 in
theorem ok_X5_set : nv_ok_P M_X5_set P_X5_set :=
  nv_oc (n_aload_n (k := 0) (by decide +kernel)) <|
  nv_oc (n_iload_n (k := 1) (by decide +kernel)) <|
  nv_oc (n_virtual (M' := M_X5_noSawyer) (idx := 91) (n := 1) (ci := 5) (N := 10) (D := RX5) (T := TX5) (by decide +kernel) fn_X5_noSawyer fv_X5_noSawyer rfl rfl l_X5_91 ⟨by decide, by decide⟩) <|
  nv_oc (n_if_ne (off := 17) (tgt := 22) (by decide +kernel) (by decide)) <|
  nv_oc (n_iload_n (k := 2) (by decide +kernel)) <|
  nv_oc (n_bipush (z := -4) (by decide +kernel) (by decide)) <|
  nv_oc (n_icmp_eq (off := 13) (tgt := 24) (by decide +kernel) (by decide)) <|
  nv_oc (n_aload_n (k := 0) (by decide +kernel)) <|
  nv_oc (n_iload_n (k := 2) (by decide +kernel)) <|
  nv_oc (n_virtual (M' := M_X5_noPlank) (idx := 70) (n := 1) (ci := 5) (N := 10) (D := RX5) (T := TX5) (by decide +kernel) fn_X5_noPlank fv_X5_noPlank rfl rfl l_X5_70 ⟨by decide, by decide⟩) <|
  nv_oc (n_if_eq (off := 5) (tgt := 24) (by decide +kernel) (by decide)) <|
  nv_oc (n_iconst (z := -1) (by decide +kernel)) <|
  nv_oc (n_iret (by decide +kernel) rfl) <|
  nv_oc (n_aload_n (k := 0) (by decide +kernel)) <|
  nv_oc (n_getfield (idx := 12) (ci := 5) (k := 0) (N := 10) (D := RX5) (T := TX5) (by decide +kernel) rfl i_X5 (by decide) (by decide) f_X5_12) <|
  nv_oc (n_getfield (idx := 100) (ci := 0) (k := 9) (N := 11) (D := RX0) (T := TX0) (by decide +kernel) rfl i_X0 (by decide) (by decide) f_X5_100) <|
  nv_oc (n_iload_n (k := 1) (by decide +kernel)) <|
  nv_oc (n_iaload (by decide +kernel)) <|
  nv_oc (n_istore_n (k := 3) (by decide +kernel) (by decide)) <|
  nv_oc (n_iload_n (k := 3) (by decide +kernel)) <|
  nv_oc (n_iload_n (k := 2) (by decide +kernel)) <|
  nv_oc (n_icmp_ne (off := 6) (tgt := 42) (by decide +kernel) (by decide)) <|
  nv_oc (n_bipush (z := -2) (by decide +kernel) (by decide)) <|
  nv_oc (n_iret (by decide +kernel) rfl) <|
  nv_oc (n_aload_n (k := 0) (by decide +kernel)) <|
  nv_oc (n_getfield (idx := 19) (ci := 5) (k := 1) (N := 10) (D := RX5) (T := TX5) (by decide +kernel) rfl i_X5 (by decide) (by decide) f_X5_19) <|
  nv_oc (n_aload_n (k := 0) (by decide +kernel)) <|
  nv_oc (n_getfield (idx := 12) (ci := 5) (k := 0) (N := 10) (D := RX5) (T := TX5) (by decide +kernel) rfl i_X5 (by decide) (by decide) f_X5_12) <|
  nv_oc (n_virtual (M' := M_X1_keep) (idx := 147) (n := 1) (ci := 1) (N := 3) (D := RX1) (T := TX1) (by decide +kernel) fn_X1_keep fv_X1_keep rfl rfl l_X5_147 ⟨by decide, by decide⟩) <|
  nv_oc (n_aload_n (k := 0) (by decide +kernel)) <|
  nv_oc (n_getfield (idx := 12) (ci := 5) (k := 0) (N := 10) (D := RX5) (T := TX5) (by decide +kernel) rfl i_X5 (by decide) (by decide) f_X5_12) <|
  nv_oc (n_getfield (idx := 100) (ci := 0) (k := 9) (N := 11) (D := RX0) (T := TX0) (by decide +kernel) rfl i_X0 (by decide) (by decide) f_X5_100) <|
  nv_oc (n_iload_n (k := 1) (by decide +kernel)) <|
  nv_oc (n_iload_n (k := 2) (by decide +kernel)) <|
  nv_oc (n_iastore (by decide +kernel)) <|
  nv_oc (n_iload_n (k := 3) (by decide +kernel)) <|
  nv_oc (n_iret (by decide +kernel) rfl) <|
  nv_on
def M_X5_sharpen : nv_MD := (RX5, yX5_sharpen, cX5_sharpen, 3, (some .int), 3, 82)
theorem fn_X5_sharpen : nv_fn M_X5_sharpen 2 := ⟨List.mem_of_getElem? (i := 518) (by decide +kernel), List.mem_of_getElem? (i := 44) (by decide +kernel), by decide +kernel⟩
theorem fv_X5_sharpen : nv_fnV M_X5_sharpen := ⟨List.mem_of_getElem? (i := 516) (by decide +kernel), List.mem_of_getElem? (i := 517) (by decide +kernel)⟩
def P_X5_sharpen : nv_Pg := [(0, s_al 0 1), (1, s_il 1 2), (2, s_cv 5 M_X5_noSawyer 1 5), (5, s_if c_eq 8 18), (8, s_il 2 9), (9, s_ki (1) 10), (10, s_ki (9) 12), (12, s_cs M_X5_outside 3 15), (15, s_if c_eq 20 18), (18, s_ki (-1) 19), (19, s_ir), (20, s_al 0 21), (21, s_gf 5 0 24), (24, s_gf 0 8 27), (27, s_il 1 28), (28, s_ia 29), (29, s_ki (9) 31), (31, s_ic c_eq 34 37), (34, s_ki (-2) 36), (36, s_ir), (37, s_al 0 38), (38, s_gf 5 1 41), (41, s_al 0 42), (42, s_gf 5 0 45), (45, s_cv 1 M_X1_keep 1 48), (48, s_al 0 49), (49, s_gf 5 0 52), (52, s_il 1 53), (53, s_il 2 54), (54, s_cv 0 M_X0_addTeeth 2 57), (57, s_al 0 58), (58, s_gf 5 0 61), (61, s_gf 0 8 64), (64, s_il 1 65), (65, s_ia 66), (66, s_ir)]
set_option maxRecDepth 100000 in
set_option maxHeartbeats 4000000 in
theorem ok_X5_sharpen : nv_ok_P M_X5_sharpen P_X5_sharpen :=
  nv_oc (n_aload_n (k := 0) (by decide +kernel)) <|
  nv_oc (n_iload_n (k := 1) (by decide +kernel)) <|
  nv_oc (n_virtual (M' := M_X5_noSawyer) (idx := 91) (n := 1) (ci := 5) (N := 10) (D := RX5) (T := TX5) (by decide +kernel) fn_X5_noSawyer fv_X5_noSawyer rfl rfl l_X5_91 ⟨by decide, by decide⟩) <|
  nv_oc (n_if_ne (off := 13) (tgt := 18) (by decide +kernel) (by decide)) <|
  nv_oc (n_iload_n (k := 2) (by decide +kernel)) <|
  nv_oc (n_iconst (z := 1) (by decide +kernel)) <|
  nv_oc (n_bipush (z := 9) (by decide +kernel) (by decide)) <|
  nv_oc (n_static (M' := M_X5_outside) (idx := 56) (n := 3) (by decide +kernel) fn_X5_outside st_X5_outside l_X5_56 ⟨by decide, by decide⟩) <|
  nv_oc (n_if_eq (off := 5) (tgt := 20) (by decide +kernel) (by decide)) <|
  nv_oc (n_iconst (z := -1) (by decide +kernel)) <|
  nv_oc (n_iret (by decide +kernel) rfl) <|
  nv_oc (n_aload_n (k := 0) (by decide +kernel)) <|
  nv_oc (n_getfield (idx := 12) (ci := 5) (k := 0) (N := 10) (D := RX5) (T := TX5) (by decide +kernel) rfl i_X5 (by decide) (by decide) f_X5_12) <|
  nv_oc (n_getfield (idx := 97) (ci := 0) (k := 8) (N := 11) (D := RX0) (T := TX0) (by decide +kernel) rfl i_X0 (by decide) (by decide) f_X5_97) <|
  nv_oc (n_iload_n (k := 1) (by decide +kernel)) <|
  nv_oc (n_iaload (by decide +kernel)) <|
  nv_oc (n_bipush (z := 9) (by decide +kernel) (by decide)) <|
  nv_oc (n_icmp_ne (off := 6) (tgt := 37) (by decide +kernel) (by decide)) <|
  nv_oc (n_bipush (z := -2) (by decide +kernel) (by decide)) <|
  nv_oc (n_iret (by decide +kernel) rfl) <|
  nv_oc (n_aload_n (k := 0) (by decide +kernel)) <|
  nv_oc (n_getfield (idx := 19) (ci := 5) (k := 1) (N := 10) (D := RX5) (T := TX5) (by decide +kernel) rfl i_X5 (by decide) (by decide) f_X5_19) <|
  nv_oc (n_aload_n (k := 0) (by decide +kernel)) <|
  nv_oc (n_getfield (idx := 12) (ci := 5) (k := 0) (N := 10) (D := RX5) (T := TX5) (by decide +kernel) rfl i_X5 (by decide) (by decide) f_X5_12) <|
  nv_oc (n_virtual (M' := M_X1_keep) (idx := 147) (n := 1) (ci := 1) (N := 3) (D := RX1) (T := TX1) (by decide +kernel) fn_X1_keep fv_X1_keep rfl rfl l_X5_147 ⟨by decide, by decide⟩) <|
  nv_oc (n_aload_n (k := 0) (by decide +kernel)) <|
  nv_oc (n_getfield (idx := 12) (ci := 5) (k := 0) (N := 10) (D := RX5) (T := TX5) (by decide +kernel) rfl i_X5 (by decide) (by decide) f_X5_12) <|
  nv_oc (n_iload_n (k := 1) (by decide +kernel)) <|
  nv_oc (n_iload_n (k := 2) (by decide +kernel)) <|
  nv_oc (n_virtual (M' := M_X0_addTeeth) (idx := 154) (n := 2) (ci := 0) (N := 11) (D := RX0) (T := TX0) (by decide +kernel) fn_X0_addTeeth fv_X0_addTeeth rfl rfl l_X5_154 ⟨by decide, by decide⟩) <|
  nv_oc (n_aload_n (k := 0) (by decide +kernel)) <|
  nv_oc (n_getfield (idx := 12) (ci := 5) (k := 0) (N := 10) (D := RX5) (T := TX5) (by decide +kernel) rfl i_X5 (by decide) (by decide) f_X5_12) <|
  nv_oc (n_getfield (idx := 97) (ci := 0) (k := 8) (N := 11) (D := RX0) (T := TX0) (by decide +kernel) rfl i_X0 (by decide) (by decide) f_X5_97) <|
  nv_oc (n_iload_n (k := 1) (by decide +kernel)) <|
  nv_oc (n_iaload (by decide +kernel)) <|
  nv_oc (n_iret (by decide +kernel) rfl) <|
  nv_on
def M_X5_soak : nv_MD := (RX5, yX5_soak, cX5_soak, 3, (some .int), 3, 82)
theorem fn_X5_soak : nv_fn M_X5_soak 2 := ⟨List.mem_of_getElem? (i := 527) (by decide +kernel), List.mem_of_getElem? (i := 44) (by decide +kernel), by decide +kernel⟩
theorem fv_X5_soak : nv_fnV M_X5_soak := ⟨List.mem_of_getElem? (i := 525) (by decide +kernel), List.mem_of_getElem? (i := 526) (by decide +kernel)⟩
def P_X5_soak : nv_Pg := [(0, s_al 0 1), (1, s_il 1 2), (2, s_cv 5 M_X5_noPlank 1 5), (5, s_if c_eq 8 18), (8, s_il 2 9), (9, s_ki (1) 10), (10, s_ki (99) 12), (12, s_cs M_X5_outside 3 15), (15, s_if c_eq 20 18), (18, s_ki (-1) 19), (19, s_ir), (20, s_al 0 21), (21, s_gf 5 0 24), (24, s_gf 0 6 27), (27, s_il 1 28), (28, s_ia 29), (29, s_if c_eq 46 32), (32, s_al 0 33), (33, s_gf 5 0 36), (36, s_gf 0 6 39), (39, s_il 1 40), (40, s_ia 41), (41, s_ki (99) 43), (43, s_ic c_eq 46 49), (46, s_ki (-2) 48), (48, s_ir), (49, s_al 0 50), (50, s_gf 5 1 53), (53, s_al 0 54), (54, s_gf 5 0 57), (57, s_cv 1 M_X1_keep 1 60), (60, s_al 0 61), (61, s_gf 5 0 64), (64, s_gf 0 6 67), (67, s_il 1 68), (68, s_ki (99) 70), (70, s_al 0 71), (71, s_gf 5 0 74), (74, s_gf 0 6 77), (77, s_il 1 78), (78, s_ia 79), (79, s_il 2 80), (80, s_add 81), (81, s_min 84), (84, s_iw 85), (85, s_al 0 86), (86, s_gf 5 0 89), (89, s_gf 0 6 92), (92, s_il 1 93), (93, s_ia 94), (94, s_ir)]
set_option maxRecDepth 100000 in
set_option maxHeartbeats 4000000 in
theorem ok_X5_soak : nv_ok_P M_X5_soak P_X5_soak :=
  nv_oc (n_aload_n (k := 0) (by decide +kernel)) <|
  nv_oc (n_iload_n (k := 1) (by decide +kernel)) <|
  nv_oc (n_virtual (M' := M_X5_noPlank) (idx := 70) (n := 1) (ci := 5) (N := 10) (D := RX5) (T := TX5) (by decide +kernel) fn_X5_noPlank fv_X5_noPlank rfl rfl l_X5_70 ⟨by decide, by decide⟩) <|
  nv_oc (n_if_ne (off := 13) (tgt := 18) (by decide +kernel) (by decide)) <|
  nv_oc (n_iload_n (k := 2) (by decide +kernel)) <|
  nv_oc (n_iconst (z := 1) (by decide +kernel)) <|
  nv_oc (n_bipush (z := 99) (by decide +kernel) (by decide)) <|
  nv_oc (n_static (M' := M_X5_outside) (idx := 56) (n := 3) (by decide +kernel) fn_X5_outside st_X5_outside l_X5_56 ⟨by decide, by decide⟩) <|
  nv_oc (n_if_eq (off := 5) (tgt := 20) (by decide +kernel) (by decide)) <|
  nv_oc (n_iconst (z := -1) (by decide +kernel)) <|
  nv_oc (n_iret (by decide +kernel) rfl) <|
  nv_oc (n_aload_n (k := 0) (by decide +kernel)) <|
  nv_oc (n_getfield (idx := 12) (ci := 5) (k := 0) (N := 10) (D := RX5) (T := TX5) (by decide +kernel) rfl i_X5 (by decide) (by decide) f_X5_12) <|
  nv_oc (n_getfield (idx := 81) (ci := 0) (k := 6) (N := 11) (D := RX0) (T := TX0) (by decide +kernel) rfl i_X0 (by decide) (by decide) f_X5_81) <|
  nv_oc (n_iload_n (k := 1) (by decide +kernel)) <|
  nv_oc (n_iaload (by decide +kernel)) <|
  nv_oc (n_if_eq (off := 17) (tgt := 46) (by decide +kernel) (by decide)) <|
  nv_oc (n_aload_n (k := 0) (by decide +kernel)) <|
  nv_oc (n_getfield (idx := 12) (ci := 5) (k := 0) (N := 10) (D := RX5) (T := TX5) (by decide +kernel) rfl i_X5 (by decide) (by decide) f_X5_12) <|
  nv_oc (n_getfield (idx := 81) (ci := 0) (k := 6) (N := 11) (D := RX0) (T := TX0) (by decide +kernel) rfl i_X0 (by decide) (by decide) f_X5_81) <|
  nv_oc (n_iload_n (k := 1) (by decide +kernel)) <|
  nv_oc (n_iaload (by decide +kernel)) <|
  nv_oc (n_bipush (z := 99) (by decide +kernel) (by decide)) <|
  nv_oc (n_icmp_ne (off := 6) (tgt := 49) (by decide +kernel) (by decide)) <|
  nv_oc (n_bipush (z := -2) (by decide +kernel) (by decide)) <|
  nv_oc (n_iret (by decide +kernel) rfl) <|
  nv_oc (n_aload_n (k := 0) (by decide +kernel)) <|
  nv_oc (n_getfield (idx := 19) (ci := 5) (k := 1) (N := 10) (D := RX5) (T := TX5) (by decide +kernel) rfl i_X5 (by decide) (by decide) f_X5_19) <|
  nv_oc (n_aload_n (k := 0) (by decide +kernel)) <|
  nv_oc (n_getfield (idx := 12) (ci := 5) (k := 0) (N := 10) (D := RX5) (T := TX5) (by decide +kernel) rfl i_X5 (by decide) (by decide) f_X5_12) <|
  nv_oc (n_virtual (M' := M_X1_keep) (idx := 147) (n := 1) (ci := 1) (N := 3) (D := RX1) (T := TX1) (by decide +kernel) fn_X1_keep fv_X1_keep rfl rfl l_X5_147 ⟨by decide, by decide⟩) <|
  nv_oc (n_aload_n (k := 0) (by decide +kernel)) <|
  nv_oc (n_getfield (idx := 12) (ci := 5) (k := 0) (N := 10) (D := RX5) (T := TX5) (by decide +kernel) rfl i_X5 (by decide) (by decide) f_X5_12) <|
  nv_oc (n_getfield (idx := 81) (ci := 0) (k := 6) (N := 11) (D := RX0) (T := TX0) (by decide +kernel) rfl i_X0 (by decide) (by decide) f_X5_81) <|
  nv_oc (n_iload_n (k := 1) (by decide +kernel)) <|
  nv_oc (n_bipush (z := 99) (by decide +kernel) (by decide)) <|
  nv_oc (n_aload_n (k := 0) (by decide +kernel)) <|
  nv_oc (n_getfield (idx := 12) (ci := 5) (k := 0) (N := 10) (D := RX5) (T := TX5) (by decide +kernel) rfl i_X5 (by decide) (by decide) f_X5_12) <|
  nv_oc (n_getfield (idx := 81) (ci := 0) (k := 6) (N := 11) (D := RX0) (T := TX0) (by decide +kernel) rfl i_X0 (by decide) (by decide) f_X5_81) <|
  nv_oc (n_iload_n (k := 1) (by decide +kernel)) <|
  nv_oc (n_iaload (by decide +kernel)) <|
  nv_oc (n_iload_n (k := 2) (by decide +kernel)) <|
  nv_oc (n_iadd (by decide +kernel)) <|
  nv_oc (n_min (idx := 158) (by decide +kernel) l_X5_158 (by decide) (by decide)) <|
  nv_oc (n_iastore (by decide +kernel)) <|
  nv_oc (n_aload_n (k := 0) (by decide +kernel)) <|
  nv_oc (n_getfield (idx := 12) (ci := 5) (k := 0) (N := 10) (D := RX5) (T := TX5) (by decide +kernel) rfl i_X5 (by decide) (by decide) f_X5_12) <|
  nv_oc (n_getfield (idx := 81) (ci := 0) (k := 6) (N := 11) (D := RX0) (T := TX0) (by decide +kernel) rfl i_X0 (by decide) (by decide) f_X5_81) <|
  nv_oc (n_iload_n (k := 1) (by decide +kernel)) <|
  nv_oc (n_iaload (by decide +kernel)) <|
  nv_oc (n_iret (by decide +kernel) rfl) <|
  nv_on
def M_X5_drift : nv_MD := (RX5, yX5_drift, cX5_drift, 3, (some .int), 3, 82)
theorem fn_X5_drift : nv_fn M_X5_drift 1 := ⟨List.mem_of_getElem? (i := 532) (by decide +kernel), List.mem_of_getElem? (i := 44) (by decide +kernel), by decide +kernel⟩
theorem fv_X5_drift : nv_fnV M_X5_drift := ⟨List.mem_of_getElem? (i := 530) (by decide +kernel), List.mem_of_getElem? (i := 531) (by decide +kernel)⟩
def P_X5_drift : nv_Pg := [(0, s_il 1 1), (1, s_ki (1) 2), (2, s_ki (40) 4), (4, s_cs M_X5_outside 3 7), (7, s_if c_eq 12 10), (10, s_ki (-1) 11), (11, s_ir), (12, s_al 0 13), (13, s_gf 5 0 16), (16, s_gf 0 2 19), (19, s_il 1 20), (20, s_add 21), (21, s_ki (9999) 24), (24, s_ic c_le 30 27), (27, s_ki (-3) 29), (29, s_ir), (30, s_ki (0) 31), (31, s_is 2 32), (32, s_il 2 33), (33, s_il 1 34), (34, s_ic c_ge 69 37), (37, s_al 0 38), (38, s_gf 5 1 41), (41, s_al 0 42), (42, s_gf 5 0 45), (45, s_cv 1 M_X1_keep 1 48), (48, s_al 0 49), (49, s_gf 5 0 52), (52, s_cv 0 M_X0_drawAndSet 0 55), (55, s_al 0 56), (56, s_gf 5 0 59), (59, s_cv 0 M_X0_passHour 0 62), (62, s_pop 63), (63, s_inc 2 (1) 66), (66, s_go 32), (69, s_al 0 70), (70, s_gf 5 0 73), (73, s_cv 0 M_X0_fallenSet 0 76), (76, s_ir)]
set_option maxRecDepth 100000 in
set_option maxHeartbeats 4000000 in
theorem ok_X5_drift : nv_ok_P M_X5_drift P_X5_drift :=
  nv_oc (n_iload_n (k := 1) (by decide +kernel)) <|
  nv_oc (n_iconst (z := 1) (by decide +kernel)) <|
  nv_oc (n_bipush (z := 40) (by decide +kernel) (by decide)) <|
  nv_oc (n_static (M' := M_X5_outside) (idx := 56) (n := 3) (by decide +kernel) fn_X5_outside st_X5_outside l_X5_56 ⟨by decide, by decide⟩) <|
  nv_oc (n_if_eq (off := 5) (tgt := 12) (by decide +kernel) (by decide)) <|
  nv_oc (n_iconst (z := -1) (by decide +kernel)) <|
  nv_oc (n_iret (by decide +kernel) rfl) <|
  nv_oc (n_aload_n (k := 0) (by decide +kernel)) <|
  nv_oc (n_getfield (idx := 12) (ci := 5) (k := 0) (N := 10) (D := RX5) (T := TX5) (by decide +kernel) rfl i_X5 (by decide) (by decide) f_X5_12) <|
  nv_oc (n_getfield (idx := 131) (ci := 0) (k := 2) (N := 11) (D := RX0) (T := TX0) (by decide +kernel) rfl i_X0 (by decide) (by decide) f_X5_131) <|
  nv_oc (n_iload_n (k := 1) (by decide +kernel)) <|
  nv_oc (n_iadd (by decide +kernel)) <|
  nv_oc (n_sipush (z := 9999) (by decide +kernel) (by decide)) <|
  nv_oc (n_icmp_le (off := 6) (tgt := 30) (by decide +kernel) (by decide)) <|
  nv_oc (n_bipush (z := -3) (by decide +kernel) (by decide)) <|
  nv_oc (n_iret (by decide +kernel) rfl) <|
  nv_oc (n_iconst (z := 0) (by decide +kernel)) <|
  nv_oc (n_istore_n (k := 2) (by decide +kernel) (by decide)) <|
  nv_oc (n_iload_n (k := 2) (by decide +kernel)) <|
  nv_oc (n_iload_n (k := 1) (by decide +kernel)) <|
  nv_oc (n_icmp_ge (off := 35) (tgt := 69) (by decide +kernel) (by decide)) <|
  nv_oc (n_aload_n (k := 0) (by decide +kernel)) <|
  nv_oc (n_getfield (idx := 19) (ci := 5) (k := 1) (N := 10) (D := RX5) (T := TX5) (by decide +kernel) rfl i_X5 (by decide) (by decide) f_X5_19) <|
  nv_oc (n_aload_n (k := 0) (by decide +kernel)) <|
  nv_oc (n_getfield (idx := 12) (ci := 5) (k := 0) (N := 10) (D := RX5) (T := TX5) (by decide +kernel) rfl i_X5 (by decide) (by decide) f_X5_12) <|
  nv_oc (n_virtual (M' := M_X1_keep) (idx := 147) (n := 1) (ci := 1) (N := 3) (D := RX1) (T := TX1) (by decide +kernel) fn_X1_keep fv_X1_keep rfl rfl l_X5_147 ⟨by decide, by decide⟩) <|
  nv_oc (n_aload_n (k := 0) (by decide +kernel)) <|
  nv_oc (n_getfield (idx := 12) (ci := 5) (k := 0) (N := 10) (D := RX5) (T := TX5) (by decide +kernel) rfl i_X5 (by decide) (by decide) f_X5_12) <|
  nv_oc (n_virtual (M' := M_X0_drawAndSet) (idx := 164) (n := 0) (ci := 0) (N := 11) (D := RX0) (T := TX0) (by decide +kernel) fn_X0_drawAndSet fv_X0_drawAndSet rfl rfl l_X5_164 ⟨by decide, by decide⟩) <|
  nv_oc (n_aload_n (k := 0) (by decide +kernel)) <|
  nv_oc (n_getfield (idx := 12) (ci := 5) (k := 0) (N := 10) (D := RX5) (T := TX5) (by decide +kernel) rfl i_X5 (by decide) (by decide) f_X5_12) <|
  nv_oc (n_virtual (M' := M_X0_passHour) (idx := 150) (n := 0) (ci := 0) (N := 11) (D := RX0) (T := TX0) (by decide +kernel) fn_X0_passHour fv_X0_passHour rfl rfl l_X5_150 ⟨by decide, by decide⟩) <|
  nv_oc (n_pop (by decide +kernel)) <|
  nv_oc (n_iinc (k := 2) (d := 1) (by decide +kernel) (by decide)) <|
  nv_oc (n_goto (off := -34) (tgt := 32) (by decide +kernel) (by decide)) <|
  nv_oc (n_aload_n (k := 0) (by decide +kernel)) <|
  nv_oc (n_getfield (idx := 12) (ci := 5) (k := 0) (N := 10) (D := RX5) (T := TX5) (by decide +kernel) rfl i_X5 (by decide) (by decide) f_X5_12) <|
  nv_oc (n_virtual (M' := M_X0_fallenSet) (idx := 134) (n := 0) (ci := 0) (N := 11) (D := RX0) (T := TX0) (by decide +kernel) fn_X0_fallenSet fv_X0_fallenSet rfl rfl l_X5_134 ⟨by decide, by decide⟩) <|
  nv_oc (n_iret (by decide +kernel) rfl) <|
  nv_on
def M_X5_undo : nv_MD := (RX5, yX5_undo, cX5_undo, 1, (some .int), 3, 82)
theorem fn_X5_undo : nv_fn M_X5_undo 0 := ⟨List.mem_of_getElem? (i := 543) (by decide +kernel), List.mem_of_getElem? (i := 44) (by decide +kernel), by decide +kernel⟩
theorem fv_X5_undo : nv_fnV M_X5_undo := ⟨List.mem_of_getElem? (i := 541) (by decide +kernel), List.mem_of_getElem? (i := 542) (by decide +kernel)⟩
def P_X5_undo : nv_Pg := [(0, s_al 0 1), (1, s_gf 5 1 4), (4, s_al 0 5), (5, s_gf 5 0 8), (8, s_cv 1 M_X1_giveBack 1 11), (11, s_if c_eq 24 14), (14, s_al 0 15), (15, s_gf 5 1 18), (18, s_gf 1 1 21), (21, s_go 26), (24, s_ki (-4) 26), (26, s_ir)]
set_option maxRecDepth 100000 in
set_option maxHeartbeats 4000000 in
theorem ok_X5_undo : nv_ok_P M_X5_undo P_X5_undo :=
  nv_oc (n_aload_n (k := 0) (by decide +kernel)) <|
  nv_oc (n_getfield (idx := 19) (ci := 5) (k := 1) (N := 10) (D := RX5) (T := TX5) (by decide +kernel) rfl i_X5 (by decide) (by decide) f_X5_19) <|
  nv_oc (n_aload_n (k := 0) (by decide +kernel)) <|
  nv_oc (n_getfield (idx := 12) (ci := 5) (k := 0) (N := 10) (D := RX5) (T := TX5) (by decide +kernel) rfl i_X5 (by decide) (by decide) f_X5_12) <|
  nv_oc (n_virtual (M' := M_X1_giveBack) (idx := 167) (n := 1) (ci := 1) (N := 3) (D := RX1) (T := TX1) (by decide +kernel) fn_X1_giveBack fv_X1_giveBack rfl rfl l_X5_167 ⟨by decide, by decide⟩) <|
  nv_oc (n_if_eq (off := 13) (tgt := 24) (by decide +kernel) (by decide)) <|
  nv_oc (n_aload_n (k := 0) (by decide +kernel)) <|
  nv_oc (n_getfield (idx := 19) (ci := 5) (k := 1) (N := 10) (D := RX5) (T := TX5) (by decide +kernel) rfl i_X5 (by decide) (by decide) f_X5_19) <|
  nv_oc (n_getfield (idx := 144) (ci := 1) (k := 1) (N := 3) (D := RX1) (T := TX1) (by decide +kernel) rfl i_X1 (by decide) (by decide) f_X5_144) <|
  nv_oc (n_goto (off := 5) (tgt := 26) (by decide +kernel) (by decide)) <|
  nv_oc (n_bipush (z := -4) (by decide +kernel) (by decide)) <|
  nv_oc (n_iret (by decide +kernel) rfl) <|
  nv_on
def M_X5_seed : nv_MD := (RX5, yX5_seed, cX5_seed, 3, (some .int), 0, 0)
theorem fn_X5_seed : nv_fn M_X5_seed 1 := ⟨List.mem_of_getElem? (i := 551) (by decide +kernel), List.mem_of_getElem? (i := 44) (by decide +kernel), by decide +kernel⟩
theorem fv_X5_seed : nv_fnV M_X5_seed := ⟨List.mem_of_getElem? (i := 549) (by decide +kernel), List.mem_of_getElem? (i := 550) (by decide +kernel)⟩
def P_X5_seed : nv_Pg := [(0, s_il 1 1), (1, s_if c_ge 6 4), (4, s_ki (-1) 5), (5, s_ir), (6, s_al 0 7), (7, s_gf 5 0 10), (10, s_gf 0 3 13), (13, s_is 2 14), (14, s_al 0 15), (15, s_gf 5 0 18), (18, s_il 1 19), (19, s_pf 0 3 22), (22, s_il 2 23), (23, s_ir)]
set_option maxRecDepth 100000 in
set_option maxHeartbeats 4000000 in
theorem ok_X5_seed : nv_ok_P M_X5_seed P_X5_seed :=
  nv_oc (n_iload_n (k := 1) (by decide +kernel)) <|
  nv_oc (n_if_ge (off := 5) (tgt := 6) (by decide +kernel) (by decide)) <|
  nv_oc (n_iconst (z := -1) (by decide +kernel)) <|
  nv_oc (n_iret (by decide +kernel) rfl) <|
  nv_oc (n_aload_n (k := 0) (by decide +kernel)) <|
  nv_oc (n_getfield (idx := 12) (ci := 5) (k := 0) (N := 10) (D := RX5) (T := TX5) (by decide +kernel) rfl i_X5 (by decide) (by decide) f_X5_12) <|
  nv_oc (n_getfield (idx := 117) (ci := 0) (k := 3) (N := 11) (D := RX0) (T := TX0) (by decide +kernel) rfl i_X0 (by decide) (by decide) f_X5_117) <|
  nv_oc (n_istore_n (k := 2) (by decide +kernel) (by decide)) <|
  nv_oc (n_aload_n (k := 0) (by decide +kernel)) <|
  nv_oc (n_getfield (idx := 12) (ci := 5) (k := 0) (N := 10) (D := RX5) (T := TX5) (by decide +kernel) rfl i_X5 (by decide) (by decide) f_X5_12) <|
  nv_oc (n_iload_n (k := 1) (by decide +kernel)) <|
  nv_oc (n_putfield (idx := 117) (ci := 0) (k := 3) (N := 11) (D := RX0) (T := TX0) tyX0 tyX0_ok nmX0 (by decide +kernel) rfl i_X0 (by decide) (by decide) rfl f_X5_117 rfl) <|
  nv_oc (n_iload_n (k := 2) (by decide +kernel)) <|
  nv_oc (n_iret (by decide +kernel) rfl) <|
  nv_on
def M_X5_foretell : nv_MD := (RX5, yX5_foretell, cX5_foretell, 2, none, 4, 94)
theorem fn_X5_foretell : nv_fn M_X5_foretell 1 := ⟨List.mem_of_getElem? (i := 559) (by decide +kernel), List.mem_of_getElem? (i := 44) (by decide +kernel), by decide +kernel⟩
theorem fv_X5_foretell : nv_fnV M_X5_foretell := ⟨List.mem_of_getElem? (i := 558) (by decide +kernel), List.mem_of_getElem? (i := 15) (by decide +kernel)⟩
def P_X5_foretell : nv_Pg := [(0, s_al 0 1), (1, s_gf 5 5 4), (4, s_al 0 5), (5, s_gf 5 0 8), (8, s_cv 0 M_X0_takeAll 1 11), (11, s_al 0 12), (12, s_gf 5 5 15), (15, s_il 1 16), (16, s_cv 0 M_X0_passHours 1 19), (19, s_vr)]
set_option maxRecDepth 100000 in
set_option maxHeartbeats 4000000 in
theorem ok_X5_foretell : nv_ok_P M_X5_foretell P_X5_foretell :=
  nv_oc (n_aload_n (k := 0) (by decide +kernel)) <|
  nv_oc (n_getfield (idx := 29) (ci := 5) (k := 5) (N := 10) (D := RX5) (T := TX5) (by decide +kernel) rfl i_X5 (by decide) (by decide) f_X5_29) <|
  nv_oc (n_aload_n (k := 0) (by decide +kernel)) <|
  nv_oc (n_getfield (idx := 12) (ci := 5) (k := 0) (N := 10) (D := RX5) (T := TX5) (by decide +kernel) rfl i_X5 (by decide) (by decide) f_X5_12) <|
  nv_oc (n_virtual (M' := M_X0_takeAll) (idx := 121) (n := 1) (ci := 0) (N := 11) (D := RX0) (T := TX0) (by decide +kernel) fn_X0_takeAll fv_X0_takeAll rfl rfl l_X5_121 ⟨by decide, by decide⟩) <|
  nv_oc (n_aload_n (k := 0) (by decide +kernel)) <|
  nv_oc (n_getfield (idx := 29) (ci := 5) (k := 5) (N := 10) (D := RX5) (T := TX5) (by decide +kernel) rfl i_X5 (by decide) (by decide) f_X5_29) <|
  nv_oc (n_iload_n (k := 1) (by decide +kernel)) <|
  nv_oc (n_virtual (M' := M_X0_passHours) (idx := 194) (n := 1) (ci := 0) (N := 11) (D := RX0) (T := TX0) (by decide +kernel) fn_X0_passHours fv_X0_passHours rfl rfl l_X5_194 ⟨by decide, by decide⟩) <|
  nv_oc (n_vret (by decide +kernel) rfl) <|
  nv_on
def M_X5_left : nv_MD := (RX5, yX5_left, cX5_left, 3, (some .int), 5, 115)
theorem fn_X5_left : nv_fn M_X5_left 2 := ⟨List.mem_of_getElem? (i := 555) (by decide +kernel), List.mem_of_getElem? (i := 44) (by decide +kernel), by decide +kernel⟩
theorem fv_X5_left : nv_fnV M_X5_left := ⟨List.mem_of_getElem? (i := 553) (by decide +kernel), List.mem_of_getElem? (i := 554) (by decide +kernel)⟩
def P_X5_left : nv_Pg := [(0, s_al 0 1), (1, s_il 1 2), (2, s_cv 5 M_X5_noPlank 1 5), (5, s_if c_eq 8 18), (8, s_il 2 9), (9, s_ki (0) 10), (10, s_ki (60) 12), (12, s_cs M_X5_outside 3 15), (15, s_if c_eq 20 18), (18, s_ki (-1) 19), (19, s_ir), (20, s_al 0 21), (21, s_il 2 22), (22, s_cv 5 M_X5_foretell 1 25), (25, s_al 0 26), (26, s_gf 5 5 29), (29, s_gf 0 6 32), (32, s_il 1 33), (33, s_ia 34), (34, s_ir)]
set_option maxRecDepth 100000 in
set_option maxHeartbeats 4000000 in
theorem ok_X5_left : nv_ok_P M_X5_left P_X5_left :=
  nv_oc (n_aload_n (k := 0) (by decide +kernel)) <|
  nv_oc (n_iload_n (k := 1) (by decide +kernel)) <|
  nv_oc (n_virtual (M' := M_X5_noPlank) (idx := 70) (n := 1) (ci := 5) (N := 10) (D := RX5) (T := TX5) (by decide +kernel) fn_X5_noPlank fv_X5_noPlank rfl rfl l_X5_70 ⟨by decide, by decide⟩) <|
  nv_oc (n_if_ne (off := 13) (tgt := 18) (by decide +kernel) (by decide)) <|
  nv_oc (n_iload_n (k := 2) (by decide +kernel)) <|
  nv_oc (n_iconst (z := 0) (by decide +kernel)) <|
  nv_oc (n_bipush (z := 60) (by decide +kernel) (by decide)) <|
  nv_oc (n_static (M' := M_X5_outside) (idx := 56) (n := 3) (by decide +kernel) fn_X5_outside st_X5_outside l_X5_56 ⟨by decide, by decide⟩) <|
  nv_oc (n_if_eq (off := 5) (tgt := 20) (by decide +kernel) (by decide)) <|
  nv_oc (n_iconst (z := -1) (by decide +kernel)) <|
  nv_oc (n_iret (by decide +kernel) rfl) <|
  nv_oc (n_aload_n (k := 0) (by decide +kernel)) <|
  nv_oc (n_iload_n (k := 2) (by decide +kernel)) <|
  nv_oc (n_virtual (M' := M_X5_foretell) (idx := 171) (n := 1) (ci := 5) (N := 10) (D := RX5) (T := TX5) (by decide +kernel) fn_X5_foretell fv_X5_foretell rfl rfl l_X5_171 ⟨by decide, by decide⟩) <|
  nv_oc (n_aload_n (k := 0) (by decide +kernel)) <|
  nv_oc (n_getfield (idx := 29) (ci := 5) (k := 5) (N := 10) (D := RX5) (T := TX5) (by decide +kernel) rfl i_X5 (by decide) (by decide) f_X5_29) <|
  nv_oc (n_getfield (idx := 81) (ci := 0) (k := 6) (N := 11) (D := RX0) (T := TX0) (by decide +kernel) rfl i_X0 (by decide) (by decide) f_X5_81) <|
  nv_oc (n_iload_n (k := 1) (by decide +kernel)) <|
  nv_oc (n_iaload (by decide +kernel)) <|
  nv_oc (n_iret (by decide +kernel) rfl) <|
  nv_on
def M_X5_ahead : nv_MD := (RX5, yX5_ahead, cX5_ahead, 4, (some .int), 5, 115)
theorem fn_X5_ahead : nv_fn M_X5_ahead 3 := ⟨List.mem_of_getElem? (i := 568) (by decide +kernel), List.mem_of_getElem? (i := 44) (by decide +kernel), by decide +kernel⟩
theorem fv_X5_ahead : nv_fnV M_X5_ahead := ⟨List.mem_of_getElem? (i := 566) (by decide +kernel), List.mem_of_getElem? (i := 567) (by decide +kernel)⟩
def P_X5_ahead : nv_Pg := [(0, s_al 0 1), (1, s_il 1 2), (2, s_cv 5 M_X5_noSawyer 1 5), (5, s_if c_eq 8 27), (8, s_il 2 9), (9, s_ki (0) 10), (10, s_ki (60) 12), (12, s_cs M_X5_outside 3 15), (15, s_if c_eq 18 27), (18, s_il 3 19), (19, s_ki (0) 20), (20, s_ki (1) 21), (21, s_cs M_X5_outside 3 24), (24, s_if c_eq 29 27), (27, s_ki (-1) 28), (28, s_ir), (29, s_al 0 30), (30, s_il 2 31), (31, s_cv 5 M_X5_foretell 1 34), (34, s_il 3 35), (35, s_if c_eq 38 50), (38, s_al 0 39), (39, s_gf 5 5 42), (42, s_gf 0 8 45), (45, s_il 1 46), (46, s_ia 47), (47, s_go 59), (50, s_al 0 51), (51, s_gf 5 5 54), (54, s_gf 0 9 57), (57, s_il 1 58), (58, s_ia 59), (59, s_ir)]
set_option maxRecDepth 100000 in
set_option maxHeartbeats 4000000 in
theorem ok_X5_ahead : nv_ok_P M_X5_ahead P_X5_ahead :=
  nv_oc (n_aload_n (k := 0) (by decide +kernel)) <|
  nv_oc (n_iload_n (k := 1) (by decide +kernel)) <|
  nv_oc (n_virtual (M' := M_X5_noSawyer) (idx := 91) (n := 1) (ci := 5) (N := 10) (D := RX5) (T := TX5) (by decide +kernel) fn_X5_noSawyer fv_X5_noSawyer rfl rfl l_X5_91 ⟨by decide, by decide⟩) <|
  nv_oc (n_if_ne (off := 22) (tgt := 27) (by decide +kernel) (by decide)) <|
  nv_oc (n_iload_n (k := 2) (by decide +kernel)) <|
  nv_oc (n_iconst (z := 0) (by decide +kernel)) <|
  nv_oc (n_bipush (z := 60) (by decide +kernel) (by decide)) <|
  nv_oc (n_static (M' := M_X5_outside) (idx := 56) (n := 3) (by decide +kernel) fn_X5_outside st_X5_outside l_X5_56 ⟨by decide, by decide⟩) <|
  nv_oc (n_if_ne (off := 12) (tgt := 27) (by decide +kernel) (by decide)) <|
  nv_oc (n_iload_n (k := 3) (by decide +kernel)) <|
  nv_oc (n_iconst (z := 0) (by decide +kernel)) <|
  nv_oc (n_iconst (z := 1) (by decide +kernel)) <|
  nv_oc (n_static (M' := M_X5_outside) (idx := 56) (n := 3) (by decide +kernel) fn_X5_outside st_X5_outside l_X5_56 ⟨by decide, by decide⟩) <|
  nv_oc (n_if_eq (off := 5) (tgt := 29) (by decide +kernel) (by decide)) <|
  nv_oc (n_iconst (z := -1) (by decide +kernel)) <|
  nv_oc (n_iret (by decide +kernel) rfl) <|
  nv_oc (n_aload_n (k := 0) (by decide +kernel)) <|
  nv_oc (n_iload_n (k := 2) (by decide +kernel)) <|
  nv_oc (n_virtual (M' := M_X5_foretell) (idx := 171) (n := 1) (ci := 5) (N := 10) (D := RX5) (T := TX5) (by decide +kernel) fn_X5_foretell fv_X5_foretell rfl rfl l_X5_171 ⟨by decide, by decide⟩) <|
  nv_oc (n_iload_n (k := 3) (by decide +kernel)) <|
  nv_oc (n_if_ne (off := 15) (tgt := 50) (by decide +kernel) (by decide)) <|
  nv_oc (n_aload_n (k := 0) (by decide +kernel)) <|
  nv_oc (n_getfield (idx := 29) (ci := 5) (k := 5) (N := 10) (D := RX5) (T := TX5) (by decide +kernel) rfl i_X5 (by decide) (by decide) f_X5_29) <|
  nv_oc (n_getfield (idx := 97) (ci := 0) (k := 8) (N := 11) (D := RX0) (T := TX0) (by decide +kernel) rfl i_X0 (by decide) (by decide) f_X5_97) <|
  nv_oc (n_iload_n (k := 1) (by decide +kernel)) <|
  nv_oc (n_iaload (by decide +kernel)) <|
  nv_oc (n_goto (off := 12) (tgt := 59) (by decide +kernel) (by decide)) <|
  nv_oc (n_aload_n (k := 0) (by decide +kernel)) <|
  nv_oc (n_getfield (idx := 29) (ci := 5) (k := 5) (N := 10) (D := RX5) (T := TX5) (by decide +kernel) rfl i_X5 (by decide) (by decide) f_X5_29) <|
  nv_oc (n_getfield (idx := 100) (ci := 0) (k := 9) (N := 11) (D := RX0) (T := TX0) (by decide +kernel) rfl i_X0 (by decide) (by decide) f_X5_100) <|
  nv_oc (n_iload_n (k := 1) (by decide +kernel)) <|
  nv_oc (n_iaload (by decide +kernel)) <|
  nv_oc (n_iret (by decide +kernel) rfl) <|
  nv_on
def M_X5_then : nv_MD := (RX5, yX5_then, cX5_then, 2, (some .int), 5, 115)
theorem fn_X5_then : nv_fn M_X5_then 1 := ⟨List.mem_of_getElem? (i := 572) (by decide +kernel), List.mem_of_getElem? (i := 44) (by decide +kernel), by decide +kernel⟩
theorem fv_X5_then : nv_fnV M_X5_then := ⟨List.mem_of_getElem? (i := 570) (by decide +kernel), List.mem_of_getElem? (i := 571) (by decide +kernel)⟩
def P_X5_then : nv_Pg := [(0, s_il 1 1), (1, s_ki (0) 2), (2, s_ki (60) 4), (4, s_cs M_X5_outside 3 7), (7, s_if c_eq 12 10), (10, s_ki (-1) 11), (11, s_ir), (12, s_al 0 13), (13, s_il 1 14), (14, s_cv 5 M_X5_foretell 1 17), (17, s_al 0 18), (18, s_gf 5 5 21), (21, s_cv 0 M_X0_fallenSet 0 24), (24, s_ir)]
set_option maxRecDepth 100000 in
set_option maxHeartbeats 4000000 in
theorem ok_X5_then : nv_ok_P M_X5_then P_X5_then :=
  nv_oc (n_iload_n (k := 1) (by decide +kernel)) <|
  nv_oc (n_iconst (z := 0) (by decide +kernel)) <|
  nv_oc (n_bipush (z := 60) (by decide +kernel) (by decide)) <|
  nv_oc (n_static (M' := M_X5_outside) (idx := 56) (n := 3) (by decide +kernel) fn_X5_outside st_X5_outside l_X5_56 ⟨by decide, by decide⟩) <|
  nv_oc (n_if_eq (off := 5) (tgt := 12) (by decide +kernel) (by decide)) <|
  nv_oc (n_iconst (z := -1) (by decide +kernel)) <|
  nv_oc (n_iret (by decide +kernel) rfl) <|
  nv_oc (n_aload_n (k := 0) (by decide +kernel)) <|
  nv_oc (n_iload_n (k := 1) (by decide +kernel)) <|
  nv_oc (n_virtual (M' := M_X5_foretell) (idx := 171) (n := 1) (ci := 5) (N := 10) (D := RX5) (T := TX5) (by decide +kernel) fn_X5_foretell fv_X5_foretell rfl rfl l_X5_171 ⟨by decide, by decide⟩) <|
  nv_oc (n_aload_n (k := 0) (by decide +kernel)) <|
  nv_oc (n_getfield (idx := 29) (ci := 5) (k := 5) (N := 10) (D := RX5) (T := TX5) (by decide +kernel) rfl i_X5 (by decide) (by decide) f_X5_29) <|
  nv_oc (n_virtual (M' := M_X0_fallenSet) (idx := 134) (n := 0) (ci := 0) (N := 11) (D := RX0) (T := TX0) (by decide +kernel) fn_X0_fallenSet fv_X0_fallenSet rfl rfl l_X5_134 ⟨by decide, by decide⟩) <|
  nv_oc (n_iret (by decide +kernel) rfl) <|
  nv_on
end
section
def M_X5_falls : nv_MD := (RX5, yX5_falls, cX5_falls, 3, (some .int), 3, 82)
theorem fn_X5_falls : nv_fn M_X5_falls 1 := ⟨List.mem_of_getElem? (i := 576) (by decide +kernel), List.mem_of_getElem? (i := 44) (by decide +kernel), by decide +kernel⟩
theorem fv_X5_falls : nv_fnV M_X5_falls := ⟨List.mem_of_getElem? (i := 574) (by decide +kernel), List.mem_of_getElem? (i := 575) (by decide +kernel)⟩
def P_X5_falls : nv_Pg := [(0, s_al 0 1), (1, s_il 1 2), (2, s_cv 5 M_X5_noPlank 1 5), (5, s_if c_eq 10 8), (8, s_ki (-1) 9), (9, s_ir), (10, s_al 0 11), (11, s_gf 5 5 14), (14, s_al 0 15), (15, s_gf 5 0 18), (18, s_cv 0 M_X0_takeAll 1 21), (21, s_ki (0) 22), (22, s_is 2 23), (23, s_il 2 24), (24, s_ki (60) 26), (26, s_ic c_gt 57 29), (29, s_al 0 30), (30, s_gf 5 5 33), (33, s_gf 0 6 36), (36, s_il 1 37), (37, s_ia 38), (38, s_if c_eq 41 43), (41, s_il 2 42), (42, s_ir), (43, s_al 0 44), (44, s_gf 5 5 47), (47, s_cv 0 M_X0_passHour 0 50), (50, s_pop 51), (51, s_inc 2 (1) 54), (54, s_go 23), (57, s_ki (-4) 59), (59, s_ir)]
set_option maxRecDepth 100000 in
set_option maxHeartbeats 4000000 in
theorem ok_X5_falls : nv_ok_P M_X5_falls P_X5_falls :=
  nv_oc (n_aload_n (k := 0) (by decide +kernel)) <|
  nv_oc (n_iload_n (k := 1) (by decide +kernel)) <|
  nv_oc (n_virtual (M' := M_X5_noPlank) (idx := 70) (n := 1) (ci := 5) (N := 10) (D := RX5) (T := TX5) (by decide +kernel) fn_X5_noPlank fv_X5_noPlank rfl rfl l_X5_70 ⟨by decide, by decide⟩) <|
  nv_oc (n_if_eq (off := 5) (tgt := 10) (by decide +kernel) (by decide)) <|
  nv_oc (n_iconst (z := -1) (by decide +kernel)) <|
  nv_oc (n_iret (by decide +kernel) rfl) <|
  nv_oc (n_aload_n (k := 0) (by decide +kernel)) <|
  nv_oc (n_getfield (idx := 29) (ci := 5) (k := 5) (N := 10) (D := RX5) (T := TX5) (by decide +kernel) rfl i_X5 (by decide) (by decide) f_X5_29) <|
  nv_oc (n_aload_n (k := 0) (by decide +kernel)) <|
  nv_oc (n_getfield (idx := 12) (ci := 5) (k := 0) (N := 10) (D := RX5) (T := TX5) (by decide +kernel) rfl i_X5 (by decide) (by decide) f_X5_12) <|
  nv_oc (n_virtual (M' := M_X0_takeAll) (idx := 121) (n := 1) (ci := 0) (N := 11) (D := RX0) (T := TX0) (by decide +kernel) fn_X0_takeAll fv_X0_takeAll rfl rfl l_X5_121 ⟨by decide, by decide⟩) <|
  nv_oc (n_iconst (z := 0) (by decide +kernel)) <|
  nv_oc (n_istore_n (k := 2) (by decide +kernel) (by decide)) <|
  nv_oc (n_iload_n (k := 2) (by decide +kernel)) <|
  nv_oc (n_bipush (z := 60) (by decide +kernel) (by decide)) <|
  nv_oc (n_icmp_gt (off := 31) (tgt := 57) (by decide +kernel) (by decide)) <|
  nv_oc (n_aload_n (k := 0) (by decide +kernel)) <|
  nv_oc (n_getfield (idx := 29) (ci := 5) (k := 5) (N := 10) (D := RX5) (T := TX5) (by decide +kernel) rfl i_X5 (by decide) (by decide) f_X5_29) <|
  nv_oc (n_getfield (idx := 81) (ci := 0) (k := 6) (N := 11) (D := RX0) (T := TX0) (by decide +kernel) rfl i_X0 (by decide) (by decide) f_X5_81) <|
  nv_oc (n_iload_n (k := 1) (by decide +kernel)) <|
  nv_oc (n_iaload (by decide +kernel)) <|
  nv_oc (n_if_ne (off := 5) (tgt := 43) (by decide +kernel) (by decide)) <|
  nv_oc (n_iload_n (k := 2) (by decide +kernel)) <|
  nv_oc (n_iret (by decide +kernel) rfl) <|
  nv_oc (n_aload_n (k := 0) (by decide +kernel)) <|
  nv_oc (n_getfield (idx := 29) (ci := 5) (k := 5) (N := 10) (D := RX5) (T := TX5) (by decide +kernel) rfl i_X5 (by decide) (by decide) f_X5_29) <|
  nv_oc (n_virtual (M' := M_X0_passHour) (idx := 150) (n := 0) (ci := 0) (N := 11) (D := RX0) (T := TX0) (by decide +kernel) fn_X0_passHour fv_X0_passHour rfl rfl l_X5_150 ⟨by decide, by decide⟩) <|
  nv_oc (n_pop (by decide +kernel)) <|
  nv_oc (n_iinc (k := 2) (d := 1) (by decide +kernel) (by decide)) <|
  nv_oc (n_goto (off := -31) (tgt := 23) (by decide +kernel) (by decide)) <|
  nv_oc (n_bipush (z := -4) (by decide +kernel) (by decide)) <|
  nv_oc (n_iret (by decide +kernel) rfl) <|
  nv_on
def M_X5_orNone : nv_MD := (RX5, yX5_orNone, cX5_orNone, 1, (some .int), 0, 0)
theorem fn_X5_orNone : nv_fn M_X5_orNone 1 := ⟨List.mem_of_getElem? (i := 596) (by decide +kernel), List.mem_of_getElem? (i := 44) (by decide +kernel), by decide +kernel⟩
theorem st_X5_orNone : Cond.static (nv_y M_X5_orNone) ∈ lw_tbl := List.mem_of_getElem? (i := 595) (by decide +kernel)
def P_X5_orNone : nv_Pg := [(0, s_il 0 1), (1, s_ki (61) 3), (3, s_ic c_eq 6 11), (6, s_ki (-4) 8), (8, s_go 12), (11, s_il 0 12), (12, s_ir)]
set_option maxRecDepth 100000 in
set_option maxHeartbeats 4000000 in
theorem ok_X5_orNone : nv_ok_P M_X5_orNone P_X5_orNone :=
  nv_oc (n_iload_n (k := 0) (by decide +kernel)) <|
  nv_oc (n_bipush (z := 61) (by decide +kernel) (by decide)) <|
  nv_oc (n_icmp_ne (off := 8) (tgt := 11) (by decide +kernel) (by decide)) <|
  nv_oc (n_bipush (z := -4) (by decide +kernel) (by decide)) <|
  nv_oc (n_goto (off := 4) (tgt := 12) (by decide +kernel) (by decide)) <|
  nv_oc (n_iload_n (k := 0) (by decide +kernel)) <|
  nv_oc (n_iret (by decide +kernel) rfl) <|
  nv_on
def M_X5_noonOfTrial : nv_MD := (RX5, yX5_noonOfTrial, cX5_noonOfTrial, 1, (some .int), 4, 96)
theorem fn_X5_noonOfTrial : nv_fn M_X5_noonOfTrial 0 := ⟨List.mem_of_getElem? (i := 584) (by decide +kernel), List.mem_of_getElem? (i := 44) (by decide +kernel), by decide +kernel⟩
theorem fv_X5_noonOfTrial : nv_fnV M_X5_noonOfTrial := ⟨List.mem_of_getElem? (i := 583) (by decide +kernel), List.mem_of_getElem? (i := 16) (by decide +kernel)⟩
def P_X5_noonOfTrial : nv_Pg := [(0, s_al 0 1), (1, s_gf 5 5 4), (4, s_ki (60) 6), (6, s_al 0 7), (7, s_gf 5 5 10), (10, s_cv 0 M_X0_mostCut 0 13), (13, s_cv 0 M_X0_noonWithin 2 16), (16, s_cs M_X5_orNone 1 19), (19, s_ir)]
set_option maxRecDepth 100000 in
set_option maxHeartbeats 4000000 in
theorem ok_X5_noonOfTrial : nv_ok_P M_X5_noonOfTrial P_X5_noonOfTrial :=
  nv_oc (n_aload_n (k := 0) (by decide +kernel)) <|
  nv_oc (n_getfield (idx := 29) (ci := 5) (k := 5) (N := 10) (D := RX5) (T := TX5) (by decide +kernel) rfl i_X5 (by decide) (by decide) f_X5_29) <|
  nv_oc (n_bipush (z := 60) (by decide +kernel) (by decide)) <|
  nv_oc (n_aload_n (k := 0) (by decide +kernel)) <|
  nv_oc (n_getfield (idx := 29) (ci := 5) (k := 5) (N := 10) (D := RX5) (T := TX5) (by decide +kernel) rfl i_X5 (by decide) (by decide) f_X5_29) <|
  nv_oc (n_virtual (M' := M_X0_mostCut) (idx := 263) (n := 0) (ci := 0) (N := 11) (D := RX0) (T := TX0) (by decide +kernel) fn_X0_mostCut fv_X0_mostCut rfl rfl l_X5_263 ⟨by decide, by decide⟩) <|
  nv_oc (n_virtual (M' := M_X0_noonWithin) (idx := 266) (n := 2) (ci := 0) (N := 11) (D := RX0) (T := TX0) (by decide +kernel) fn_X0_noonWithin fv_X0_noonWithin rfl rfl l_X5_266 ⟨by decide, by decide⟩) <|
  nv_oc (n_static (M' := M_X5_orNone) (idx := 188) (n := 1) (by decide +kernel) fn_X5_orNone st_X5_orNone l_X5_188 ⟨by decide, by decide⟩) <|
  nv_oc (n_iret (by decide +kernel) rfl) <|
  nv_on
def M_X5_noon : nv_MD := (RX5, yX5_noon, cX5_noon, 1, (some .int), 5, 116)
theorem fn_X5_noon : nv_fn M_X5_noon 0 := ⟨List.mem_of_getElem? (i := 580) (by decide +kernel), List.mem_of_getElem? (i := 44) (by decide +kernel), by decide +kernel⟩
theorem fv_X5_noon : nv_fnV M_X5_noon := ⟨List.mem_of_getElem? (i := 578) (by decide +kernel), List.mem_of_getElem? (i := 579) (by decide +kernel)⟩
def P_X5_noon : nv_Pg := [(0, s_al 0 1), (1, s_gf 5 5 4), (4, s_al 0 5), (5, s_gf 5 0 8), (8, s_cv 0 M_X0_takeAll 1 11), (11, s_al 0 12), (12, s_cv 5 M_X5_noonOfTrial 0 15), (15, s_ir)]
set_option maxRecDepth 100000 in
set_option maxHeartbeats 4000000 in
theorem ok_X5_noon : nv_ok_P M_X5_noon P_X5_noon :=
  nv_oc (n_aload_n (k := 0) (by decide +kernel)) <|
  nv_oc (n_getfield (idx := 29) (ci := 5) (k := 5) (N := 10) (D := RX5) (T := TX5) (by decide +kernel) rfl i_X5 (by decide) (by decide) f_X5_29) <|
  nv_oc (n_aload_n (k := 0) (by decide +kernel)) <|
  nv_oc (n_getfield (idx := 12) (ci := 5) (k := 0) (N := 10) (D := RX5) (T := TX5) (by decide +kernel) rfl i_X5 (by decide) (by decide) f_X5_12) <|
  nv_oc (n_virtual (M' := M_X0_takeAll) (idx := 121) (n := 1) (ci := 0) (N := 11) (D := RX0) (T := TX0) (by decide +kernel) fn_X0_takeAll fv_X0_takeAll rfl rfl l_X5_121 ⟨by decide, by decide⟩) <|
  nv_oc (n_aload_n (k := 0) (by decide +kernel)) <|
  nv_oc (n_virtual (M' := M_X5_noonOfTrial) (idx := 175) (n := 0) (ci := 5) (N := 10) (D := RX5) (T := TX5) (by decide +kernel) fn_X5_noonOfTrial fv_X5_noonOfTrial rfl rfl l_X5_175 ⟨by decide, by decide⟩) <|
  nv_oc (n_iret (by decide +kernel) rfl) <|
  nv_on
def M_X5_nothingToSet : nv_MD := (RX5, yX5_nothingToSet, cX5_nothingToSet, 1, (some .boolean), 0, 0)
theorem fn_X5_nothingToSet : nv_fn M_X5_nothingToSet 0 := ⟨List.mem_of_getElem? (i := 604) (by decide +kernel), List.mem_of_getElem? (i := 44) (by decide +kernel), by decide +kernel⟩
theorem fv_X5_nothingToSet : nv_fnV M_X5_nothingToSet := ⟨List.mem_of_getElem? (i := 603) (by decide +kernel), List.mem_of_getElem? (i := 17) (by decide +kernel)⟩
def P_X5_nothingToSet : nv_Pg := [(0, s_al 0 1), (1, s_gf 5 0 4), (4, s_gf 0 0 7), (7, s_if c_eq 20 10), (10, s_al 0 11), (11, s_gf 5 0 14), (14, s_gf 0 1 17), (17, s_if c_eq 20 24), (20, s_ki (1) 21), (21, s_go 25), (24, s_ki (0) 25), (25, s_zr)]
set_option maxRecDepth 100000 in
set_option maxHeartbeats 4000000 in
theorem ok_X5_nothingToSet : nv_ok_P M_X5_nothingToSet P_X5_nothingToSet :=
  nv_oc (n_aload_n (k := 0) (by decide +kernel)) <|
  nv_oc (n_getfield (idx := 12) (ci := 5) (k := 0) (N := 10) (D := RX5) (T := TX5) (by decide +kernel) rfl i_X5 (by decide) (by decide) f_X5_12) <|
  nv_oc (n_getfield (idx := 125) (ci := 0) (k := 0) (N := 11) (D := RX0) (T := TX0) (by decide +kernel) rfl i_X0 (by decide) (by decide) f_X5_125) <|
  nv_oc (n_if_eq (off := 13) (tgt := 20) (by decide +kernel) (by decide)) <|
  nv_oc (n_aload_n (k := 0) (by decide +kernel)) <|
  nv_oc (n_getfield (idx := 12) (ci := 5) (k := 0) (N := 10) (D := RX5) (T := TX5) (by decide +kernel) rfl i_X5 (by decide) (by decide) f_X5_12) <|
  nv_oc (n_getfield (idx := 128) (ci := 0) (k := 1) (N := 11) (D := RX0) (T := TX0) (by decide +kernel) rfl i_X0 (by decide) (by decide) f_X5_128) <|
  nv_oc (n_if_ne (off := 7) (tgt := 24) (by decide +kernel) (by decide)) <|
  nv_oc (n_iconst (z := 1) (by decide +kernel)) <|
  nv_oc (n_goto (off := 4) (tgt := 25) (by decide +kernel) (by decide)) <|
  nv_oc (n_iconst (z := 0) (by decide +kernel)) <|
  nv_oc (n_zret (by decide +kernel) rfl) <|
  nv_on
def M_X5_best : nv_MD := (RX5, yX5_best, cX5_best, 2, (some .int), 6, 145)
theorem fn_X5_best : nv_fn M_X5_best 1 := ⟨List.mem_of_getElem? (i := 600) (by decide +kernel), List.mem_of_getElem? (i := 44) (by decide +kernel), by decide +kernel⟩
theorem fv_X5_best : nv_fnV M_X5_best := ⟨List.mem_of_getElem? (i := 598) (by decide +kernel), List.mem_of_getElem? (i := 599) (by decide +kernel)⟩
def P_X5_best : nv_Pg := [(0, s_il 1 1), (1, s_ki (-2) 3), (3, s_al 0 4), (4, s_gf 5 0 7), (7, s_gf 0 1 10), (10, s_ki (1) 11), (11, s_sub 12), (12, s_cs M_X5_outside 3 15), (15, s_if c_eq 20 18), (18, s_ki (-1) 19), (19, s_ir), (20, s_al 0 21), (21, s_cv 5 M_X5_nothingToSet 0 24), (24, s_if c_eq 30 27), (27, s_ki (-4) 29), (29, s_ir), (30, s_al 0 31), (31, s_gf 5 6 34), (34, s_al 0 35), (35, s_gf 5 0 38), (38, s_ki (0) 39), (39, s_al 0 40), (40, s_gf 5 5 43), (43, s_cv 2 M_X2_make 3 46), (46, s_il 1 47), (47, s_ki (-1) 48), (48, s_ic c_eq 51 64), (51, s_al 0 52), (52, s_gf 5 6 55), (55, s_gf 2 5 58), (58, s_cs M_X5_orNone 1 61), (61, s_go 72), (64, s_al 0 65), (65, s_gf 5 6 68), (68, s_il 1 69), (69, s_cv 2 M_X2_told 1 72), (72, s_ir)]
set_option maxRecDepth 100000 in
set_option maxHeartbeats 4000000 in
theorem ok_X5_best : nv_ok_P M_X5_best P_X5_best :=
  nv_oc (n_iload_n (k := 1) (by decide +kernel)) <|
  nv_oc (n_bipush (z := -2) (by decide +kernel) (by decide)) <|
  nv_oc (n_aload_n (k := 0) (by decide +kernel)) <|
  nv_oc (n_getfield (idx := 12) (ci := 5) (k := 0) (N := 10) (D := RX5) (T := TX5) (by decide +kernel) rfl i_X5 (by decide) (by decide) f_X5_12) <|
  nv_oc (n_getfield (idx := 128) (ci := 0) (k := 1) (N := 11) (D := RX0) (T := TX0) (by decide +kernel) rfl i_X0 (by decide) (by decide) f_X5_128) <|
  nv_oc (n_iconst (z := 1) (by decide +kernel)) <|
  nv_oc (n_isub (by decide +kernel)) <|
  nv_oc (n_static (M' := M_X5_outside) (idx := 56) (n := 3) (by decide +kernel) fn_X5_outside st_X5_outside l_X5_56 ⟨by decide, by decide⟩) <|
  nv_oc (n_if_eq (off := 5) (tgt := 20) (by decide +kernel) (by decide)) <|
  nv_oc (n_iconst (z := -1) (by decide +kernel)) <|
  nv_oc (n_iret (by decide +kernel) rfl) <|
  nv_oc (n_aload_n (k := 0) (by decide +kernel)) <|
  nv_oc (n_virtual (M' := M_X5_nothingToSet) (idx := 178) (n := 0) (ci := 5) (N := 10) (D := RX5) (T := TX5) (by decide +kernel) fn_X5_nothingToSet fv_X5_nothingToSet rfl rfl l_X5_178 ⟨by decide, by decide⟩) <|
  nv_oc (n_if_eq (off := 6) (tgt := 30) (by decide +kernel) (by decide)) <|
  nv_oc (n_bipush (z := -4) (by decide +kernel) (by decide)) <|
  nv_oc (n_iret (by decide +kernel) rfl) <|
  nv_oc (n_aload_n (k := 0) (by decide +kernel)) <|
  nv_oc (n_getfield (idx := 35) (ci := 5) (k := 6) (N := 10) (D := RX5) (T := TX5) (by decide +kernel) rfl i_X5 (by decide) (by decide) f_X5_35) <|
  nv_oc (n_aload_n (k := 0) (by decide +kernel)) <|
  nv_oc (n_getfield (idx := 12) (ci := 5) (k := 0) (N := 10) (D := RX5) (T := TX5) (by decide +kernel) rfl i_X5 (by decide) (by decide) f_X5_12) <|
  nv_oc (n_iconst (z := 0) (by decide +kernel)) <|
  nv_oc (n_aload_n (k := 0) (by decide +kernel)) <|
  nv_oc (n_getfield (idx := 29) (ci := 5) (k := 5) (N := 10) (D := RX5) (T := TX5) (by decide +kernel) rfl i_X5 (by decide) (by decide) f_X5_29) <|
  nv_oc (n_virtual (M' := M_X2_make) (idx := 181) (n := 3) (ci := 2) (N := 8) (D := RX2) (T := TX2) (by decide +kernel) fn_X2_make fv_X2_make rfl rfl l_X5_181 ⟨by decide, by decide⟩) <|
  nv_oc (n_iload_n (k := 1) (by decide +kernel)) <|
  nv_oc (n_iconst (z := -1) (by decide +kernel)) <|
  nv_oc (n_icmp_ne (off := 16) (tgt := 64) (by decide +kernel) (by decide)) <|
  nv_oc (n_aload_n (k := 0) (by decide +kernel)) <|
  nv_oc (n_getfield (idx := 35) (ci := 5) (k := 6) (N := 10) (D := RX5) (T := TX5) (by decide +kernel) rfl i_X5 (by decide) (by decide) f_X5_35) <|
  nv_oc (n_getfield (idx := 185) (ci := 2) (k := 5) (N := 8) (D := RX2) (T := TX2) (by decide +kernel) rfl i_X2 (by decide) (by decide) f_X5_185) <|
  nv_oc (n_static (M' := M_X5_orNone) (idx := 188) (n := 1) (by decide +kernel) fn_X5_orNone st_X5_orNone l_X5_188 ⟨by decide, by decide⟩) <|
  nv_oc (n_goto (off := 11) (tgt := 72) (by decide +kernel) (by decide)) <|
  nv_oc (n_aload_n (k := 0) (by decide +kernel)) <|
  nv_oc (n_getfield (idx := 35) (ci := 5) (k := 6) (N := 10) (D := RX5) (T := TX5) (by decide +kernel) rfl i_X5 (by decide) (by decide) f_X5_35) <|
  nv_oc (n_iload_n (k := 1) (by decide +kernel)) <|
  nv_oc (n_virtual (M' := M_X2_told) (idx := 191) (n := 1) (ci := 2) (N := 8) (D := RX2) (T := TX2) (by decide +kernel) fn_X2_told fv_X2_told rfl rfl l_X5_191 ⟨by decide, by decide⟩) <|
  nv_oc (n_iret (by decide +kernel) rfl) <|
  nv_on
def M_X5_most : nv_MD := (RX5, yX5_most, cX5_most, 3, (some .int), 6, 145)
theorem fn_X5_most : nv_fn M_X5_most 2 := ⟨List.mem_of_getElem? (i := 652) (by decide +kernel), List.mem_of_getElem? (i := 44) (by decide +kernel), by decide +kernel⟩
theorem fv_X5_most : nv_fnV M_X5_most := ⟨List.mem_of_getElem? (i := 650) (by decide +kernel), List.mem_of_getElem? (i := 651) (by decide +kernel)⟩
def P_X5_most : nv_Pg := [(0, s_il 1 1), (1, s_ki (1) 2), (2, s_ki (30) 4), (4, s_cs M_X5_outside 3 7), (7, s_if c_eq 10 28), (10, s_il 2 11), (11, s_ki (-2) 13), (13, s_al 0 14), (14, s_gf 5 0 17), (17, s_gf 0 1 20), (20, s_ki (1) 21), (21, s_sub 22), (22, s_cs M_X5_outside 3 25), (25, s_if c_eq 30 28), (28, s_ki (-1) 29), (29, s_ir), (30, s_al 0 31), (31, s_cv 5 M_X5_nothingToSet 0 34), (34, s_if c_eq 40 37), (37, s_ki (-4) 39), (39, s_ir), (40, s_al 0 41), (41, s_gf 5 7 44), (44, s_al 0 45), (45, s_gf 5 0 48), (48, s_il 1 49), (49, s_al 0 50), (50, s_gf 5 5 53), (53, s_cv 2 M_X2_make 3 56), (56, s_il 2 57), (57, s_ki (-1) 58), (58, s_ic c_eq 61 79), (61, s_al 0 62), (62, s_gf 5 0 65), (65, s_gf 0 0 68), (68, s_al 0 69), (69, s_gf 5 7 72), (72, s_gf 2 5 75), (75, s_sub 76), (76, s_go 87), (79, s_al 0 80), (80, s_gf 5 7 83), (83, s_il 2 84), (84, s_cv 2 M_X2_told 1 87), (87, s_ir)]
set_option maxRecDepth 100000 in
set_option maxHeartbeats 4000000 in
theorem ok_X5_most : nv_ok_P M_X5_most P_X5_most :=
  nv_oc (n_iload_n (k := 1) (by decide +kernel)) <|
  nv_oc (n_iconst (z := 1) (by decide +kernel)) <|
  nv_oc (n_bipush (z := 30) (by decide +kernel) (by decide)) <|
  nv_oc (n_static (M' := M_X5_outside) (idx := 56) (n := 3) (by decide +kernel) fn_X5_outside st_X5_outside l_X5_56 ⟨by decide, by decide⟩) <|
  nv_oc (n_if_ne (off := 21) (tgt := 28) (by decide +kernel) (by decide)) <|
  nv_oc (n_iload_n (k := 2) (by decide +kernel)) <|
  nv_oc (n_bipush (z := -2) (by decide +kernel) (by decide)) <|
  nv_oc (n_aload_n (k := 0) (by decide +kernel)) <|
  nv_oc (n_getfield (idx := 12) (ci := 5) (k := 0) (N := 10) (D := RX5) (T := TX5) (by decide +kernel) rfl i_X5 (by decide) (by decide) f_X5_12) <|
  nv_oc (n_getfield (idx := 128) (ci := 0) (k := 1) (N := 11) (D := RX0) (T := TX0) (by decide +kernel) rfl i_X0 (by decide) (by decide) f_X5_128) <|
  nv_oc (n_iconst (z := 1) (by decide +kernel)) <|
  nv_oc (n_isub (by decide +kernel)) <|
  nv_oc (n_static (M' := M_X5_outside) (idx := 56) (n := 3) (by decide +kernel) fn_X5_outside st_X5_outside l_X5_56 ⟨by decide, by decide⟩) <|
  nv_oc (n_if_eq (off := 5) (tgt := 30) (by decide +kernel) (by decide)) <|
  nv_oc (n_iconst (z := -1) (by decide +kernel)) <|
  nv_oc (n_iret (by decide +kernel) rfl) <|
  nv_oc (n_aload_n (k := 0) (by decide +kernel)) <|
  nv_oc (n_virtual (M' := M_X5_nothingToSet) (idx := 178) (n := 0) (ci := 5) (N := 10) (D := RX5) (T := TX5) (by decide +kernel) fn_X5_nothingToSet fv_X5_nothingToSet rfl rfl l_X5_178 ⟨by decide, by decide⟩) <|
  nv_oc (n_if_eq (off := 6) (tgt := 40) (by decide +kernel) (by decide)) <|
  nv_oc (n_bipush (z := -4) (by decide +kernel) (by decide)) <|
  nv_oc (n_iret (by decide +kernel) rfl) <|
  nv_oc (n_aload_n (k := 0) (by decide +kernel)) <|
  nv_oc (n_getfield (idx := 39) (ci := 5) (k := 7) (N := 10) (D := RX5) (T := TX5) (by decide +kernel) rfl i_X5 (by decide) (by decide) f_X5_39) <|
  nv_oc (n_aload_n (k := 0) (by decide +kernel)) <|
  nv_oc (n_getfield (idx := 12) (ci := 5) (k := 0) (N := 10) (D := RX5) (T := TX5) (by decide +kernel) rfl i_X5 (by decide) (by decide) f_X5_12) <|
  nv_oc (n_iload_n (k := 1) (by decide +kernel)) <|
  nv_oc (n_aload_n (k := 0) (by decide +kernel)) <|
  nv_oc (n_getfield (idx := 29) (ci := 5) (k := 5) (N := 10) (D := RX5) (T := TX5) (by decide +kernel) rfl i_X5 (by decide) (by decide) f_X5_29) <|
  nv_oc (n_virtual (M' := M_X2_make) (idx := 181) (n := 3) (ci := 2) (N := 8) (D := RX2) (T := TX2) (by decide +kernel) fn_X2_make fv_X2_make rfl rfl l_X5_181 ⟨by decide, by decide⟩) <|
  nv_oc (n_iload_n (k := 2) (by decide +kernel)) <|
  nv_oc (n_iconst (z := -1) (by decide +kernel)) <|
  nv_oc (n_icmp_ne (off := 21) (tgt := 79) (by decide +kernel) (by decide)) <|
  nv_oc (n_aload_n (k := 0) (by decide +kernel)) <|
  nv_oc (n_getfield (idx := 12) (ci := 5) (k := 0) (N := 10) (D := RX5) (T := TX5) (by decide +kernel) rfl i_X5 (by decide) (by decide) f_X5_12) <|
  nv_oc (n_getfield (idx := 125) (ci := 0) (k := 0) (N := 11) (D := RX0) (T := TX0) (by decide +kernel) rfl i_X0 (by decide) (by decide) f_X5_125) <|
  nv_oc (n_aload_n (k := 0) (by decide +kernel)) <|
  nv_oc (n_getfield (idx := 39) (ci := 5) (k := 7) (N := 10) (D := RX5) (T := TX5) (by decide +kernel) rfl i_X5 (by decide) (by decide) f_X5_39) <|
  nv_oc (n_getfield (idx := 185) (ci := 2) (k := 5) (N := 8) (D := RX2) (T := TX2) (by decide +kernel) rfl i_X2 (by decide) (by decide) f_X5_185) <|
  nv_oc (n_isub (by decide +kernel)) <|
  nv_oc (n_goto (off := 11) (tgt := 87) (by decide +kernel) (by decide)) <|
  nv_oc (n_aload_n (k := 0) (by decide +kernel)) <|
  nv_oc (n_getfield (idx := 39) (ci := 5) (k := 7) (N := 10) (D := RX5) (T := TX5) (by decide +kernel) rfl i_X5 (by decide) (by decide) f_X5_39) <|
  nv_oc (n_iload_n (k := 2) (by decide +kernel)) <|
  nv_oc (n_virtual (M' := M_X2_told) (idx := 191) (n := 1) (ci := 2) (N := 8) (D := RX2) (T := TX2) (by decide +kernel) fn_X2_told fv_X2_told rfl rfl l_X5_191 ⟨by decide, by decide⟩) <|
  nv_oc (n_iret (by decide +kernel) rfl) <|
  nv_on
def M_X5_sharp : nv_MD := (RX5, yX5_sharp, cX5_sharp, 7, (some .int), 4, 94)
theorem fn_X5_sharp : nv_fn M_X5_sharp 2 := ⟨List.mem_of_getElem? (i := 656) (by decide +kernel), List.mem_of_getElem? (i := 44) (by decide +kernel), by decide +kernel⟩
theorem fv_X5_sharp : nv_fnV M_X5_sharp := ⟨List.mem_of_getElem? (i := 654) (by decide +kernel), List.mem_of_getElem? (i := 655) (by decide +kernel)⟩
def P_X5_sharp : nv_Pg := [(0, s_il 1 1), (1, s_ki (1) 2), (2, s_ki (40) 4), (4, s_cs M_X5_outside 3 7), (7, s_if c_eq 10 19), (10, s_il 2 11), (11, s_ki (0) 12), (12, s_ki (1) 13), (13, s_cs M_X5_outside 3 16), (16, s_if c_eq 21 19), (19, s_ki (-1) 20), (20, s_ir), (21, s_ki (-4) 23), (23, s_is 3 24), (24, s_ki (-4) 26), (26, s_is 4 28), (28, s_ki (0) 29), (29, s_is 5 31), (31, s_il 5 33), (33, s_al 0 34), (34, s_gf 5 0 37), (37, s_gf 0 1 40), (40, s_ic c_ge 107 43), (43, s_al 0 44), (44, s_gf 5 5 47), (47, s_al 0 48), (48, s_gf 5 0 51), (51, s_cv 0 M_X0_takeAll 1 54), (54, s_al 0 55), (55, s_gf 5 5 58), (58, s_il 5 60), (60, s_ki (3) 61), (61, s_cv 0 M_X0_addTeeth 2 64), (64, s_al 0 65), (65, s_gf 5 5 68), (68, s_il 1 69), (69, s_cv 0 M_X0_passHours 1 72), (72, s_al 0 73), (73, s_gf 5 5 76), (76, s_cv 0 M_X0_leftOfAll 0 79), (79, s_is 6 81), (81, s_il 3 82), (82, s_ki (-4) 84), (84, s_ic c_eq 94 87), (87, s_il 6 89), (89, s_il 4 91), (91, s_ic c_ge 101 94), (94, s_il 5 96), (96, s_is 3 97), (97, s_il 6 99), (99, s_is 4 101), (101, s_inc 5 (1) 104), (104, s_go 31), (107, s_il 2 108), (108, s_if c_eq 111 115), (111, s_il 3 112), (112, s_go 117), (115, s_il 4 117), (117, s_ir)]
set_option maxRecDepth 100000 in
set_option maxHeartbeats 4000000 in
theorem ok_X5_sharp : nv_ok_P M_X5_sharp P_X5_sharp :=
  nv_oc (n_iload_n (k := 1) (by decide +kernel)) <|
  nv_oc (n_iconst (z := 1) (by decide +kernel)) <|
  nv_oc (n_bipush (z := 40) (by decide +kernel) (by decide)) <|
  nv_oc (n_static (M' := M_X5_outside) (idx := 56) (n := 3) (by decide +kernel) fn_X5_outside st_X5_outside l_X5_56 ⟨by decide, by decide⟩) <|
  nv_oc (n_if_ne (off := 12) (tgt := 19) (by decide +kernel) (by decide)) <|
  nv_oc (n_iload_n (k := 2) (by decide +kernel)) <|
  nv_oc (n_iconst (z := 0) (by decide +kernel)) <|
  nv_oc (n_iconst (z := 1) (by decide +kernel)) <|
  nv_oc (n_static (M' := M_X5_outside) (idx := 56) (n := 3) (by decide +kernel) fn_X5_outside st_X5_outside l_X5_56 ⟨by decide, by decide⟩) <|
  nv_oc (n_if_eq (off := 5) (tgt := 21) (by decide +kernel) (by decide)) <|
  nv_oc (n_iconst (z := -1) (by decide +kernel)) <|
  nv_oc (n_iret (by decide +kernel) rfl) <|
  nv_oc (n_bipush (z := -4) (by decide +kernel) (by decide)) <|
  nv_oc (n_istore_n (k := 3) (by decide +kernel) (by decide)) <|
  nv_oc (n_bipush (z := -4) (by decide +kernel) (by decide)) <|
  nv_oc (n_istore (k := 4) (by decide +kernel) (by decide)) <|
  nv_oc (n_iconst (z := 0) (by decide +kernel)) <|
  nv_oc (n_istore (k := 5) (by decide +kernel) (by decide)) <|
  nv_oc (n_iload (k := 5) (by decide +kernel)) <|
  nv_oc (n_aload_n (k := 0) (by decide +kernel)) <|
  nv_oc (n_getfield (idx := 12) (ci := 5) (k := 0) (N := 10) (D := RX5) (T := TX5) (by decide +kernel) rfl i_X5 (by decide) (by decide) f_X5_12) <|
  nv_oc (n_getfield (idx := 128) (ci := 0) (k := 1) (N := 11) (D := RX0) (T := TX0) (by decide +kernel) rfl i_X0 (by decide) (by decide) f_X5_128) <|
  nv_oc (n_icmp_ge (off := 67) (tgt := 107) (by decide +kernel) (by decide)) <|
  nv_oc (n_aload_n (k := 0) (by decide +kernel)) <|
  nv_oc (n_getfield (idx := 29) (ci := 5) (k := 5) (N := 10) (D := RX5) (T := TX5) (by decide +kernel) rfl i_X5 (by decide) (by decide) f_X5_29) <|
  nv_oc (n_aload_n (k := 0) (by decide +kernel)) <|
  nv_oc (n_getfield (idx := 12) (ci := 5) (k := 0) (N := 10) (D := RX5) (T := TX5) (by decide +kernel) rfl i_X5 (by decide) (by decide) f_X5_12) <|
  nv_oc (n_virtual (M' := M_X0_takeAll) (idx := 121) (n := 1) (ci := 0) (N := 11) (D := RX0) (T := TX0) (by decide +kernel) fn_X0_takeAll fv_X0_takeAll rfl rfl l_X5_121 ⟨by decide, by decide⟩) <|
  nv_oc (n_aload_n (k := 0) (by decide +kernel)) <|
  nv_oc (n_getfield (idx := 29) (ci := 5) (k := 5) (N := 10) (D := RX5) (T := TX5) (by decide +kernel) rfl i_X5 (by decide) (by decide) f_X5_29) <|
  nv_oc (n_iload (k := 5) (by decide +kernel)) <|
  nv_oc (n_iconst (z := 3) (by decide +kernel)) <|
  nv_oc (n_virtual (M' := M_X0_addTeeth) (idx := 154) (n := 2) (ci := 0) (N := 11) (D := RX0) (T := TX0) (by decide +kernel) fn_X0_addTeeth fv_X0_addTeeth rfl rfl l_X5_154 ⟨by decide, by decide⟩) <|
  nv_oc (n_aload_n (k := 0) (by decide +kernel)) <|
  nv_oc (n_getfield (idx := 29) (ci := 5) (k := 5) (N := 10) (D := RX5) (T := TX5) (by decide +kernel) rfl i_X5 (by decide) (by decide) f_X5_29) <|
  nv_oc (n_iload_n (k := 1) (by decide +kernel)) <|
  nv_oc (n_virtual (M' := M_X0_passHours) (idx := 194) (n := 1) (ci := 0) (N := 11) (D := RX0) (T := TX0) (by decide +kernel) fn_X0_passHours fv_X0_passHours rfl rfl l_X5_194 ⟨by decide, by decide⟩) <|
  nv_oc (n_aload_n (k := 0) (by decide +kernel)) <|
  nv_oc (n_getfield (idx := 29) (ci := 5) (k := 5) (N := 10) (D := RX5) (T := TX5) (by decide +kernel) rfl i_X5 (by decide) (by decide) f_X5_29) <|
  nv_oc (n_virtual (M' := M_X0_leftOfAll) (idx := 138) (n := 0) (ci := 0) (N := 11) (D := RX0) (T := TX0) (by decide +kernel) fn_X0_leftOfAll fv_X0_leftOfAll rfl rfl l_X5_138 ⟨by decide, by decide⟩) <|
  nv_oc (n_istore (k := 6) (by decide +kernel) (by decide)) <|
  nv_oc (n_iload_n (k := 3) (by decide +kernel)) <|
  nv_oc (n_bipush (z := -4) (by decide +kernel) (by decide)) <|
  nv_oc (n_icmp_eq (off := 10) (tgt := 94) (by decide +kernel) (by decide)) <|
  nv_oc (n_iload (k := 6) (by decide +kernel)) <|
  nv_oc (n_iload (k := 4) (by decide +kernel)) <|
  nv_oc (n_icmp_ge (off := 10) (tgt := 101) (by decide +kernel) (by decide)) <|
  nv_oc (n_iload (k := 5) (by decide +kernel)) <|
  nv_oc (n_istore_n (k := 3) (by decide +kernel) (by decide)) <|
  nv_oc (n_iload (k := 6) (by decide +kernel)) <|
  nv_oc (n_istore (k := 4) (by decide +kernel) (by decide)) <|
  nv_oc (n_iinc (k := 5) (d := 1) (by decide +kernel) (by decide)) <|
  nv_oc (n_goto (off := -73) (tgt := 31) (by decide +kernel) (by decide)) <|
  nv_oc (n_iload_n (k := 2) (by decide +kernel)) <|
  nv_oc (n_if_ne (off := 7) (tgt := 115) (by decide +kernel) (by decide)) <|
  nv_oc (n_iload_n (k := 3) (by decide +kernel)) <|
  nv_oc (n_goto (off := 5) (tgt := 117) (by decide +kernel) (by decide)) <|
  nv_oc (n_iload (k := 4) (by decide +kernel)) <|
  nv_oc (n_iret (by decide +kernel) rfl) <|
  nv_on
def M_X5_without : nv_MD := (RX5, yX5_without, cX5_without, 2, (some .int), 5, 116)
theorem fn_X5_without : nv_fn M_X5_without 1 := ⟨List.mem_of_getElem? (i := 660) (by decide +kernel), List.mem_of_getElem? (i := 44) (by decide +kernel), by decide +kernel⟩
theorem fv_X5_without : nv_fnV M_X5_without := ⟨List.mem_of_getElem? (i := 658) (by decide +kernel), List.mem_of_getElem? (i := 659) (by decide +kernel)⟩
def P_X5_without : nv_Pg := [(0, s_al 0 1), (1, s_il 1 2), (2, s_cv 5 M_X5_noSawyer 1 5), (5, s_if c_eq 10 8), (8, s_ki (-1) 9), (9, s_ir), (10, s_al 0 11), (11, s_gf 5 5 14), (14, s_al 0 15), (15, s_gf 5 0 18), (18, s_cv 0 M_X0_takeAll 1 21), (21, s_al 0 22), (22, s_gf 5 5 25), (25, s_gf 0 9 28), (28, s_il 1 29), (29, s_ki (-4) 31), (31, s_iw 32), (32, s_al 0 33), (33, s_cv 5 M_X5_noonOfTrial 0 36), (36, s_ir)]
set_option maxRecDepth 100000 in
set_option maxHeartbeats 4000000 in
theorem ok_X5_without : nv_ok_P M_X5_without P_X5_without :=
  nv_oc (n_aload_n (k := 0) (by decide +kernel)) <|
  nv_oc (n_iload_n (k := 1) (by decide +kernel)) <|
  nv_oc (n_virtual (M' := M_X5_noSawyer) (idx := 91) (n := 1) (ci := 5) (N := 10) (D := RX5) (T := TX5) (by decide +kernel) fn_X5_noSawyer fv_X5_noSawyer rfl rfl l_X5_91 ⟨by decide, by decide⟩) <|
  nv_oc (n_if_eq (off := 5) (tgt := 10) (by decide +kernel) (by decide)) <|
  nv_oc (n_iconst (z := -1) (by decide +kernel)) <|
  nv_oc (n_iret (by decide +kernel) rfl) <|
  nv_oc (n_aload_n (k := 0) (by decide +kernel)) <|
  nv_oc (n_getfield (idx := 29) (ci := 5) (k := 5) (N := 10) (D := RX5) (T := TX5) (by decide +kernel) rfl i_X5 (by decide) (by decide) f_X5_29) <|
  nv_oc (n_aload_n (k := 0) (by decide +kernel)) <|
  nv_oc (n_getfield (idx := 12) (ci := 5) (k := 0) (N := 10) (D := RX5) (T := TX5) (by decide +kernel) rfl i_X5 (by decide) (by decide) f_X5_12) <|
  nv_oc (n_virtual (M' := M_X0_takeAll) (idx := 121) (n := 1) (ci := 0) (N := 11) (D := RX0) (T := TX0) (by decide +kernel) fn_X0_takeAll fv_X0_takeAll rfl rfl l_X5_121 ⟨by decide, by decide⟩) <|
  nv_oc (n_aload_n (k := 0) (by decide +kernel)) <|
  nv_oc (n_getfield (idx := 29) (ci := 5) (k := 5) (N := 10) (D := RX5) (T := TX5) (by decide +kernel) rfl i_X5 (by decide) (by decide) f_X5_29) <|
  nv_oc (n_getfield (idx := 100) (ci := 0) (k := 9) (N := 11) (D := RX0) (T := TX0) (by decide +kernel) rfl i_X0 (by decide) (by decide) f_X5_100) <|
  nv_oc (n_iload_n (k := 1) (by decide +kernel)) <|
  nv_oc (n_bipush (z := -4) (by decide +kernel) (by decide)) <|
  nv_oc (n_iastore (by decide +kernel)) <|
  nv_oc (n_aload_n (k := 0) (by decide +kernel)) <|
  nv_oc (n_virtual (M' := M_X5_noonOfTrial) (idx := 175) (n := 0) (ci := 5) (N := 10) (D := RX5) (T := TX5) (by decide +kernel) fn_X5_noonOfTrial fv_X5_noonOfTrial rfl rfl l_X5_175 ⟨by decide, by decide⟩) <|
  nv_oc (n_iret (by decide +kernel) rfl) <|
  nv_on
def M_X5_thickest : nv_MD := (RX5, yX5_thickest, cX5_thickest, 4, (some .int), 4, 94)
theorem fn_X5_thickest : nv_fn M_X5_thickest 2 := ⟨List.mem_of_getElem? (i := 664) (by decide +kernel), List.mem_of_getElem? (i := 44) (by decide +kernel), by decide +kernel⟩
theorem fv_X5_thickest : nv_fnV M_X5_thickest := ⟨List.mem_of_getElem? (i := 662) (by decide +kernel), List.mem_of_getElem? (i := 663) (by decide +kernel)⟩
def P_X5_thickest : nv_Pg := [(0, s_al 0 1), (1, s_il 1 2), (2, s_cv 5 M_X5_noPlank 1 5), (5, s_if c_eq 8 18), (8, s_il 2 9), (9, s_ki (1) 10), (10, s_ki (40) 12), (12, s_cs M_X5_outside 3 15), (15, s_if c_eq 20 18), (18, s_ki (-1) 19), (19, s_ir), (20, s_ki (99) 22), (22, s_is 3 23), (23, s_il 3 24), (24, s_if c_le 76 27), (27, s_al 0 28), (28, s_gf 5 5 31), (31, s_al 0 32), (32, s_gf 5 0 35), (35, s_cv 0 M_X0_takeAll 1 38), (38, s_al 0 39), (39, s_gf 5 5 42), (42, s_gf 0 6 45), (45, s_il 1 46), (46, s_il 3 47), (47, s_iw 48), (48, s_al 0 49), (49, s_gf 5 5 52), (52, s_il 2 53), (53, s_cv 0 M_X0_passHours 1 56), (56, s_al 0 57), (57, s_gf 5 5 60), (60, s_gf 0 6 63), (63, s_il 1 64), (64, s_ia 65), (65, s_if c_eq 68 70), (68, s_il 3 69), (69, s_ir), (70, s_inc 3 (-1) 73), (73, s_go 23), (76, s_ki (0) 77), (77, s_ir)]
set_option maxRecDepth 100000 in
set_option maxHeartbeats 4000000 in
theorem ok_X5_thickest : nv_ok_P M_X5_thickest P_X5_thickest :=
  nv_oc (n_aload_n (k := 0) (by decide +kernel)) <|
  nv_oc (n_iload_n (k := 1) (by decide +kernel)) <|
  nv_oc (n_virtual (M' := M_X5_noPlank) (idx := 70) (n := 1) (ci := 5) (N := 10) (D := RX5) (T := TX5) (by decide +kernel) fn_X5_noPlank fv_X5_noPlank rfl rfl l_X5_70 ⟨by decide, by decide⟩) <|
  nv_oc (n_if_ne (off := 13) (tgt := 18) (by decide +kernel) (by decide)) <|
  nv_oc (n_iload_n (k := 2) (by decide +kernel)) <|
  nv_oc (n_iconst (z := 1) (by decide +kernel)) <|
  nv_oc (n_bipush (z := 40) (by decide +kernel) (by decide)) <|
  nv_oc (n_static (M' := M_X5_outside) (idx := 56) (n := 3) (by decide +kernel) fn_X5_outside st_X5_outside l_X5_56 ⟨by decide, by decide⟩) <|
  nv_oc (n_if_eq (off := 5) (tgt := 20) (by decide +kernel) (by decide)) <|
  nv_oc (n_iconst (z := -1) (by decide +kernel)) <|
  nv_oc (n_iret (by decide +kernel) rfl) <|
  nv_oc (n_bipush (z := 99) (by decide +kernel) (by decide)) <|
  nv_oc (n_istore_n (k := 3) (by decide +kernel) (by decide)) <|
  nv_oc (n_iload_n (k := 3) (by decide +kernel)) <|
  nv_oc (n_if_le (off := 52) (tgt := 76) (by decide +kernel) (by decide)) <|
  nv_oc (n_aload_n (k := 0) (by decide +kernel)) <|
  nv_oc (n_getfield (idx := 29) (ci := 5) (k := 5) (N := 10) (D := RX5) (T := TX5) (by decide +kernel) rfl i_X5 (by decide) (by decide) f_X5_29) <|
  nv_oc (n_aload_n (k := 0) (by decide +kernel)) <|
  nv_oc (n_getfield (idx := 12) (ci := 5) (k := 0) (N := 10) (D := RX5) (T := TX5) (by decide +kernel) rfl i_X5 (by decide) (by decide) f_X5_12) <|
  nv_oc (n_virtual (M' := M_X0_takeAll) (idx := 121) (n := 1) (ci := 0) (N := 11) (D := RX0) (T := TX0) (by decide +kernel) fn_X0_takeAll fv_X0_takeAll rfl rfl l_X5_121 ⟨by decide, by decide⟩) <|
  nv_oc (n_aload_n (k := 0) (by decide +kernel)) <|
  nv_oc (n_getfield (idx := 29) (ci := 5) (k := 5) (N := 10) (D := RX5) (T := TX5) (by decide +kernel) rfl i_X5 (by decide) (by decide) f_X5_29) <|
  nv_oc (n_getfield (idx := 81) (ci := 0) (k := 6) (N := 11) (D := RX0) (T := TX0) (by decide +kernel) rfl i_X0 (by decide) (by decide) f_X5_81) <|
  nv_oc (n_iload_n (k := 1) (by decide +kernel)) <|
  nv_oc (n_iload_n (k := 3) (by decide +kernel)) <|
  nv_oc (n_iastore (by decide +kernel)) <|
  nv_oc (n_aload_n (k := 0) (by decide +kernel)) <|
  nv_oc (n_getfield (idx := 29) (ci := 5) (k := 5) (N := 10) (D := RX5) (T := TX5) (by decide +kernel) rfl i_X5 (by decide) (by decide) f_X5_29) <|
  nv_oc (n_iload_n (k := 2) (by decide +kernel)) <|
  nv_oc (n_virtual (M' := M_X0_passHours) (idx := 194) (n := 1) (ci := 0) (N := 11) (D := RX0) (T := TX0) (by decide +kernel) fn_X0_passHours fv_X0_passHours rfl rfl l_X5_194 ⟨by decide, by decide⟩) <|
  nv_oc (n_aload_n (k := 0) (by decide +kernel)) <|
  nv_oc (n_getfield (idx := 29) (ci := 5) (k := 5) (N := 10) (D := RX5) (T := TX5) (by decide +kernel) rfl i_X5 (by decide) (by decide) f_X5_29) <|
  nv_oc (n_getfield (idx := 81) (ci := 0) (k := 6) (N := 11) (D := RX0) (T := TX0) (by decide +kernel) rfl i_X0 (by decide) (by decide) f_X5_81) <|
  nv_oc (n_iload_n (k := 1) (by decide +kernel)) <|
  nv_oc (n_iaload (by decide +kernel)) <|
  nv_oc (n_if_ne (off := 5) (tgt := 70) (by decide +kernel) (by decide)) <|
  nv_oc (n_iload_n (k := 3) (by decide +kernel)) <|
  nv_oc (n_iret (by decide +kernel) rfl) <|
  nv_oc (n_iinc (k := 3) (d := -1) (by decide +kernel) (by decide)) <|
  nv_oc (n_goto (off := -50) (tgt := 23) (by decide +kernel) (by decide)) <|
  nv_oc (n_iconst (z := 0) (by decide +kernel)) <|
  nv_oc (n_iret (by decide +kernel) rfl) <|
  nv_on
def M_X5_sharedDivisor : nv_MD := (RX5, yX5_sharedDivisor, cX5_sharedDivisor, 6, (some .int), 1, 21)
theorem fn_X5_sharedDivisor : nv_fn M_X5_sharedDivisor 2 := ⟨List.mem_of_getElem? (i := 673) (by decide +kernel), List.mem_of_getElem? (i := 44) (by decide +kernel), by decide +kernel⟩
theorem st_X5_sharedDivisor : Cond.static (nv_y M_X5_sharedDivisor) ∈ lw_tbl := List.mem_of_getElem? (i := 672) (by decide +kernel)
def P_X5_sharedDivisor : nv_Pg := [(0, s_il 0 1), (1, s_is 2 2), (2, s_il 1 3), (3, s_is 3 4), (4, s_ki (0) 5), (5, s_is 4 7), (7, s_il 4 9), (9, s_ki (64) 11), (11, s_ic c_ge 34 14), (14, s_il 3 15), (15, s_if c_eq 34 18), (18, s_il 2 19), (19, s_il 3 20), (20, s_rem 21), (21, s_is 5 23), (23, s_il 3 24), (24, s_is 2 25), (25, s_il 5 27), (27, s_is 3 28), (28, s_inc 4 (1) 31), (31, s_go 7), (34, s_ki (1) 35), (35, s_il 2 36), (36, s_max 39), (39, s_ir)]
set_option maxRecDepth 100000 in
set_option maxHeartbeats 4000000 in
theorem ok_X5_sharedDivisor : nv_ok_P M_X5_sharedDivisor P_X5_sharedDivisor :=
  nv_oc (n_iload_n (k := 0) (by decide +kernel)) <|
  nv_oc (n_istore_n (k := 2) (by decide +kernel) (by decide)) <|
  nv_oc (n_iload_n (k := 1) (by decide +kernel)) <|
  nv_oc (n_istore_n (k := 3) (by decide +kernel) (by decide)) <|
  nv_oc (n_iconst (z := 0) (by decide +kernel)) <|
  nv_oc (n_istore (k := 4) (by decide +kernel) (by decide)) <|
  nv_oc (n_iload (k := 4) (by decide +kernel)) <|
  nv_oc (n_bipush (z := 64) (by decide +kernel) (by decide)) <|
  nv_oc (n_icmp_ge (off := 23) (tgt := 34) (by decide +kernel) (by decide)) <|
  nv_oc (n_iload_n (k := 3) (by decide +kernel)) <|
  nv_oc (n_if_eq (off := 19) (tgt := 34) (by decide +kernel) (by decide)) <|
  nv_oc (n_iload_n (k := 2) (by decide +kernel)) <|
  nv_oc (n_iload_n (k := 3) (by decide +kernel)) <|
  nv_oc (n_irem (by decide +kernel)) <|
  nv_oc (n_istore (k := 5) (by decide +kernel) (by decide)) <|
  nv_oc (n_iload_n (k := 3) (by decide +kernel)) <|
  nv_oc (n_istore_n (k := 2) (by decide +kernel) (by decide)) <|
  nv_oc (n_iload (k := 5) (by decide +kernel)) <|
  nv_oc (n_istore_n (k := 3) (by decide +kernel) (by decide)) <|
  nv_oc (n_iinc (k := 4) (d := 1) (by decide +kernel) (by decide)) <|
  nv_oc (n_goto (off := -24) (tgt := 7) (by decide +kernel) (by decide)) <|
  nv_oc (n_iconst (z := 1) (by decide +kernel)) <|
  nv_oc (n_iload_n (k := 2) (by decide +kernel)) <|
  nv_oc (n_max (idx := 269) (by decide +kernel) l_X5_269 (by decide) (by decide)) <|
  nv_oc (n_iret (by decide +kernel) rfl) <|
  nv_on
def M_X5_hops : nv_MD := (RX5, yX5_hops, cX5_hops, 9, (some .int), 3, 73)
theorem fn_X5_hops : nv_fn M_X5_hops 3 := ⟨List.mem_of_getElem? (i := 668) (by decide +kernel), List.mem_of_getElem? (i := 44) (by decide +kernel), by decide +kernel⟩
theorem fv_X5_hops : nv_fnV M_X5_hops := ⟨List.mem_of_getElem? (i := 666) (by decide +kernel), List.mem_of_getElem? (i := 667) (by decide +kernel)⟩
def P_X5_hops : nv_Pg := [(0, s_al 0 1), (1, s_il 1 2), (2, s_cv 5 M_X5_noPlank 1 5), (5, s_if c_eq 8 27), (8, s_il 2 9), (9, s_ki (0) 10), (10, s_ki (10) 12), (12, s_cs M_X5_outside 3 15), (15, s_if c_eq 18 27), (18, s_il 3 19), (19, s_ki (0) 20), (20, s_ki (1) 21), (21, s_cs M_X5_outside 3 24), (24, s_if c_eq 29 27), (27, s_ki (-1) 28), (28, s_ir), (29, s_al 0 30), (30, s_gf 5 0 33), (33, s_il 1 34), (34, s_cv 0 M_X0_sittersOn 1 37), (37, s_is 4 39), (39, s_ki (0) 40), (40, s_is 5 42), (42, s_ki (0) 43), (43, s_is 6 45), (45, s_il 6 47), (47, s_ki (32) 49), (49, s_ic c_ge 137 52), (52, s_il 6 54), (54, s_il 4 56), (56, s_ki (-1) 57), (57, s_b nv_xor 58), (58, s_b nv_and 59), (59, s_if c_eq 62 66), (62, s_ki (1) 63), (63, s_go 67), (66, s_ki (0) 67), (67, s_is 7 69), (69, s_il 7 71), (71, s_if c_eq 131 74), (74, s_al 0 75), (75, s_gf 5 0 78), (78, s_il 6 80), (80, s_cv 0 M_X0_cutByAll 1 83), (83, s_al 0 84), (84, s_gf 5 0 87), (87, s_gf 0 6 90), (90, s_il 1 91), (91, s_ia 92), (92, s_ic c_lt 131 95), (95, s_il 4 97), (97, s_il 6 99), (99, s_ki (-1) 100), (100, s_b nv_xor 101), (101, s_b nv_and 102), (102, s_is 8 104), (104, s_il 5 106), (106, s_ki (10) 108), (108, s_il 2 109), (109, s_sub 110), (110, s_il 6 112), (112, s_cs M_J6_bitCount_0f7a4 1 115), (115, s_cs M_X5_power 2 118), (118, s_il 2 119), (119, s_il 8 121), (121, s_cs M_J6_bitCount_0f7a4 1 124), (124, s_cs M_X5_power 2 127), (127, s_mul 128), (128, s_add 129), (129, s_is 5 131), (131, s_inc 6 (1) 134), (134, s_go 45), (137, s_ki (10) 139), (139, s_il 4 141), (141, s_cs M_J6_bitCount_0f7a4 1 144), (144, s_cs M_X5_power 2 147), (147, s_is 6 149), (149, s_il 5 151), (151, s_il 6 153), (153, s_cs M_X5_sharedDivisor 2 156), (156, s_is 7 158), (158, s_il 3 159), (159, s_if c_eq 162 170), (162, s_il 5 164), (164, s_il 7 166), (166, s_div 167), (167, s_go 175), (170, s_il 6 172), (172, s_il 7 174), (174, s_div 175), (175, s_ir)]
set_option maxRecDepth 100000 in
set_option maxHeartbeats 4000000 in
theorem ok_X5_hops : nv_ok_P M_X5_hops P_X5_hops :=
  nv_oc (n_aload_n (k := 0) (by decide +kernel)) <|
  nv_oc (n_iload_n (k := 1) (by decide +kernel)) <|
  nv_oc (n_virtual (M' := M_X5_noPlank) (idx := 70) (n := 1) (ci := 5) (N := 10) (D := RX5) (T := TX5) (by decide +kernel) fn_X5_noPlank fv_X5_noPlank rfl rfl l_X5_70 ⟨by decide, by decide⟩) <|
  nv_oc (n_if_ne (off := 22) (tgt := 27) (by decide +kernel) (by decide)) <|
  nv_oc (n_iload_n (k := 2) (by decide +kernel)) <|
  nv_oc (n_iconst (z := 0) (by decide +kernel)) <|
  nv_oc (n_bipush (z := 10) (by decide +kernel) (by decide)) <|
  nv_oc (n_static (M' := M_X5_outside) (idx := 56) (n := 3) (by decide +kernel) fn_X5_outside st_X5_outside l_X5_56 ⟨by decide, by decide⟩) <|
  nv_oc (n_if_ne (off := 12) (tgt := 27) (by decide +kernel) (by decide)) <|
  nv_oc (n_iload_n (k := 3) (by decide +kernel)) <|
  nv_oc (n_iconst (z := 0) (by decide +kernel)) <|
  nv_oc (n_iconst (z := 1) (by decide +kernel)) <|
  nv_oc (n_static (M' := M_X5_outside) (idx := 56) (n := 3) (by decide +kernel) fn_X5_outside st_X5_outside l_X5_56 ⟨by decide, by decide⟩) <|
  nv_oc (n_if_eq (off := 5) (tgt := 29) (by decide +kernel) (by decide)) <|
  nv_oc (n_iconst (z := -1) (by decide +kernel)) <|
  nv_oc (n_iret (by decide +kernel) rfl) <|
  nv_oc (n_aload_n (k := 0) (by decide +kernel)) <|
  nv_oc (n_getfield (idx := 12) (ci := 5) (k := 0) (N := 10) (D := RX5) (T := TX5) (by decide +kernel) rfl i_X5 (by decide) (by decide) f_X5_12) <|
  nv_oc (n_iload_n (k := 1) (by decide +kernel)) <|
  nv_oc (n_virtual (M' := M_X0_sittersOn) (idx := 84) (n := 1) (ci := 0) (N := 11) (D := RX0) (T := TX0) (by decide +kernel) fn_X0_sittersOn fv_X0_sittersOn rfl rfl l_X5_84 ⟨by decide, by decide⟩) <|
  nv_oc (n_istore (k := 4) (by decide +kernel) (by decide)) <|
  nv_oc (n_iconst (z := 0) (by decide +kernel)) <|
  nv_oc (n_istore (k := 5) (by decide +kernel) (by decide)) <|
  nv_oc (n_iconst (z := 0) (by decide +kernel)) <|
  nv_oc (n_istore (k := 6) (by decide +kernel) (by decide)) <|
  nv_oc (n_iload (k := 6) (by decide +kernel)) <|
  nv_oc (n_bipush (z := 32) (by decide +kernel) (by decide)) <|
  nv_oc (n_icmp_ge (off := 88) (tgt := 137) (by decide +kernel) (by decide)) <|
  nv_oc (n_iload (k := 6) (by decide +kernel)) <|
  nv_oc (n_iload (k := 4) (by decide +kernel)) <|
  nv_oc (n_iconst (z := -1) (by decide +kernel)) <|
  nv_oc (n_ixor (by decide +kernel)) <|
  nv_oc (n_iand (by decide +kernel)) <|
  nv_oc (n_if_ne (off := 7) (tgt := 66) (by decide +kernel) (by decide)) <|
  nv_oc (n_iconst (z := 1) (by decide +kernel)) <|
  nv_oc (n_goto (off := 4) (tgt := 67) (by decide +kernel) (by decide)) <|
  nv_oc (n_iconst (z := 0) (by decide +kernel)) <|
  nv_oc (n_istore (k := 7) (by decide +kernel) (by decide)) <|
  nv_oc (n_iload (k := 7) (by decide +kernel)) <|
  nv_oc (n_if_eq (off := 60) (tgt := 131) (by decide +kernel) (by decide)) <|
  nv_oc (n_aload_n (k := 0) (by decide +kernel)) <|
  nv_oc (n_getfield (idx := 12) (ci := 5) (k := 0) (N := 10) (D := RX5) (T := TX5) (by decide +kernel) rfl i_X5 (by decide) (by decide) f_X5_12) <|
  nv_oc (n_iload (k := 6) (by decide +kernel)) <|
  nv_oc (n_virtual (M' := M_X0_cutByAll) (idx := 88) (n := 1) (ci := 0) (N := 11) (D := RX0) (T := TX0) (by decide +kernel) fn_X0_cutByAll fv_X0_cutByAll rfl rfl l_X5_88 ⟨by decide, by decide⟩) <|
  nv_oc (n_aload_n (k := 0) (by decide +kernel)) <|
  nv_oc (n_getfield (idx := 12) (ci := 5) (k := 0) (N := 10) (D := RX5) (T := TX5) (by decide +kernel) rfl i_X5 (by decide) (by decide) f_X5_12) <|
  nv_oc (n_getfield (idx := 81) (ci := 0) (k := 6) (N := 11) (D := RX0) (T := TX0) (by decide +kernel) rfl i_X0 (by decide) (by decide) f_X5_81) <|
  nv_oc (n_iload_n (k := 1) (by decide +kernel)) <|
  nv_oc (n_iaload (by decide +kernel)) <|
  nv_oc (n_icmp_lt (off := 39) (tgt := 131) (by decide +kernel) (by decide)) <|
  nv_oc (n_iload (k := 4) (by decide +kernel)) <|
  nv_oc (n_iload (k := 6) (by decide +kernel)) <|
  nv_oc (n_iconst (z := -1) (by decide +kernel)) <|
  nv_oc (n_ixor (by decide +kernel)) <|
  nv_oc (n_iand (by decide +kernel)) <|
  nv_oc (n_istore (k := 8) (by decide +kernel) (by decide)) <|
  nv_oc (n_iload (k := 5) (by decide +kernel)) <|
  nv_oc (n_bipush (z := 10) (by decide +kernel) (by decide)) <|
  nv_oc (n_iload_n (k := 2) (by decide +kernel)) <|
  nv_oc (n_isub (by decide +kernel)) <|
  nv_oc (n_iload (k := 6) (by decide +kernel)) <|
  nv_oc (n_static (M' := M_J6_bitCount_0f7a4) (idx := 197) (n := 1) (by decide +kernel) fn_J6_bitCount_0f7a4 st_J6_bitCount_0f7a4 l_X5_197 ⟨by decide, by decide⟩) <|
  nv_oc (n_static (M' := M_X5_power) (idx := 202) (n := 2) (by decide +kernel) fn_X5_power st_X5_power l_X5_202 ⟨by decide, by decide⟩) <|
  nv_oc (n_iload_n (k := 2) (by decide +kernel)) <|
  nv_oc (n_iload (k := 8) (by decide +kernel)) <|
  nv_oc (n_static (M' := M_J6_bitCount_0f7a4) (idx := 197) (n := 1) (by decide +kernel) fn_J6_bitCount_0f7a4 st_J6_bitCount_0f7a4 l_X5_197 ⟨by decide, by decide⟩) <|
  nv_oc (n_static (M' := M_X5_power) (idx := 202) (n := 2) (by decide +kernel) fn_X5_power st_X5_power l_X5_202 ⟨by decide, by decide⟩) <|
  nv_oc (n_imul (by decide +kernel)) <|
  nv_oc (n_iadd (by decide +kernel)) <|
  nv_oc (n_istore (k := 5) (by decide +kernel) (by decide)) <|
  nv_oc (n_iinc (k := 6) (d := 1) (by decide +kernel) (by decide)) <|
  nv_oc (n_goto (off := -89) (tgt := 45) (by decide +kernel) (by decide)) <|
  nv_oc (n_bipush (z := 10) (by decide +kernel) (by decide)) <|
  nv_oc (n_iload (k := 4) (by decide +kernel)) <|
  nv_oc (n_static (M' := M_J6_bitCount_0f7a4) (idx := 197) (n := 1) (by decide +kernel) fn_J6_bitCount_0f7a4 st_J6_bitCount_0f7a4 l_X5_197 ⟨by decide, by decide⟩) <|
  nv_oc (n_static (M' := M_X5_power) (idx := 202) (n := 2) (by decide +kernel) fn_X5_power st_X5_power l_X5_202 ⟨by decide, by decide⟩) <|
  nv_oc (n_istore (k := 6) (by decide +kernel) (by decide)) <|
  nv_oc (n_iload (k := 5) (by decide +kernel)) <|
  nv_oc (n_iload (k := 6) (by decide +kernel)) <|
  nv_oc (n_static (M' := M_X5_sharedDivisor) (idx := 205) (n := 2) (by decide +kernel) fn_X5_sharedDivisor st_X5_sharedDivisor l_X5_205 ⟨by decide, by decide⟩) <|
  nv_oc (n_istore (k := 7) (by decide +kernel) (by decide)) <|
  nv_oc (n_iload_n (k := 3) (by decide +kernel)) <|
  nv_oc (n_if_ne (off := 11) (tgt := 170) (by decide +kernel) (by decide)) <|
  nv_oc (n_iload (k := 5) (by decide +kernel)) <|
  nv_oc (n_iload (k := 7) (by decide +kernel)) <|
  nv_oc (n_idiv (by decide +kernel)) <|
  nv_oc (n_goto (off := 8) (tgt := 175) (by decide +kernel) (by decide)) <|
  nv_oc (n_iload (k := 6) (by decide +kernel)) <|
  nv_oc (n_iload (k := 7) (by decide +kernel)) <|
  nv_oc (n_idiv (by decide +kernel)) <|
  nv_oc (n_iret (by decide +kernel) rfl) <|
  nv_on
def M_X5_image : nv_MD := (RX5, yX5_image, cX5_image, 1, (some .int), 3, 83)
theorem fn_X5_image : nv_fn M_X5_image 0 := ⟨List.mem_of_getElem? (i := 678) (by decide +kernel), List.mem_of_getElem? (i := 44) (by decide +kernel), by decide +kernel⟩
theorem fv_X5_image : nv_fnV M_X5_image := ⟨List.mem_of_getElem? (i := 676) (by decide +kernel), List.mem_of_getElem? (i := 677) (by decide +kernel)⟩
def P_X5_image : nv_Pg := [(0, s_al 0 1), (1, s_gf 5 2 4), (4, s_al 0 5), (5, s_gf 5 0 8), (8, s_cv 0 M_X0_takeAll 1 11), (11, s_al 0 12), (12, s_gf 5 3 15), (15, s_al 0 16), (16, s_gf 5 1 19), (19, s_cv 1 M_X1_takePast 1 22), (22, s_al 0 23), (23, s_ki (1) 24), (24, s_pz 5 4 27), (27, s_ki (1) 28), (28, s_ir)]
set_option maxRecDepth 100000 in
set_option maxHeartbeats 4000000 in
theorem ok_X5_image : nv_ok_P M_X5_image P_X5_image :=
  nv_oc (n_aload_n (k := 0) (by decide +kernel)) <|
  nv_oc (n_getfield (idx := 23) (ci := 5) (k := 2) (N := 10) (D := RX5) (T := TX5) (by decide +kernel) rfl i_X5 (by decide) (by decide) f_X5_23) <|
  nv_oc (n_aload_n (k := 0) (by decide +kernel)) <|
  nv_oc (n_getfield (idx := 12) (ci := 5) (k := 0) (N := 10) (D := RX5) (T := TX5) (by decide +kernel) rfl i_X5 (by decide) (by decide) f_X5_12) <|
  nv_oc (n_virtual (M' := M_X0_takeAll) (idx := 121) (n := 1) (ci := 0) (N := 11) (D := RX0) (T := TX0) (by decide +kernel) fn_X0_takeAll fv_X0_takeAll rfl rfl l_X5_121 ⟨by decide, by decide⟩) <|
  nv_oc (n_aload_n (k := 0) (by decide +kernel)) <|
  nv_oc (n_getfield (idx := 26) (ci := 5) (k := 3) (N := 10) (D := RX5) (T := TX5) (by decide +kernel) rfl i_X5 (by decide) (by decide) f_X5_26) <|
  nv_oc (n_aload_n (k := 0) (by decide +kernel)) <|
  nv_oc (n_getfield (idx := 19) (ci := 5) (k := 1) (N := 10) (D := RX5) (T := TX5) (by decide +kernel) rfl i_X5 (by decide) (by decide) f_X5_19) <|
  nv_oc (n_virtual (M' := M_X1_takePast) (idx := 208) (n := 1) (ci := 1) (N := 3) (D := RX1) (T := TX1) (by decide +kernel) fn_X1_takePast fv_X1_takePast rfl rfl l_X5_208 ⟨by decide, by decide⟩) <|
  nv_oc (n_aload_n (k := 0) (by decide +kernel)) <|
  nv_oc (n_iconst (z := 1) (by decide +kernel)) <|
  nv_oc (n_putbool (idx := 212) (ci := 5) (k := 4) (N := 10) (D := RX5) (T := TX5) tyX5 tyX5_ok nmX5 (by decide +kernel) rfl i_X5 (by decide) (by decide) rfl f_X5_212 rfl) <|
  nv_oc (n_iconst (z := 1) (by decide +kernel)) <|
  nv_oc (n_iret (by decide +kernel) rfl) <|
  nv_on
def M_X5_restore : nv_MD := (RX5, yX5_restore, cX5_restore, 1, (some .int), 3, 83)
theorem fn_X5_restore : nv_fn M_X5_restore 0 := ⟨List.mem_of_getElem? (i := 686) (by decide +kernel), List.mem_of_getElem? (i := 44) (by decide +kernel), by decide +kernel⟩
theorem fv_X5_restore : nv_fnV M_X5_restore := ⟨List.mem_of_getElem? (i := 684) (by decide +kernel), List.mem_of_getElem? (i := 685) (by decide +kernel)⟩
def P_X5_restore : nv_Pg := [(0, s_al 0 1), (1, s_gf 5 4 4), (4, s_if c_eq 7 10), (7, s_ki (-4) 9), (9, s_ir), (10, s_al 0 11), (11, s_gf 5 0 14), (14, s_al 0 15), (15, s_gf 5 2 18), (18, s_cv 0 M_X0_takeAll 1 21), (21, s_al 0 22), (22, s_gf 5 1 25), (25, s_al 0 26), (26, s_gf 5 3 29), (29, s_cv 1 M_X1_takePast 1 32), (32, s_ki (1) 33), (33, s_ir)]
set_option maxRecDepth 100000 in
set_option maxHeartbeats 4000000 in
theorem ok_X5_restore : nv_ok_P M_X5_restore P_X5_restore :=
  nv_oc (n_aload_n (k := 0) (by decide +kernel)) <|
  nv_oc (n_getfield (idx := 212) (ci := 5) (k := 4) (N := 10) (D := RX5) (T := TX5) (by decide +kernel) rfl i_X5 (by decide) (by decide) f_X5_212) <|
  nv_oc (n_if_ne (off := 6) (tgt := 10) (by decide +kernel) (by decide)) <|
  nv_oc (n_bipush (z := -4) (by decide +kernel) (by decide)) <|
  nv_oc (n_iret (by decide +kernel) rfl) <|
  nv_oc (n_aload_n (k := 0) (by decide +kernel)) <|
  nv_oc (n_getfield (idx := 12) (ci := 5) (k := 0) (N := 10) (D := RX5) (T := TX5) (by decide +kernel) rfl i_X5 (by decide) (by decide) f_X5_12) <|
  nv_oc (n_aload_n (k := 0) (by decide +kernel)) <|
  nv_oc (n_getfield (idx := 23) (ci := 5) (k := 2) (N := 10) (D := RX5) (T := TX5) (by decide +kernel) rfl i_X5 (by decide) (by decide) f_X5_23) <|
  nv_oc (n_virtual (M' := M_X0_takeAll) (idx := 121) (n := 1) (ci := 0) (N := 11) (D := RX0) (T := TX0) (by decide +kernel) fn_X0_takeAll fv_X0_takeAll rfl rfl l_X5_121 ⟨by decide, by decide⟩) <|
  nv_oc (n_aload_n (k := 0) (by decide +kernel)) <|
  nv_oc (n_getfield (idx := 19) (ci := 5) (k := 1) (N := 10) (D := RX5) (T := TX5) (by decide +kernel) rfl i_X5 (by decide) (by decide) f_X5_19) <|
  nv_oc (n_aload_n (k := 0) (by decide +kernel)) <|
  nv_oc (n_getfield (idx := 26) (ci := 5) (k := 3) (N := 10) (D := RX5) (T := TX5) (by decide +kernel) rfl i_X5 (by decide) (by decide) f_X5_26) <|
  nv_oc (n_virtual (M' := M_X1_takePast) (idx := 208) (n := 1) (ci := 1) (N := 3) (D := RX1) (T := TX1) (by decide +kernel) fn_X1_takePast fv_X1_takePast rfl rfl l_X5_208 ⟨by decide, by decide⟩) <|
  nv_oc (n_iconst (z := 1) (by decide +kernel)) <|
  nv_oc (n_iret (by decide +kernel) rfl) <|
  nv_on
def M_X5_noSheet : nv_MD := (RX5, yX5_noSheet, cX5_noSheet, 1, (some .boolean), 1, 22)
theorem fn_X5_noSheet : nv_fn M_X5_noSheet 1 := ⟨List.mem_of_getElem? (i := 693) (by decide +kernel), List.mem_of_getElem? (i := 44) (by decide +kernel), by decide +kernel⟩
theorem st_X5_noSheet : Cond.static (nv_y M_X5_noSheet) ∈ lw_tbl := List.mem_of_getElem? (i := 692) (by decide +kernel)
def P_X5_noSheet : nv_Pg := [(0, s_il 0 1), (1, s_ki (0) 2), (2, s_ki (3) 3), (3, s_cs M_X5_outside 3 6), (6, s_zr)]
set_option maxRecDepth 100000 in
set_option maxHeartbeats 4000000 in
theorem ok_X5_noSheet : nv_ok_P M_X5_noSheet P_X5_noSheet :=
  nv_oc (n_iload_n (k := 0) (by decide +kernel)) <|
  nv_oc (n_iconst (z := 0) (by decide +kernel)) <|
  nv_oc (n_iconst (z := 3) (by decide +kernel)) <|
  nv_oc (n_static (M' := M_X5_outside) (idx := 56) (n := 3) (by decide +kernel) fn_X5_outside st_X5_outside l_X5_56 ⟨by decide, by decide⟩) <|
  nv_oc (n_zret (by decide +kernel) rfl) <|
  nv_on
def M_X5_noLane : nv_MD := (RX5, yX5_noLane, cX5_noLane, 1, (some .boolean), 1, 22)
theorem fn_X5_noLane : nv_fn M_X5_noLane 1 := ⟨List.mem_of_getElem? (i := 696) (by decide +kernel), List.mem_of_getElem? (i := 44) (by decide +kernel), by decide +kernel⟩
theorem st_X5_noLane : Cond.static (nv_y M_X5_noLane) ∈ lw_tbl := List.mem_of_getElem? (i := 695) (by decide +kernel)
def P_X5_noLane : nv_Pg := [(0, s_il 0 1), (1, s_ki (0) 2), (2, s_ki (3) 3), (3, s_cs M_X5_outside 3 6), (6, s_zr)]
set_option maxRecDepth 100000 in
set_option maxHeartbeats 4000000 in
theorem ok_X5_noLane : nv_ok_P M_X5_noLane P_X5_noLane :=
  nv_oc (n_iload_n (k := 0) (by decide +kernel)) <|
  nv_oc (n_iconst (z := 0) (by decide +kernel)) <|
  nv_oc (n_iconst (z := 3) (by decide +kernel)) <|
  nv_oc (n_static (M' := M_X5_outside) (idx := 56) (n := 3) (by decide +kernel) fn_X5_outside st_X5_outside l_X5_56 ⟨by decide, by decide⟩) <|
  nv_oc (n_zret (by decide +kernel) rfl) <|
  nv_on
def M_X5_trialShows : nv_MD := (RX5, yX5_trialShows, cX5_trialShows, 6, (some .boolean), 3, 72)
theorem fn_X5_trialShows : nv_fn M_X5_trialShows 4 := ⟨List.mem_of_getElem? (i := 716) (by decide +kernel), List.mem_of_getElem? (i := 44) (by decide +kernel), by decide +kernel⟩
theorem fv_X5_trialShows : nv_fnV M_X5_trialShows := ⟨List.mem_of_getElem? (i := 715) (by decide +kernel), List.mem_of_getElem? (i := 21) (by decide +kernel)⟩
def P_X5_trialShows : nv_Pg := [(0, s_ki (0) 1), (1, s_is 5 3), (3, s_il 5 5), (5, s_il 4 7), (7, s_ic c_ge 49 10), (10, s_al 0 11), (11, s_gf 5 5 14), (14, s_cv 0 M_X0_passHour 0 17), (17, s_pop 18), (18, s_al 2 19), (19, s_gf 3 0 22), (22, s_il 3 23), (23, s_il 5 25), (25, s_add 26), (26, s_la 27), (27, s_al 0 28), (28, s_gf 5 5 31), (31, s_gf 0 6 34), (34, s_il 1 35), (35, s_ia 36), (36, s_i2l 37), (37, s_lcmp 38), (38, s_if c_eq 43 41), (41, s_ki (0) 42), (42, s_zr), (43, s_inc 5 (1) 46), (46, s_go 3), (49, s_ki (1) 50), (50, s_zr)]
set_option maxRecDepth 100000 in
set_option maxHeartbeats 4000000 in
theorem ok_X5_trialShows : nv_ok_P M_X5_trialShows P_X5_trialShows :=
  nv_oc (n_iconst (z := 0) (by decide +kernel)) <|
  nv_oc (n_istore (k := 5) (by decide +kernel) (by decide)) <|
  nv_oc (n_iload (k := 5) (by decide +kernel)) <|
  nv_oc (n_iload (k := 4) (by decide +kernel)) <|
  nv_oc (n_icmp_ge (off := 42) (tgt := 49) (by decide +kernel) (by decide)) <|
  nv_oc (n_aload_n (k := 0) (by decide +kernel)) <|
  nv_oc (n_getfield (idx := 29) (ci := 5) (k := 5) (N := 10) (D := RX5) (T := TX5) (by decide +kernel) rfl i_X5 (by decide) (by decide) f_X5_29) <|
  nv_oc (n_virtual (M' := M_X0_passHour) (idx := 150) (n := 0) (ci := 0) (N := 11) (D := RX0) (T := TX0) (by decide +kernel) fn_X0_passHour fv_X0_passHour rfl rfl l_X5_150 ⟨by decide, by decide⟩) <|
  nv_oc (n_pop (by decide +kernel)) <|
  nv_oc (n_aload_n (k := 2) (by decide +kernel)) <|
  nv_oc (n_getfield (idx := 253) (ci := 3) (k := 0) (N := 3) (D := RX3) (T := TX3) (by decide +kernel) rfl i_X3 (by decide) (by decide) f_X5_253) <|
  nv_oc (n_iload_n (k := 3) (by decide +kernel)) <|
  nv_oc (n_iload (k := 5) (by decide +kernel)) <|
  nv_oc (n_iadd (by decide +kernel)) <|
  nv_oc (n_laload (by decide +kernel)) <|
  nv_oc (n_aload_n (k := 0) (by decide +kernel)) <|
  nv_oc (n_getfield (idx := 29) (ci := 5) (k := 5) (N := 10) (D := RX5) (T := TX5) (by decide +kernel) rfl i_X5 (by decide) (by decide) f_X5_29) <|
  nv_oc (n_getfield (idx := 81) (ci := 0) (k := 6) (N := 11) (D := RX0) (T := TX0) (by decide +kernel) rfl i_X0 (by decide) (by decide) f_X5_81) <|
  nv_oc (n_iload_n (k := 1) (by decide +kernel)) <|
  nv_oc (n_iaload (by decide +kernel)) <|
  nv_oc (n_i2l (by decide +kernel)) <|
  nv_oc (n_lcmp (by decide +kernel)) <|
  nv_oc (n_if_eq (off := 5) (tgt := 43) (by decide +kernel) (by decide)) <|
  nv_oc (n_iconst (z := 0) (by decide +kernel)) <|
  nv_oc (n_zret (by decide +kernel) rfl) <|
  nv_oc (n_iinc (k := 5) (d := 1) (by decide +kernel) (by decide)) <|
  nv_oc (n_goto (off := -43) (tgt := 3) (by decide +kernel) (by decide)) <|
  nv_oc (n_iconst (z := 1) (by decide +kernel)) <|
  nv_oc (n_zret (by decide +kernel) rfl) <|
  nv_on
def M_X5_dust : nv_MD := (RX5, yX5_dust, cX5_dust, 12, (some .int), 4, 97)
theorem fn_X5_dust : nv_fn M_X5_dust 7 := ⟨List.mem_of_getElem? (i := 690) (by decide +kernel), List.mem_of_getElem? (i := 44) (by decide +kernel), by decide +kernel⟩
theorem fv_X5_dust : nv_fnV M_X5_dust := ⟨List.mem_of_getElem? (i := 688) (by decide +kernel), List.mem_of_getElem? (i := 689) (by decide +kernel)⟩
def P_X5_dust : nv_Pg := [(0, s_al 0 1), (1, s_il 1 2), (2, s_cv 5 M_X5_noPlank 1 5), (5, s_if c_eq 8 52), (8, s_al 0 9), (9, s_il 2 10), (10, s_cv 5 M_X5_noSawyer 1 13), (13, s_if c_eq 16 52), (16, s_il 3 17), (17, s_cs M_X5_noSheet 1 20), (20, s_if c_eq 23 52), (23, s_il 4 25), (25, s_cs M_X5_noLane 1 28), (28, s_if c_eq 31 52), (31, s_il 6 33), (33, s_ki (1) 34), (34, s_ki (8) 36), (36, s_cs M_X5_outside 3 39), (39, s_if c_eq 42 52), (42, s_il 7 44), (44, s_ki (0) 45), (45, s_ki (2) 46), (46, s_cs M_X5_outside 3 49), (49, s_if c_eq 54 52), (52, s_ki (-1) 53), (53, s_ir), (54, s_al 0 55), (55, s_gf 5 9 58), (58, s_il 3 59), (59, s_a4 60), (60, s_il 4 62), (62, s_il 5 64), (64, s_il 6 66), (66, s_cv 3 M_X3_refusal 3 69), (69, s_is 8 71), (71, s_il 8 73), (73, s_if c_eq 79 76), (76, s_il 8 78), (78, s_ir), (79, s_il 7 81), (81, s_if c_eq 84 88), (84, s_ki (5) 85), (85, s_go 106), (88, s_il 7 90), (90, s_ki (1) 91), (91, s_ic c_eq 94 99), (94, s_ki (10) 96), (96, s_go 106), (99, s_al 0 100), (100, s_gf 5 0 103), (103, s_gf 0 0 106), (106, s_is 9 108), (108, s_ki (0) 109), (109, s_is 10 111), (111, s_ki (0) 112), (112, s_is 11 114), (114, s_il 11 116), (116, s_il 9 118), (118, s_ic c_ge 177 121), (121, s_al 0 122), (122, s_gf 5 5 125), (125, s_al 0 126), (126, s_gf 5 0 129), (129, s_cv 0 M_X0_takeAll 1 132), (132, s_al 0 133), (133, s_gf 5 5 136), (136, s_il 2 137), (137, s_il 7 139), (139, s_il 11 141), (141, s_cv 0 M_X0_suppose 3 144), (144, s_al 0 145), (145, s_il 1 146), (146, s_al 0 147), (147, s_gf 5 9 150), (150, s_il 3 151), (151, s_a4 152), (152, s_il 5 154), (154, s_il 6 156), (156, s_cv 5 M_X5_trialShows 4 159), (159, s_if c_eq 171 162), (162, s_il 10 164), (164, s_ki (1) 165), (165, s_il 11 167), (167, s_sl 168), (168, s_b nv_or 169), (169, s_is 10 171), (171, s_inc 11 (1) 174), (174, s_go 114), (177, s_il 10 179), (179, s_ir)]
set_option maxRecDepth 100000 in
set_option maxHeartbeats 4000000 in
theorem ok_X5_dust : nv_ok_P M_X5_dust P_X5_dust :=
  nv_oc (n_aload_n (k := 0) (by decide +kernel)) <|
  nv_oc (n_iload_n (k := 1) (by decide +kernel)) <|
  nv_oc (n_virtual (M' := M_X5_noPlank) (idx := 70) (n := 1) (ci := 5) (N := 10) (D := RX5) (T := TX5) (by decide +kernel) fn_X5_noPlank fv_X5_noPlank rfl rfl l_X5_70 ⟨by decide, by decide⟩) <|
  nv_oc (n_if_ne (off := 47) (tgt := 52) (by decide +kernel) (by decide)) <|
  nv_oc (n_aload_n (k := 0) (by decide +kernel)) <|
  nv_oc (n_iload_n (k := 2) (by decide +kernel)) <|
  nv_oc (n_virtual (M' := M_X5_noSawyer) (idx := 91) (n := 1) (ci := 5) (N := 10) (D := RX5) (T := TX5) (by decide +kernel) fn_X5_noSawyer fv_X5_noSawyer rfl rfl l_X5_91 ⟨by decide, by decide⟩) <|
  nv_oc (n_if_ne (off := 39) (tgt := 52) (by decide +kernel) (by decide)) <|
  nv_oc (n_iload_n (k := 3) (by decide +kernel)) <|
  nv_oc (n_static (M' := M_X5_noSheet) (idx := 216) (n := 1) (by decide +kernel) fn_X5_noSheet st_X5_noSheet l_X5_216 ⟨by decide, by decide⟩) <|
  nv_oc (n_if_ne (off := 32) (tgt := 52) (by decide +kernel) (by decide)) <|
  nv_oc (n_iload (k := 4) (by decide +kernel)) <|
  nv_oc (n_static (M' := M_X5_noLane) (idx := 219) (n := 1) (by decide +kernel) fn_X5_noLane st_X5_noLane l_X5_219 ⟨by decide, by decide⟩) <|
  nv_oc (n_if_ne (off := 24) (tgt := 52) (by decide +kernel) (by decide)) <|
  nv_oc (n_iload (k := 6) (by decide +kernel)) <|
  nv_oc (n_iconst (z := 1) (by decide +kernel)) <|
  nv_oc (n_bipush (z := 8) (by decide +kernel) (by decide)) <|
  nv_oc (n_static (M' := M_X5_outside) (idx := 56) (n := 3) (by decide +kernel) fn_X5_outside st_X5_outside l_X5_56 ⟨by decide, by decide⟩) <|
  nv_oc (n_if_ne (off := 13) (tgt := 52) (by decide +kernel) (by decide)) <|
  nv_oc (n_iload (k := 7) (by decide +kernel)) <|
  nv_oc (n_iconst (z := 0) (by decide +kernel)) <|
  nv_oc (n_iconst (z := 2) (by decide +kernel)) <|
  nv_oc (n_static (M' := M_X5_outside) (idx := 56) (n := 3) (by decide +kernel) fn_X5_outside st_X5_outside l_X5_56 ⟨by decide, by decide⟩) <|
  nv_oc (n_if_eq (off := 5) (tgt := 54) (by decide +kernel) (by decide)) <|
  nv_oc (n_iconst (z := -1) (by decide +kernel)) <|
  nv_oc (n_iret (by decide +kernel) rfl) <|
  nv_oc (n_aload_n (k := 0) (by decide +kernel)) <|
  nv_oc (n_getfield (idx := 51) (ci := 5) (k := 9) (N := 10) (D := RX5) (T := TX5) (by decide +kernel) rfl i_X5 (by decide) (by decide) f_X5_51) <|
  nv_oc (n_iload_n (k := 3) (by decide +kernel)) <|
  nv_oc (n_aaload4 (by decide +kernel)) <|
  nv_oc (n_iload (k := 4) (by decide +kernel)) <|
  nv_oc (n_iload (k := 5) (by decide +kernel)) <|
  nv_oc (n_iload (k := 6) (by decide +kernel)) <|
  nv_oc (n_virtual (M' := M_X3_refusal) (idx := 222) (n := 3) (ci := 3) (N := 3) (D := RX3) (T := TX3) (by decide +kernel) fn_X3_refusal fv_X3_refusal rfl rfl l_X5_222 ⟨by decide, by decide⟩) <|
  nv_oc (n_istore (k := 8) (by decide +kernel) (by decide)) <|
  nv_oc (n_iload (k := 8) (by decide +kernel)) <|
  nv_oc (n_if_eq (off := 6) (tgt := 79) (by decide +kernel) (by decide)) <|
  nv_oc (n_iload (k := 8) (by decide +kernel)) <|
  nv_oc (n_iret (by decide +kernel) rfl) <|
  nv_oc (n_iload (k := 7) (by decide +kernel)) <|
  nv_oc (n_if_ne (off := 7) (tgt := 88) (by decide +kernel) (by decide)) <|
  nv_oc (n_iconst (z := 5) (by decide +kernel)) <|
  nv_oc (n_goto (off := 21) (tgt := 106) (by decide +kernel) (by decide)) <|
  nv_oc (n_iload (k := 7) (by decide +kernel)) <|
  nv_oc (n_iconst (z := 1) (by decide +kernel)) <|
  nv_oc (n_icmp_ne (off := 8) (tgt := 99) (by decide +kernel) (by decide)) <|
  nv_oc (n_bipush (z := 10) (by decide +kernel) (by decide)) <|
  nv_oc (n_goto (off := 10) (tgt := 106) (by decide +kernel) (by decide)) <|
  nv_oc (n_aload_n (k := 0) (by decide +kernel)) <|
  nv_oc (n_getfield (idx := 12) (ci := 5) (k := 0) (N := 10) (D := RX5) (T := TX5) (by decide +kernel) rfl i_X5 (by decide) (by decide) f_X5_12) <|
  nv_oc (n_getfield (idx := 125) (ci := 0) (k := 0) (N := 11) (D := RX0) (T := TX0) (by decide +kernel) rfl i_X0 (by decide) (by decide) f_X5_125) <|
  nv_oc (n_istore (k := 9) (by decide +kernel) (by decide)) <|
  nv_oc (n_iconst (z := 0) (by decide +kernel)) <|
  nv_oc (n_istore (k := 10) (by decide +kernel) (by decide)) <|
  nv_oc (n_iconst (z := 0) (by decide +kernel)) <|
  nv_oc (n_istore (k := 11) (by decide +kernel) (by decide)) <|
  nv_oc (n_iload (k := 11) (by decide +kernel)) <|
  nv_oc (n_iload (k := 9) (by decide +kernel)) <|
  nv_oc (n_icmp_ge (off := 59) (tgt := 177) (by decide +kernel) (by decide)) <|
  nv_oc (n_aload_n (k := 0) (by decide +kernel)) <|
  nv_oc (n_getfield (idx := 29) (ci := 5) (k := 5) (N := 10) (D := RX5) (T := TX5) (by decide +kernel) rfl i_X5 (by decide) (by decide) f_X5_29) <|
  nv_oc (n_aload_n (k := 0) (by decide +kernel)) <|
  nv_oc (n_getfield (idx := 12) (ci := 5) (k := 0) (N := 10) (D := RX5) (T := TX5) (by decide +kernel) rfl i_X5 (by decide) (by decide) f_X5_12) <|
  nv_oc (n_virtual (M' := M_X0_takeAll) (idx := 121) (n := 1) (ci := 0) (N := 11) (D := RX0) (T := TX0) (by decide +kernel) fn_X0_takeAll fv_X0_takeAll rfl rfl l_X5_121 ⟨by decide, by decide⟩) <|
  nv_oc (n_aload_n (k := 0) (by decide +kernel)) <|
  nv_oc (n_getfield (idx := 29) (ci := 5) (k := 5) (N := 10) (D := RX5) (T := TX5) (by decide +kernel) rfl i_X5 (by decide) (by decide) f_X5_29) <|
  nv_oc (n_iload_n (k := 2) (by decide +kernel)) <|
  nv_oc (n_iload (k := 7) (by decide +kernel)) <|
  nv_oc (n_iload (k := 11) (by decide +kernel)) <|
  nv_oc (n_virtual (M' := M_X0_suppose) (idx := 225) (n := 3) (ci := 0) (N := 11) (D := RX0) (T := TX0) (by decide +kernel) fn_X0_suppose fv_X0_suppose rfl rfl l_X5_225 ⟨by decide, by decide⟩) <|
  nv_oc (n_aload_n (k := 0) (by decide +kernel)) <|
  nv_oc (n_iload_n (k := 1) (by decide +kernel)) <|
  nv_oc (n_aload_n (k := 0) (by decide +kernel)) <|
  nv_oc (n_getfield (idx := 51) (ci := 5) (k := 9) (N := 10) (D := RX5) (T := TX5) (by decide +kernel) rfl i_X5 (by decide) (by decide) f_X5_51) <|
  nv_oc (n_iload_n (k := 3) (by decide +kernel)) <|
  nv_oc (n_aaload4 (by decide +kernel)) <|
  nv_oc (n_iload (k := 5) (by decide +kernel)) <|
  nv_oc (n_iload (k := 6) (by decide +kernel)) <|
  nv_oc (n_virtual (M' := M_X5_trialShows) (idx := 229) (n := 4) (ci := 5) (N := 10) (D := RX5) (T := TX5) (by decide +kernel) fn_X5_trialShows fv_X5_trialShows rfl rfl l_X5_229 ⟨by decide, by decide⟩) <|
  nv_oc (n_if_eq (off := 12) (tgt := 171) (by decide +kernel) (by decide)) <|
  nv_oc (n_iload (k := 10) (by decide +kernel)) <|
  nv_oc (n_iconst (z := 1) (by decide +kernel)) <|
  nv_oc (n_iload (k := 11) (by decide +kernel)) <|
  nv_oc (n_ishl (by decide +kernel)) <|
  nv_oc (n_ior (by decide +kernel)) <|
  nv_oc (n_istore (k := 10) (by decide +kernel) (by decide)) <|
  nv_oc (n_iinc (k := 11) (d := 1) (by decide +kernel) (by decide)) <|
  nv_oc (n_goto (off := -60) (tgt := 114) (by decide +kernel) (by decide)) <|
  nv_oc (n_iload (k := 10) (by decide +kernel)) <|
  nv_oc (n_iret (by decide +kernel) rfl) <|
  nv_on
def M_X5_film : nv_MD := (RX5, yX5_film, cX5_film, 8, (some .int), 3, 82)
theorem fn_X5_film : nv_fn M_X5_film 5 := ⟨List.mem_of_getElem? (i := 720) (by decide +kernel), List.mem_of_getElem? (i := 44) (by decide +kernel), by decide +kernel⟩
theorem fv_X5_film : nv_fnV M_X5_film := ⟨List.mem_of_getElem? (i := 718) (by decide +kernel), List.mem_of_getElem? (i := 719) (by decide +kernel)⟩
def P_X5_film : nv_Pg := [(0, s_al 0 1), (1, s_il 1 2), (2, s_cv 5 M_X5_noPlank 1 5), (5, s_if c_eq 8 33), (8, s_il 2 9), (9, s_ki (1) 10), (10, s_ki (24) 12), (12, s_cs M_X5_outside 3 15), (15, s_if c_eq 18 33), (18, s_il 3 19), (19, s_cs M_X5_noSheet 1 22), (22, s_if c_eq 25 33), (25, s_il 4 27), (27, s_cs M_X5_noLane 1 30), (30, s_if c_eq 35 33), (33, s_ki (-1) 34), (34, s_ir), (35, s_al 0 36), (36, s_gf 5 9 39), (39, s_il 3 40), (40, s_a4 41), (41, s_il 4 43), (43, s_il 5 45), (45, s_il 2 46), (46, s_cv 3 M_X3_refusal 3 49), (49, s_is 6 51), (51, s_il 6 53), (53, s_if c_eq 59 56), (56, s_il 6 58), (58, s_ir), (59, s_al 0 60), (60, s_gf 5 5 63), (63, s_al 0 64), (64, s_gf 5 0 67), (67, s_cv 0 M_X0_takeAll 1 70), (70, s_ki (0) 71), (71, s_is 7 73), (73, s_il 7 75), (75, s_il 2 76), (76, s_ic c_ge 117 79), (79, s_al 0 80), (80, s_gf 5 5 83), (83, s_cv 0 M_X0_passHour 0 86), (86, s_pop 87), (87, s_al 0 88), (88, s_gf 5 9 91), (91, s_il 3 92), (92, s_a4 93), (93, s_il 5 95), (95, s_il 7 97), (97, s_add 98), (98, s_al 0 99), (99, s_gf 5 5 102), (102, s_gf 0 6 105), (105, s_il 1 106), (106, s_ia 107), (107, s_i2l 108), (108, s_cv 3 M_X3_put 2 111), (111, s_inc 7 (1) 114), (114, s_go 73), (117, s_il 2 118), (118, s_ir)]
set_option maxRecDepth 100000 in
set_option maxHeartbeats 4000000 in
theorem ok_X5_film : nv_ok_P M_X5_film P_X5_film :=
  nv_oc (n_aload_n (k := 0) (by decide +kernel)) <|
  nv_oc (n_iload_n (k := 1) (by decide +kernel)) <|
  nv_oc (n_virtual (M' := M_X5_noPlank) (idx := 70) (n := 1) (ci := 5) (N := 10) (D := RX5) (T := TX5) (by decide +kernel) fn_X5_noPlank fv_X5_noPlank rfl rfl l_X5_70 ⟨by decide, by decide⟩) <|
  nv_oc (n_if_ne (off := 28) (tgt := 33) (by decide +kernel) (by decide)) <|
  nv_oc (n_iload_n (k := 2) (by decide +kernel)) <|
  nv_oc (n_iconst (z := 1) (by decide +kernel)) <|
  nv_oc (n_bipush (z := 24) (by decide +kernel) (by decide)) <|
  nv_oc (n_static (M' := M_X5_outside) (idx := 56) (n := 3) (by decide +kernel) fn_X5_outside st_X5_outside l_X5_56 ⟨by decide, by decide⟩) <|
  nv_oc (n_if_ne (off := 18) (tgt := 33) (by decide +kernel) (by decide)) <|
  nv_oc (n_iload_n (k := 3) (by decide +kernel)) <|
  nv_oc (n_static (M' := M_X5_noSheet) (idx := 216) (n := 1) (by decide +kernel) fn_X5_noSheet st_X5_noSheet l_X5_216 ⟨by decide, by decide⟩) <|
  nv_oc (n_if_ne (off := 11) (tgt := 33) (by decide +kernel) (by decide)) <|
  nv_oc (n_iload (k := 4) (by decide +kernel)) <|
  nv_oc (n_static (M' := M_X5_noLane) (idx := 219) (n := 1) (by decide +kernel) fn_X5_noLane st_X5_noLane l_X5_219 ⟨by decide, by decide⟩) <|
  nv_oc (n_if_eq (off := 5) (tgt := 35) (by decide +kernel) (by decide)) <|
  nv_oc (n_iconst (z := -1) (by decide +kernel)) <|
  nv_oc (n_iret (by decide +kernel) rfl) <|
  nv_oc (n_aload_n (k := 0) (by decide +kernel)) <|
  nv_oc (n_getfield (idx := 51) (ci := 5) (k := 9) (N := 10) (D := RX5) (T := TX5) (by decide +kernel) rfl i_X5 (by decide) (by decide) f_X5_51) <|
  nv_oc (n_iload_n (k := 3) (by decide +kernel)) <|
  nv_oc (n_aaload4 (by decide +kernel)) <|
  nv_oc (n_iload (k := 4) (by decide +kernel)) <|
  nv_oc (n_iload (k := 5) (by decide +kernel)) <|
  nv_oc (n_iload_n (k := 2) (by decide +kernel)) <|
  nv_oc (n_virtual (M' := M_X3_refusal) (idx := 222) (n := 3) (ci := 3) (N := 3) (D := RX3) (T := TX3) (by decide +kernel) fn_X3_refusal fv_X3_refusal rfl rfl l_X5_222 ⟨by decide, by decide⟩) <|
  nv_oc (n_istore (k := 6) (by decide +kernel) (by decide)) <|
  nv_oc (n_iload (k := 6) (by decide +kernel)) <|
  nv_oc (n_if_eq (off := 6) (tgt := 59) (by decide +kernel) (by decide)) <|
  nv_oc (n_iload (k := 6) (by decide +kernel)) <|
  nv_oc (n_iret (by decide +kernel) rfl) <|
  nv_oc (n_aload_n (k := 0) (by decide +kernel)) <|
  nv_oc (n_getfield (idx := 29) (ci := 5) (k := 5) (N := 10) (D := RX5) (T := TX5) (by decide +kernel) rfl i_X5 (by decide) (by decide) f_X5_29) <|
  nv_oc (n_aload_n (k := 0) (by decide +kernel)) <|
  nv_oc (n_getfield (idx := 12) (ci := 5) (k := 0) (N := 10) (D := RX5) (T := TX5) (by decide +kernel) rfl i_X5 (by decide) (by decide) f_X5_12) <|
  nv_oc (n_virtual (M' := M_X0_takeAll) (idx := 121) (n := 1) (ci := 0) (N := 11) (D := RX0) (T := TX0) (by decide +kernel) fn_X0_takeAll fv_X0_takeAll rfl rfl l_X5_121 ⟨by decide, by decide⟩) <|
  nv_oc (n_iconst (z := 0) (by decide +kernel)) <|
  nv_oc (n_istore (k := 7) (by decide +kernel) (by decide)) <|
  nv_oc (n_iload (k := 7) (by decide +kernel)) <|
  nv_oc (n_iload_n (k := 2) (by decide +kernel)) <|
  nv_oc (n_icmp_ge (off := 41) (tgt := 117) (by decide +kernel) (by decide)) <|
  nv_oc (n_aload_n (k := 0) (by decide +kernel)) <|
  nv_oc (n_getfield (idx := 29) (ci := 5) (k := 5) (N := 10) (D := RX5) (T := TX5) (by decide +kernel) rfl i_X5 (by decide) (by decide) f_X5_29) <|
  nv_oc (n_virtual (M' := M_X0_passHour) (idx := 150) (n := 0) (ci := 0) (N := 11) (D := RX0) (T := TX0) (by decide +kernel) fn_X0_passHour fv_X0_passHour rfl rfl l_X5_150 ⟨by decide, by decide⟩) <|
  nv_oc (n_pop (by decide +kernel)) <|
  nv_oc (n_aload_n (k := 0) (by decide +kernel)) <|
  nv_oc (n_getfield (idx := 51) (ci := 5) (k := 9) (N := 10) (D := RX5) (T := TX5) (by decide +kernel) rfl i_X5 (by decide) (by decide) f_X5_51) <|
  nv_oc (n_iload_n (k := 3) (by decide +kernel)) <|
  nv_oc (n_aaload4 (by decide +kernel)) <|
  nv_oc (n_iload (k := 5) (by decide +kernel)) <|
  nv_oc (n_iload (k := 7) (by decide +kernel)) <|
  nv_oc (n_iadd (by decide +kernel)) <|
  nv_oc (n_aload_n (k := 0) (by decide +kernel)) <|
  nv_oc (n_getfield (idx := 29) (ci := 5) (k := 5) (N := 10) (D := RX5) (T := TX5) (by decide +kernel) rfl i_X5 (by decide) (by decide) f_X5_29) <|
  nv_oc (n_getfield (idx := 81) (ci := 0) (k := 6) (N := 11) (D := RX0) (T := TX0) (by decide +kernel) rfl i_X0 (by decide) (by decide) f_X5_81) <|
  nv_oc (n_iload_n (k := 1) (by decide +kernel)) <|
  nv_oc (n_iaload (by decide +kernel)) <|
  nv_oc (n_i2l (by decide +kernel)) <|
  nv_oc (n_virtual (M' := M_X3_put) (idx := 233) (n := 2) (ci := 3) (N := 3) (D := RX3) (T := TX3) (by decide +kernel) fn_X3_put fv_X3_put rfl rfl l_X5_233 ⟨by decide, by decide⟩) <|
  nv_oc (n_iinc (k := 7) (d := 1) (by decide +kernel) (by decide)) <|
  nv_oc (n_goto (off := -41) (tgt := 73) (by decide +kernel) (by decide)) <|
  nv_oc (n_iload_n (k := 2) (by decide +kernel)) <|
  nv_oc (n_iret (by decide +kernel) rfl) <|
  nv_on
def M_X5_sheet : nv_MD := (RX5, yX5_sheet, cX5_sheet, 4, (some .int), 2, 42)
theorem fn_X5_sheet : nv_fn M_X5_sheet 3 := ⟨List.mem_of_getElem? (i := 728) (by decide +kernel), List.mem_of_getElem? (i := 44) (by decide +kernel), by decide +kernel⟩
theorem fv_X5_sheet : nv_fnV M_X5_sheet := ⟨List.mem_of_getElem? (i := 726) (by decide +kernel), List.mem_of_getElem? (i := 727) (by decide +kernel)⟩
def P_X5_sheet : nv_Pg := [(0, s_il 1 1), (1, s_cs M_X5_noSheet 1 4), (4, s_if c_eq 7 20), (7, s_il 2 8), (8, s_cs M_X5_noLane 1 11), (11, s_if c_eq 14 20), (14, s_il 3 15), (15, s_ki (24) 17), (17, s_ic c_le 22 20), (20, s_ki (-1) 21), (21, s_ir), (22, s_il 3 23), (23, s_if c_ge 29 26), (26, s_ki (-14) 28), (28, s_ir), (29, s_al 0 30), (30, s_gf 5 9 33), (33, s_il 1 34), (34, s_a4 35), (35, s_il 2 36), (36, s_il 3 37), (37, s_cv 3 M_X3_begin 2 40), (40, s_il 3 41), (41, s_ir)]
set_option maxRecDepth 100000 in
set_option maxHeartbeats 4000000 in
theorem ok_X5_sheet : nv_ok_P M_X5_sheet P_X5_sheet :=
  nv_oc (n_iload_n (k := 1) (by decide +kernel)) <|
  nv_oc (n_static (M' := M_X5_noSheet) (idx := 216) (n := 1) (by decide +kernel) fn_X5_noSheet st_X5_noSheet l_X5_216 ⟨by decide, by decide⟩) <|
  nv_oc (n_if_ne (off := 16) (tgt := 20) (by decide +kernel) (by decide)) <|
  nv_oc (n_iload_n (k := 2) (by decide +kernel)) <|
  nv_oc (n_static (M' := M_X5_noLane) (idx := 219) (n := 1) (by decide +kernel) fn_X5_noLane st_X5_noLane l_X5_219 ⟨by decide, by decide⟩) <|
  nv_oc (n_if_ne (off := 9) (tgt := 20) (by decide +kernel) (by decide)) <|
  nv_oc (n_iload_n (k := 3) (by decide +kernel)) <|
  nv_oc (n_bipush (z := 24) (by decide +kernel) (by decide)) <|
  nv_oc (n_icmp_le (off := 5) (tgt := 22) (by decide +kernel) (by decide)) <|
  nv_oc (n_iconst (z := -1) (by decide +kernel)) <|
  nv_oc (n_iret (by decide +kernel) rfl) <|
  nv_oc (n_iload_n (k := 3) (by decide +kernel)) <|
  nv_oc (n_if_ge (off := 6) (tgt := 29) (by decide +kernel) (by decide)) <|
  nv_oc (n_bipush (z := -14) (by decide +kernel) (by decide)) <|
  nv_oc (n_iret (by decide +kernel) rfl) <|
  nv_oc (n_aload_n (k := 0) (by decide +kernel)) <|
  nv_oc (n_getfield (idx := 51) (ci := 5) (k := 9) (N := 10) (D := RX5) (T := TX5) (by decide +kernel) rfl i_X5 (by decide) (by decide) f_X5_51) <|
  nv_oc (n_iload_n (k := 1) (by decide +kernel)) <|
  nv_oc (n_aaload4 (by decide +kernel)) <|
  nv_oc (n_iload_n (k := 2) (by decide +kernel)) <|
  nv_oc (n_iload_n (k := 3) (by decide +kernel)) <|
  nv_oc (n_virtual (M' := M_X3_begin) (idx := 237) (n := 2) (ci := 3) (N := 3) (D := RX3) (T := TX3) (by decide +kernel) fn_X3_begin fv_X3_begin rfl rfl l_X5_237 ⟨by decide, by decide⟩) <|
  nv_oc (n_iload_n (k := 3) (by decide +kernel)) <|
  nv_oc (n_iret (by decide +kernel) rfl) <|
  nv_on
def M_X5_drop : nv_MD := (RX5, yX5_drop, cX5_drop, 2, (some .int), 2, 42)
theorem fn_X5_drop : nv_fn M_X5_drop 1 := ⟨List.mem_of_getElem? (i := 736) (by decide +kernel), List.mem_of_getElem? (i := 44) (by decide +kernel), by decide +kernel⟩
theorem fv_X5_drop : nv_fnV M_X5_drop := ⟨List.mem_of_getElem? (i := 734) (by decide +kernel), List.mem_of_getElem? (i := 735) (by decide +kernel)⟩
def P_X5_drop : nv_Pg := [(0, s_il 1 1), (1, s_cs M_X5_noSheet 1 4), (4, s_if c_eq 9 7), (7, s_ki (-1) 8), (8, s_ir), (9, s_al 0 10), (10, s_gf 5 9 13), (13, s_il 1 14), (14, s_a4 15), (15, s_cv 3 M_X3_clear 0 18), (18, s_ir)]
set_option maxRecDepth 100000 in
set_option maxHeartbeats 4000000 in
theorem ok_X5_drop : nv_ok_P M_X5_drop P_X5_drop :=
  nv_oc (n_iload_n (k := 1) (by decide +kernel)) <|
  nv_oc (n_static (M' := M_X5_noSheet) (idx := 216) (n := 1) (by decide +kernel) fn_X5_noSheet st_X5_noSheet l_X5_216 ⟨by decide, by decide⟩) <|
  nv_oc (n_if_eq (off := 5) (tgt := 9) (by decide +kernel) (by decide)) <|
  nv_oc (n_iconst (z := -1) (by decide +kernel)) <|
  nv_oc (n_iret (by decide +kernel) rfl) <|
  nv_oc (n_aload_n (k := 0) (by decide +kernel)) <|
  nv_oc (n_getfield (idx := 51) (ci := 5) (k := 9) (N := 10) (D := RX5) (T := TX5) (by decide +kernel) rfl i_X5 (by decide) (by decide) f_X5_51) <|
  nv_oc (n_iload_n (k := 1) (by decide +kernel)) <|
  nv_oc (n_aaload4 (by decide +kernel)) <|
  nv_oc (n_virtual (M' := M_X3_clear) (idx := 240) (n := 0) (ci := 3) (N := 3) (D := RX3) (T := TX3) (by decide +kernel) fn_X3_clear fv_X3_clear rfl rfl l_X5_240 ⟨by decide, by decide⟩) <|
  nv_oc (n_iret (by decide +kernel) rfl) <|
  nv_on
def M_X5_item : nv_MD := (RX5, yX5_item, cX5_item, 7, (some .int), 2, 45)
theorem fn_X5_item : nv_fn M_X5_item 4 := ⟨List.mem_of_getElem? (i := 744) (by decide +kernel), List.mem_of_getElem? (i := 44) (by decide +kernel), by decide +kernel⟩
theorem fv_X5_item : nv_fnV M_X5_item := ⟨List.mem_of_getElem? (i := 742) (by decide +kernel), List.mem_of_getElem? (i := 743) (by decide +kernel)⟩
def P_X5_item : nv_Pg := [(0, s_il 1 1), (1, s_cs M_X5_noSheet 1 4), (4, s_if c_eq 7 14), (7, s_il 2 8), (8, s_cs M_X5_noLane 1 11), (11, s_if c_eq 16 14), (14, s_ki (-1) 15), (15, s_ir), (16, s_al 0 17), (17, s_gf 5 9 20), (20, s_il 1 21), (21, s_a4 22), (22, s_il 2 23), (23, s_il 3 24), (24, s_ki (1) 25), (25, s_cv 3 M_X3_refusal 3 28), (28, s_is 6 30), (30, s_il 6 32), (32, s_if c_eq 38 35), (35, s_il 6 37), (37, s_ir), (38, s_al 0 39), (39, s_gf 5 9 42), (42, s_il 1 43), (43, s_a4 44), (44, s_il 3 45), (45, s_ll 4 47), (47, s_cv 3 M_X3_put 2 50), (50, s_ki (1) 51), (51, s_ir)]
set_option maxRecDepth 100000 in
set_option maxHeartbeats 4000000 in
theorem ok_X5_item : nv_ok_P M_X5_item P_X5_item :=
  nv_oc (n_iload_n (k := 1) (by decide +kernel)) <|
  nv_oc (n_static (M' := M_X5_noSheet) (idx := 216) (n := 1) (by decide +kernel) fn_X5_noSheet st_X5_noSheet l_X5_216 ⟨by decide, by decide⟩) <|
  nv_oc (n_if_ne (off := 10) (tgt := 14) (by decide +kernel) (by decide)) <|
  nv_oc (n_iload_n (k := 2) (by decide +kernel)) <|
  nv_oc (n_static (M' := M_X5_noLane) (idx := 219) (n := 1) (by decide +kernel) fn_X5_noLane st_X5_noLane l_X5_219 ⟨by decide, by decide⟩) <|
  nv_oc (n_if_eq (off := 5) (tgt := 16) (by decide +kernel) (by decide)) <|
  nv_oc (n_iconst (z := -1) (by decide +kernel)) <|
  nv_oc (n_iret (by decide +kernel) rfl) <|
  nv_oc (n_aload_n (k := 0) (by decide +kernel)) <|
  nv_oc (n_getfield (idx := 51) (ci := 5) (k := 9) (N := 10) (D := RX5) (T := TX5) (by decide +kernel) rfl i_X5 (by decide) (by decide) f_X5_51) <|
  nv_oc (n_iload_n (k := 1) (by decide +kernel)) <|
  nv_oc (n_aaload4 (by decide +kernel)) <|
  nv_oc (n_iload_n (k := 2) (by decide +kernel)) <|
  nv_oc (n_iload_n (k := 3) (by decide +kernel)) <|
  nv_oc (n_iconst (z := 1) (by decide +kernel)) <|
  nv_oc (n_virtual (M' := M_X3_refusal) (idx := 222) (n := 3) (ci := 3) (N := 3) (D := RX3) (T := TX3) (by decide +kernel) fn_X3_refusal fv_X3_refusal rfl rfl l_X5_222 ⟨by decide, by decide⟩) <|
  nv_oc (n_istore (k := 6) (by decide +kernel) (by decide)) <|
  nv_oc (n_iload (k := 6) (by decide +kernel)) <|
  nv_oc (n_if_eq (off := 6) (tgt := 38) (by decide +kernel) (by decide)) <|
  nv_oc (n_iload (k := 6) (by decide +kernel)) <|
  nv_oc (n_iret (by decide +kernel) rfl) <|
  nv_oc (n_aload_n (k := 0) (by decide +kernel)) <|
  nv_oc (n_getfield (idx := 51) (ci := 5) (k := 9) (N := 10) (D := RX5) (T := TX5) (by decide +kernel) rfl i_X5 (by decide) (by decide) f_X5_51) <|
  nv_oc (n_iload_n (k := 1) (by decide +kernel)) <|
  nv_oc (n_aaload4 (by decide +kernel)) <|
  nv_oc (n_iload_n (k := 3) (by decide +kernel)) <|
  nv_oc (n_lload (k := 4) (by decide +kernel)) <|
  nv_oc (n_virtual (M' := M_X3_put) (idx := 233) (n := 2) (ci := 3) (N := 3) (D := RX3) (T := TX3) (by decide +kernel) fn_X3_put fv_X3_put rfl rfl l_X5_233 ⟨by decide, by decide⟩) <|
  nv_oc (n_iconst (z := 1) (by decide +kernel)) <|
  nv_oc (n_iret (by decide +kernel) rfl) <|
  nv_on
def M_X5_copy : nv_MD := (RX5, yX5_copy, cX5_copy, 8, (some .int), 2, 42)
theorem fn_X5_copy : nv_fn M_X5_copy 5 := ⟨List.mem_of_getElem? (i := 748) (by decide +kernel), List.mem_of_getElem? (i := 44) (by decide +kernel), by decide +kernel⟩
theorem fv_X5_copy : nv_fnV M_X5_copy := ⟨List.mem_of_getElem? (i := 746) (by decide +kernel), List.mem_of_getElem? (i := 747) (by decide +kernel)⟩
def P_X5_copy : nv_Pg := [(0, s_il 1 1), (1, s_cs M_X5_noSheet 1 4), (4, s_if c_eq 7 14), (7, s_il 3 8), (8, s_cs M_X5_noSheet 1 11), (11, s_if c_eq 16 14), (14, s_ki (-1) 15), (15, s_ir), (16, s_al 0 17), (17, s_gf 5 9 20), (20, s_il 1 21), (21, s_a4 22), (22, s_as 6 24), (24, s_al 0 25), (25, s_gf 5 9 28), (28, s_il 3 29), (29, s_a4 30), (30, s_as 7 32), (32, s_al 6 34), (34, s_cv 3 M_X3_isNothing 0 37), (37, s_if c_eq 40 48), (40, s_al 7 42), (42, s_cv 3 M_X3_isNothing 0 45), (45, s_if c_eq 51 48), (48, s_ki (-11) 50), (50, s_ir), (51, s_al 6 53), (53, s_gf 3 1 56), (56, s_al 7 58), (58, s_gf 3 1 61), (61, s_ic c_eq 67 64), (64, s_ki (-12) 66), (66, s_ir), (67, s_al 6 69), (69, s_il 2 70), (70, s_il 5 72), (72, s_cv 3 M_X3_lacks 2 75), (75, s_if c_eq 78 90), (78, s_al 7 80), (80, s_il 4 82), (82, s_il 5 84), (84, s_cv 3 M_X3_lacks 2 87), (87, s_if c_eq 93 90), (90, s_ki (-13) 92), (92, s_ir), (93, s_al 6 95), (95, s_gf 3 0 98), (98, s_il 2 99), (99, s_al 7 101), (101, s_gf 3 0 104), (104, s_il 4 106), (106, s_il 5 108), (108, s_cpl 111), (111, s_il 5 113), (113, s_ir)]
set_option maxRecDepth 100000 in
set_option maxHeartbeats 4000000 in
theorem ok_X5_copy : nv_ok_P M_X5_copy P_X5_copy :=
  nv_oc (n_iload_n (k := 1) (by decide +kernel)) <|
  nv_oc (n_static (M' := M_X5_noSheet) (idx := 216) (n := 1) (by decide +kernel) fn_X5_noSheet st_X5_noSheet l_X5_216 ⟨by decide, by decide⟩) <|
  nv_oc (n_if_ne (off := 10) (tgt := 14) (by decide +kernel) (by decide)) <|
  nv_oc (n_iload_n (k := 3) (by decide +kernel)) <|
  nv_oc (n_static (M' := M_X5_noSheet) (idx := 216) (n := 1) (by decide +kernel) fn_X5_noSheet st_X5_noSheet l_X5_216 ⟨by decide, by decide⟩) <|
  nv_oc (n_if_eq (off := 5) (tgt := 16) (by decide +kernel) (by decide)) <|
  nv_oc (n_iconst (z := -1) (by decide +kernel)) <|
  nv_oc (n_iret (by decide +kernel) rfl) <|
  nv_oc (n_aload_n (k := 0) (by decide +kernel)) <|
  nv_oc (n_getfield (idx := 51) (ci := 5) (k := 9) (N := 10) (D := RX5) (T := TX5) (by decide +kernel) rfl i_X5 (by decide) (by decide) f_X5_51) <|
  nv_oc (n_iload_n (k := 1) (by decide +kernel)) <|
  nv_oc (n_aaload4 (by decide +kernel)) <|
  nv_oc (n_astore (k := 6) (by decide +kernel) (by decide)) <|
  nv_oc (n_aload_n (k := 0) (by decide +kernel)) <|
  nv_oc (n_getfield (idx := 51) (ci := 5) (k := 9) (N := 10) (D := RX5) (T := TX5) (by decide +kernel) rfl i_X5 (by decide) (by decide) f_X5_51) <|
  nv_oc (n_iload_n (k := 3) (by decide +kernel)) <|
  nv_oc (n_aaload4 (by decide +kernel)) <|
  nv_oc (n_astore (k := 7) (by decide +kernel) (by decide)) <|
  nv_oc (n_aload (k := 6) (by decide +kernel)) <|
  nv_oc (n_virtual (M' := M_X3_isNothing) (idx := 243) (n := 0) (ci := 3) (N := 3) (D := RX3) (T := TX3) (by decide +kernel) fn_X3_isNothing fv_X3_isNothing rfl rfl l_X5_243 ⟨by decide, by decide⟩) <|
  nv_oc (n_if_ne (off := 11) (tgt := 48) (by decide +kernel) (by decide)) <|
  nv_oc (n_aload (k := 7) (by decide +kernel)) <|
  nv_oc (n_virtual (M' := M_X3_isNothing) (idx := 243) (n := 0) (ci := 3) (N := 3) (D := RX3) (T := TX3) (by decide +kernel) fn_X3_isNothing fv_X3_isNothing rfl rfl l_X5_243 ⟨by decide, by decide⟩) <|
  nv_oc (n_if_eq (off := 6) (tgt := 51) (by decide +kernel) (by decide)) <|
  nv_oc (n_bipush (z := -11) (by decide +kernel) (by decide)) <|
  nv_oc (n_iret (by decide +kernel) rfl) <|
  nv_oc (n_aload (k := 6) (by decide +kernel)) <|
  nv_oc (n_getfield (idx := 246) (ci := 3) (k := 1) (N := 3) (D := RX3) (T := TX3) (by decide +kernel) rfl i_X3 (by decide) (by decide) f_X5_246) <|
  nv_oc (n_aload (k := 7) (by decide +kernel)) <|
  nv_oc (n_getfield (idx := 246) (ci := 3) (k := 1) (N := 3) (D := RX3) (T := TX3) (by decide +kernel) rfl i_X3 (by decide) (by decide) f_X5_246) <|
  nv_oc (n_icmp_eq (off := 6) (tgt := 67) (by decide +kernel) (by decide)) <|
  nv_oc (n_bipush (z := -12) (by decide +kernel) (by decide)) <|
  nv_oc (n_iret (by decide +kernel) rfl) <|
  nv_oc (n_aload (k := 6) (by decide +kernel)) <|
  nv_oc (n_iload_n (k := 2) (by decide +kernel)) <|
  nv_oc (n_iload (k := 5) (by decide +kernel)) <|
  nv_oc (n_virtual (M' := M_X3_lacks) (idx := 249) (n := 2) (ci := 3) (N := 3) (D := RX3) (T := TX3) (by decide +kernel) fn_X3_lacks fv_X3_lacks rfl rfl l_X5_249 ⟨by decide, by decide⟩) <|
  nv_oc (n_if_ne (off := 15) (tgt := 90) (by decide +kernel) (by decide)) <|
  nv_oc (n_aload (k := 7) (by decide +kernel)) <|
  nv_oc (n_iload (k := 4) (by decide +kernel)) <|
  nv_oc (n_iload (k := 5) (by decide +kernel)) <|
  nv_oc (n_virtual (M' := M_X3_lacks) (idx := 249) (n := 2) (ci := 3) (N := 3) (D := RX3) (T := TX3) (by decide +kernel) fn_X3_lacks fv_X3_lacks rfl rfl l_X5_249 ⟨by decide, by decide⟩) <|
  nv_oc (n_if_eq (off := 6) (tgt := 93) (by decide +kernel) (by decide)) <|
  nv_oc (n_bipush (z := -13) (by decide +kernel) (by decide)) <|
  nv_oc (n_iret (by decide +kernel) rfl) <|
  nv_oc (n_aload (k := 6) (by decide +kernel)) <|
  nv_oc (n_getfield (idx := 253) (ci := 3) (k := 0) (N := 3) (D := RX3) (T := TX3) (by decide +kernel) rfl i_X3 (by decide) (by decide) f_X5_253) <|
  nv_oc (n_iload_n (k := 2) (by decide +kernel)) <|
  nv_oc (n_aload (k := 7) (by decide +kernel)) <|
  nv_oc (n_getfield (idx := 253) (ci := 3) (k := 0) (N := 3) (D := RX3) (T := TX3) (by decide +kernel) rfl i_X3 (by decide) (by decide) f_X5_253) <|
  nv_oc (n_iload (k := 4) (by decide +kernel)) <|
  nv_oc (n_iload (k := 5) (by decide +kernel)) <|
  nv_oc (n_cpl (idx := 257) (by decide +kernel) l_X5_257 w_nat w_natst w_natin (by decide) (by decide)) <|
  nv_oc (n_iload (k := 5) (by decide +kernel)) <|
  nv_oc (n_iret (by decide +kernel) rfl) <|
  nv_on
end
section
def M_X6_in : nv_MD := (RX6, yX6_in, cX6_in, 3, (some .boolean), 0, 0)
theorem fn_X6_in : nv_fn M_X6_in 3 := ⟨List.mem_of_getElem? (i := 813) (by decide +kernel), List.mem_of_getElem? (i := 50) (by decide +kernel), by decide +kernel⟩
theorem st_X6_in : Cond.static (nv_y M_X6_in) ∈ lw_tbl := List.mem_of_getElem? (i := 812) (by decide +kernel)
def P_X6_in : nv_Pg := [(0, s_il 0 1), (1, s_il 1 2), (2, s_ic c_lt 14 5), (5, s_il 0 6), (6, s_il 2 7), (7, s_ic c_gt 14 10), (10, s_ki (1) 11), (11, s_go 15), (14, s_ki (0) 15), (15, s_zr)]
set_option maxRecDepth 100000 in
set_option maxHeartbeats 4000000 in
theorem ok_X6_in : nv_ok_P M_X6_in P_X6_in :=
  nv_oc (n_iload_n (k := 0) (by decide +kernel)) <|
  nv_oc (n_iload_n (k := 1) (by decide +kernel)) <|
  nv_oc (n_icmp_lt (off := 12) (tgt := 14) (by decide +kernel) (by decide)) <|
  nv_oc (n_iload_n (k := 0) (by decide +kernel)) <|
  nv_oc (n_iload_n (k := 2) (by decide +kernel)) <|
  nv_oc (n_icmp_gt (off := 7) (tgt := 14) (by decide +kernel) (by decide)) <|
  nv_oc (n_iconst (z := 1) (by decide +kernel)) <|
  nv_oc (n_goto (off := 4) (tgt := 15) (by decide +kernel) (by decide)) <|
  nv_oc (n_iconst (z := 0) (by decide +kernel)) <|
  nv_oc (n_zret (by decide +kernel) rfl) <|
  nv_on
def M_X6_has : nv_MD := (RX6, yX6_has, cX6_has, 2, (some .boolean), 0, 0)
theorem fn_X6_has : nv_fn M_X6_has 2 := ⟨List.mem_of_getElem? (i := 920) (by decide +kernel), List.mem_of_getElem? (i := 50) (by decide +kernel), by decide +kernel⟩
theorem st_X6_has : Cond.static (nv_y M_X6_has) ∈ lw_tbl := List.mem_of_getElem? (i := 919) (by decide +kernel)
def P_X6_has : nv_Pg := [(0, s_il 0 1), (1, s_il 1 2), (2, s_sr 3), (3, s_ki (1) 4), (4, s_b nv_and 5), (5, s_ki (1) 6), (6, s_ic c_eq 9 13), (9, s_ki (1) 10), (10, s_go 14), (13, s_ki (0) 14), (14, s_zr)]
set_option maxRecDepth 100000 in
set_option maxHeartbeats 4000000 in
theorem ok_X6_has : nv_ok_P M_X6_has P_X6_has :=
  nv_oc (n_iload_n (k := 0) (by decide +kernel)) <|
  nv_oc (n_iload_n (k := 1) (by decide +kernel)) <|
  nv_oc (n_ishr (by decide +kernel)) <|
  nv_oc (n_iconst (z := 1) (by decide +kernel)) <|
  nv_oc (n_iand (by decide +kernel)) <|
  nv_oc (n_iconst (z := 1) (by decide +kernel)) <|
  nv_oc (n_icmp_ne (off := 7) (tgt := 13) (by decide +kernel) (by decide)) <|
  nv_oc (n_iconst (z := 1) (by decide +kernel)) <|
  nv_oc (n_goto (off := 4) (tgt := 14) (by decide +kernel) (by decide)) <|
  nv_oc (n_iconst (z := 0) (by decide +kernel)) <|
  nv_oc (n_zret (by decide +kernel) rfl) <|
  nv_on
def M_X6_bits : nv_MD := (RX6, yX6_bits, cX6_bits, 3, (some .int), 0, 0)
theorem fn_X6_bits : nv_fn M_X6_bits 1 := ⟨List.mem_of_getElem? (i := 1005) (by decide +kernel), List.mem_of_getElem? (i := 50) (by decide +kernel), by decide +kernel⟩
theorem st_X6_bits : Cond.static (nv_y M_X6_bits) ∈ lw_tbl := List.mem_of_getElem? (i := 1004) (by decide +kernel)
def P_X6_bits : nv_Pg := [(0, s_ki (0) 1), (1, s_is 1 2), (2, s_ki (0) 3), (3, s_is 2 4), (4, s_il 2 5), (5, s_ki (5) 6), (6, s_ic c_ge 23 9), (9, s_il 1 10), (10, s_il 0 11), (11, s_il 2 12), (12, s_sr 13), (13, s_ki (1) 14), (14, s_b nv_and 15), (15, s_add 16), (16, s_is 1 17), (17, s_inc 2 (1) 20), (20, s_go 4), (23, s_il 1 24), (24, s_ir)]
set_option maxRecDepth 100000 in
set_option maxHeartbeats 4000000 in
theorem ok_X6_bits : nv_ok_P M_X6_bits P_X6_bits :=
  nv_oc (n_iconst (z := 0) (by decide +kernel)) <|
  nv_oc (n_istore_n (k := 1) (by decide +kernel) (by decide)) <|
  nv_oc (n_iconst (z := 0) (by decide +kernel)) <|
  nv_oc (n_istore_n (k := 2) (by decide +kernel) (by decide)) <|
  nv_oc (n_iload_n (k := 2) (by decide +kernel)) <|
  nv_oc (n_iconst (z := 5) (by decide +kernel)) <|
  nv_oc (n_icmp_ge (off := 17) (tgt := 23) (by decide +kernel) (by decide)) <|
  nv_oc (n_iload_n (k := 1) (by decide +kernel)) <|
  nv_oc (n_iload_n (k := 0) (by decide +kernel)) <|
  nv_oc (n_iload_n (k := 2) (by decide +kernel)) <|
  nv_oc (n_ishr (by decide +kernel)) <|
  nv_oc (n_iconst (z := 1) (by decide +kernel)) <|
  nv_oc (n_iand (by decide +kernel)) <|
  nv_oc (n_iadd (by decide +kernel)) <|
  nv_oc (n_istore_n (k := 1) (by decide +kernel) (by decide)) <|
  nv_oc (n_iinc (k := 2) (d := 1) (by decide +kernel) (by decide)) <|
  nv_oc (n_goto (off := -16) (tgt := 4) (by decide +kernel) (by decide)) <|
  nv_oc (n_iload_n (k := 1) (by decide +kernel)) <|
  nv_oc (n_iret (by decide +kernel) rfl) <|
  nv_on
def M_X6_bring : nv_MD := (RX6, yX6_bring, cX6_bring, 6, none, 0, 0)
theorem fn_X6_bring : nv_fn M_X6_bring 5 := ⟨List.mem_of_getElem? (i := 891) (by decide +kernel), List.mem_of_getElem? (i := 50) (by decide +kernel), by decide +kernel⟩
theorem st_X6_bring : Cond.static (nv_y M_X6_bring) ∈ lw_tbl := List.mem_of_getElem? (i := 890) (by decide +kernel)
def P_X6_bring : nv_Pg := [(0, s_ki (0) 1), (1, s_is 5 3), (3, s_il 5 5), (5, s_il 4 7), (7, s_ic c_ge 28 10), (10, s_al 2 11), (11, s_il 3 12), (12, s_il 5 14), (14, s_add 15), (15, s_al 0 16), (16, s_il 1 17), (17, s_il 5 19), (19, s_add 20), (20, s_ia 21), (21, s_iw 22), (22, s_inc 5 (1) 25), (25, s_go 3), (28, s_vr)]
set_option maxRecDepth 100000 in
set_option maxHeartbeats 4000000 in
theorem ok_X6_bring : nv_ok_P M_X6_bring P_X6_bring :=
  nv_oc (n_iconst (z := 0) (by decide +kernel)) <|
  nv_oc (n_istore (k := 5) (by decide +kernel) (by decide)) <|
  nv_oc (n_iload (k := 5) (by decide +kernel)) <|
  nv_oc (n_iload (k := 4) (by decide +kernel)) <|
  nv_oc (n_icmp_ge (off := 21) (tgt := 28) (by decide +kernel) (by decide)) <|
  nv_oc (n_aload_n (k := 2) (by decide +kernel)) <|
  nv_oc (n_iload_n (k := 3) (by decide +kernel)) <|
  nv_oc (n_iload (k := 5) (by decide +kernel)) <|
  nv_oc (n_iadd (by decide +kernel)) <|
  nv_oc (n_aload_n (k := 0) (by decide +kernel)) <|
  nv_oc (n_iload_n (k := 1) (by decide +kernel)) <|
  nv_oc (n_iload (k := 5) (by decide +kernel)) <|
  nv_oc (n_iadd (by decide +kernel)) <|
  nv_oc (n_iaload (by decide +kernel)) <|
  nv_oc (n_iastore (by decide +kernel)) <|
  nv_oc (n_iinc (k := 5) (d := 1) (by decide +kernel) (by decide)) <|
  nv_oc (n_goto (off := -22) (tgt := 3) (by decide +kernel) (by decide)) <|
  nv_oc (n_vret (by decide +kernel) rfl) <|
  nv_on
def M_X6_isPlank : nv_MD := (RX6, yX6_isPlank, cX6_isPlank, 2, (some .boolean), 1, 22)
theorem fn_X6_isPlank : nv_fn M_X6_isPlank 1 := ⟨List.mem_of_getElem? (i := 831) (by decide +kernel), List.mem_of_getElem? (i := 50) (by decide +kernel), by decide +kernel⟩
theorem fv_X6_isPlank : nv_fnV M_X6_isPlank := ⟨List.mem_of_getElem? (i := 830) (by decide +kernel), List.mem_of_getElem? (i := 22) (by decide +kernel)⟩
def P_X6_isPlank : nv_Pg := [(0, s_il 1 1), (1, s_ki (0) 2), (2, s_al 0 3), (3, s_gf 6 7 6), (6, s_ki (17) 8), (8, s_ia 9), (9, s_ki (1) 10), (10, s_sub 11), (11, s_cs M_X6_in 3 14), (14, s_zr)]
set_option maxRecDepth 100000 in
set_option maxHeartbeats 4000000 in
theorem ok_X6_isPlank : nv_ok_P M_X6_isPlank P_X6_isPlank :=
  nv_oc (n_iload_n (k := 1) (by decide +kernel)) <|
  nv_oc (n_iconst (z := 0) (by decide +kernel)) <|
  nv_oc (n_aload_n (k := 0) (by decide +kernel)) <|
  nv_oc (n_getfield (idx := 23) (ci := 6) (k := 7) (N := 16) (D := RX6) (T := TX6) (by decide +kernel) rfl i_X6 (by decide) (by decide) f_X6_23) <|
  nv_oc (n_bipush (z := 17) (by decide +kernel) (by decide)) <|
  nv_oc (n_iaload (by decide +kernel)) <|
  nv_oc (n_iconst (z := 1) (by decide +kernel)) <|
  nv_oc (n_isub (by decide +kernel)) <|
  nv_oc (n_static (M' := M_X6_in) (idx := 41) (n := 3) (by decide +kernel) fn_X6_in st_X6_in l_X6_41 ⟨by decide, by decide⟩) <|
  nv_oc (n_zret (by decide +kernel) rfl) <|
  nv_on
def M_X6_isSawyer : nv_MD := (RX6, yX6_isSawyer, cX6_isSawyer, 2, (some .boolean), 1, 22)
theorem fn_X6_isSawyer : nv_fn M_X6_isSawyer 1 := ⟨List.mem_of_getElem? (i := 849) (by decide +kernel), List.mem_of_getElem? (i := 50) (by decide +kernel), by decide +kernel⟩
theorem fv_X6_isSawyer : nv_fnV M_X6_isSawyer := ⟨List.mem_of_getElem? (i := 848) (by decide +kernel), List.mem_of_getElem? (i := 24) (by decide +kernel)⟩
def P_X6_isSawyer : nv_Pg := [(0, s_il 1 1), (1, s_ki (0) 2), (2, s_al 0 3), (3, s_gf 6 7 6), (6, s_ki (28) 8), (8, s_ia 9), (9, s_ki (1) 10), (10, s_sub 11), (11, s_cs M_X6_in 3 14), (14, s_zr)]
set_option maxRecDepth 100000 in
set_option maxHeartbeats 4000000 in
theorem ok_X6_isSawyer : nv_ok_P M_X6_isSawyer P_X6_isSawyer :=
  nv_oc (n_iload_n (k := 1) (by decide +kernel)) <|
  nv_oc (n_iconst (z := 0) (by decide +kernel)) <|
  nv_oc (n_aload_n (k := 0) (by decide +kernel)) <|
  nv_oc (n_getfield (idx := 23) (ci := 6) (k := 7) (N := 16) (D := RX6) (T := TX6) (by decide +kernel) rfl i_X6 (by decide) (by decide) f_X6_23) <|
  nv_oc (n_bipush (z := 28) (by decide +kernel) (by decide)) <|
  nv_oc (n_iaload (by decide +kernel)) <|
  nv_oc (n_iconst (z := 1) (by decide +kernel)) <|
  nv_oc (n_isub (by decide +kernel)) <|
  nv_oc (n_static (M' := M_X6_in) (idx := 41) (n := 3) (by decide +kernel) fn_X6_in st_X6_in l_X6_41 ⟨by decide, by decide⟩) <|
  nv_oc (n_zret (by decide +kernel) rfl) <|
  nv_on
def M_X6_addPlank : nv_MD := (RX6, yX6_addPlank, cX6_addPlank, 4, (some .int), 0, 0)
theorem fn_X6_addPlank : nv_fn M_X6_addPlank 3 := ⟨List.mem_of_getElem? (i := 816) (by decide +kernel), List.mem_of_getElem? (i := 50) (by decide +kernel), by decide +kernel⟩
theorem st_X6_addPlank : Cond.static (nv_y M_X6_addPlank) ∈ lw_tbl := List.mem_of_getElem? (i := 815) (by decide +kernel)
def P_X6_addPlank : nv_Pg := [(0, s_al 0 1), (1, s_ki (17) 3), (3, s_ia 4), (4, s_is 3 5), (5, s_al 0 6), (6, s_ki (18) 8), (8, s_il 3 9), (9, s_add 10), (10, s_il 1 11), (11, s_iw 12), (12, s_al 0 13), (13, s_ki (23) 15), (15, s_il 3 16), (16, s_add 17), (17, s_il 2 18), (18, s_iw 19), (19, s_al 0 20), (20, s_ki (2) 21), (21, s_il 3 22), (22, s_add 23), (23, s_il 1 24), (24, s_iw 25), (25, s_al 0 26), (26, s_ki (17) 28), (28, s_dup2 29), (29, s_ia 30), (30, s_ki (1) 31), (31, s_add 32), (32, s_iw 33), (33, s_il 3 34), (34, s_ir)]
set_option maxRecDepth 100000 in
set_option maxHeartbeats 4000000 in
theorem ok_X6_addPlank : nv_ok_P M_X6_addPlank P_X6_addPlank :=
  nv_oc (n_aload_n (k := 0) (by decide +kernel)) <|
  nv_oc (n_bipush (z := 17) (by decide +kernel) (by decide)) <|
  nv_oc (n_iaload (by decide +kernel)) <|
  nv_oc (n_istore_n (k := 3) (by decide +kernel) (by decide)) <|
  nv_oc (n_aload_n (k := 0) (by decide +kernel)) <|
  nv_oc (n_bipush (z := 18) (by decide +kernel) (by decide)) <|
  nv_oc (n_iload_n (k := 3) (by decide +kernel)) <|
  nv_oc (n_iadd (by decide +kernel)) <|
  nv_oc (n_iload_n (k := 1) (by decide +kernel)) <|
  nv_oc (n_iastore (by decide +kernel)) <|
  nv_oc (n_aload_n (k := 0) (by decide +kernel)) <|
  nv_oc (n_bipush (z := 23) (by decide +kernel) (by decide)) <|
  nv_oc (n_iload_n (k := 3) (by decide +kernel)) <|
  nv_oc (n_iadd (by decide +kernel)) <|
  nv_oc (n_iload_n (k := 2) (by decide +kernel)) <|
  nv_oc (n_iastore (by decide +kernel)) <|
  nv_oc (n_aload_n (k := 0) (by decide +kernel)) <|
  nv_oc (n_iconst (z := 2) (by decide +kernel)) <|
  nv_oc (n_iload_n (k := 3) (by decide +kernel)) <|
  nv_oc (n_iadd (by decide +kernel)) <|
  nv_oc (n_iload_n (k := 1) (by decide +kernel)) <|
  nv_oc (n_iastore (by decide +kernel)) <|
  nv_oc (n_aload_n (k := 0) (by decide +kernel)) <|
  nv_oc (n_bipush (z := 17) (by decide +kernel) (by decide)) <|
  nv_oc (n_dup2 (by decide +kernel)) <|
  nv_oc (n_iaload (by decide +kernel)) <|
  nv_oc (n_iconst (z := 1) (by decide +kernel)) <|
  nv_oc (n_iadd (by decide +kernel)) <|
  nv_oc (n_iastore (by decide +kernel)) <|
  nv_oc (n_iload_n (k := 3) (by decide +kernel)) <|
  nv_oc (n_iret (by decide +kernel) rfl) <|
  nv_on
def M_X6_addSawyer : nv_MD := (RX6, yX6_addSawyer, cX6_addSawyer, 4, (some .int), 0, 0)
theorem fn_X6_addSawyer : nv_fn M_X6_addSawyer 3 := ⟨List.mem_of_getElem? (i := 823) (by decide +kernel), List.mem_of_getElem? (i := 50) (by decide +kernel), by decide +kernel⟩
theorem st_X6_addSawyer : Cond.static (nv_y M_X6_addSawyer) ∈ lw_tbl := List.mem_of_getElem? (i := 822) (by decide +kernel)
def P_X6_addSawyer : nv_Pg := [(0, s_al 0 1), (1, s_ki (28) 3), (3, s_ia 4), (4, s_is 3 5), (5, s_al 0 6), (6, s_ki (29) 8), (8, s_il 3 9), (9, s_add 10), (10, s_il 1 11), (11, s_iw 12), (12, s_al 0 13), (13, s_ki (7) 15), (15, s_il 3 16), (16, s_add 17), (17, s_il 2 18), (18, s_iw 19), (19, s_al 0 20), (20, s_ki (12) 22), (22, s_il 3 23), (23, s_add 24), (24, s_ki (-4) 26), (26, s_iw 27), (27, s_al 0 28), (28, s_ki (28) 30), (30, s_dup2 31), (31, s_ia 32), (32, s_ki (1) 33), (33, s_add 34), (34, s_iw 35), (35, s_il 3 36), (36, s_ir)]
set_option maxRecDepth 100000 in
set_option maxHeartbeats 4000000 in
theorem ok_X6_addSawyer : nv_ok_P M_X6_addSawyer P_X6_addSawyer :=
  nv_oc (n_aload_n (k := 0) (by decide +kernel)) <|
  nv_oc (n_bipush (z := 28) (by decide +kernel) (by decide)) <|
  nv_oc (n_iaload (by decide +kernel)) <|
  nv_oc (n_istore_n (k := 3) (by decide +kernel) (by decide)) <|
  nv_oc (n_aload_n (k := 0) (by decide +kernel)) <|
  nv_oc (n_bipush (z := 29) (by decide +kernel) (by decide)) <|
  nv_oc (n_iload_n (k := 3) (by decide +kernel)) <|
  nv_oc (n_iadd (by decide +kernel)) <|
  nv_oc (n_iload_n (k := 1) (by decide +kernel)) <|
  nv_oc (n_iastore (by decide +kernel)) <|
  nv_oc (n_aload_n (k := 0) (by decide +kernel)) <|
  nv_oc (n_bipush (z := 7) (by decide +kernel) (by decide)) <|
  nv_oc (n_iload_n (k := 3) (by decide +kernel)) <|
  nv_oc (n_iadd (by decide +kernel)) <|
  nv_oc (n_iload_n (k := 2) (by decide +kernel)) <|
  nv_oc (n_iastore (by decide +kernel)) <|
  nv_oc (n_aload_n (k := 0) (by decide +kernel)) <|
  nv_oc (n_bipush (z := 12) (by decide +kernel) (by decide)) <|
  nv_oc (n_iload_n (k := 3) (by decide +kernel)) <|
  nv_oc (n_iadd (by decide +kernel)) <|
  nv_oc (n_bipush (z := -4) (by decide +kernel) (by decide)) <|
  nv_oc (n_iastore (by decide +kernel)) <|
  nv_oc (n_aload_n (k := 0) (by decide +kernel)) <|
  nv_oc (n_bipush (z := 28) (by decide +kernel) (by decide)) <|
  nv_oc (n_dup2 (by decide +kernel)) <|
  nv_oc (n_iaload (by decide +kernel)) <|
  nv_oc (n_iconst (z := 1) (by decide +kernel)) <|
  nv_oc (n_iadd (by decide +kernel)) <|
  nv_oc (n_iastore (by decide +kernel)) <|
  nv_oc (n_iload_n (k := 3) (by decide +kernel)) <|
  nv_oc (n_iret (by decide +kernel) rfl) <|
  nv_on
def M_X6_plank : nv_MD := (RX6, yX6_plank, cX6_plank, 3, (some .int), 1, 23)
theorem fn_X6_plank : nv_fn M_X6_plank 2 := ⟨List.mem_of_getElem? (i := 810) (by decide +kernel), List.mem_of_getElem? (i := 50) (by decide +kernel), by decide +kernel⟩
theorem fv_X6_plank : nv_fnV M_X6_plank := ⟨List.mem_of_getElem? (i := 808) (by decide +kernel), List.mem_of_getElem? (i := 809) (by decide +kernel)⟩
def P_X6_plank : nv_Pg := [(0, s_il 1 1), (1, s_ki (1) 2), (2, s_ki (99) 4), (4, s_cs M_X6_in 3 7), (7, s_if c_eq 20 10), (10, s_il 2 11), (11, s_ki (0) 12), (12, s_ki (9) 14), (14, s_cs M_X6_in 3 17), (17, s_if c_eq 20 22), (20, s_ki (-1) 21), (21, s_ir), (22, s_al 0 23), (23, s_gf 6 7 26), (26, s_ki (17) 28), (28, s_ia 29), (29, s_ki (5) 30), (30, s_ic c_eq 33 36), (33, s_ki (-3) 35), (35, s_ir), (36, s_al 0 37), (37, s_gf 6 7 40), (40, s_ki (34) 42), (42, s_ki (0) 43), (43, s_iw 44), (44, s_al 0 45), (45, s_gf 6 7 48), (48, s_il 1 49), (49, s_il 2 50), (50, s_cs M_X6_addPlank 3 53), (53, s_ir)]
set_option maxRecDepth 100000 in
set_option maxHeartbeats 4000000 in
theorem ok_X6_plank : nv_ok_P M_X6_plank P_X6_plank :=
  nv_oc (n_iload_n (k := 1) (by decide +kernel)) <|
  nv_oc (n_iconst (z := 1) (by decide +kernel)) <|
  nv_oc (n_bipush (z := 99) (by decide +kernel) (by decide)) <|
  nv_oc (n_static (M' := M_X6_in) (idx := 41) (n := 3) (by decide +kernel) fn_X6_in st_X6_in l_X6_41 ⟨by decide, by decide⟩) <|
  nv_oc (n_if_eq (off := 13) (tgt := 20) (by decide +kernel) (by decide)) <|
  nv_oc (n_iload_n (k := 2) (by decide +kernel)) <|
  nv_oc (n_iconst (z := 0) (by decide +kernel)) <|
  nv_oc (n_bipush (z := 9) (by decide +kernel) (by decide)) <|
  nv_oc (n_static (M' := M_X6_in) (idx := 41) (n := 3) (by decide +kernel) fn_X6_in st_X6_in l_X6_41 ⟨by decide, by decide⟩) <|
  nv_oc (n_if_ne (off := 5) (tgt := 22) (by decide +kernel) (by decide)) <|
  nv_oc (n_iconst (z := -1) (by decide +kernel)) <|
  nv_oc (n_iret (by decide +kernel) rfl) <|
  nv_oc (n_aload_n (k := 0) (by decide +kernel)) <|
  nv_oc (n_getfield (idx := 23) (ci := 6) (k := 7) (N := 16) (D := RX6) (T := TX6) (by decide +kernel) rfl i_X6 (by decide) (by decide) f_X6_23) <|
  nv_oc (n_bipush (z := 17) (by decide +kernel) (by decide)) <|
  nv_oc (n_iaload (by decide +kernel)) <|
  nv_oc (n_iconst (z := 5) (by decide +kernel)) <|
  nv_oc (n_icmp_ne (off := 6) (tgt := 36) (by decide +kernel) (by decide)) <|
  nv_oc (n_bipush (z := -3) (by decide +kernel) (by decide)) <|
  nv_oc (n_iret (by decide +kernel) rfl) <|
  nv_oc (n_aload_n (k := 0) (by decide +kernel)) <|
  nv_oc (n_getfield (idx := 23) (ci := 6) (k := 7) (N := 16) (D := RX6) (T := TX6) (by decide +kernel) rfl i_X6 (by decide) (by decide) f_X6_23) <|
  nv_oc (n_bipush (z := 34) (by decide +kernel) (by decide)) <|
  nv_oc (n_iconst (z := 0) (by decide +kernel)) <|
  nv_oc (n_iastore (by decide +kernel)) <|
  nv_oc (n_aload_n (k := 0) (by decide +kernel)) <|
  nv_oc (n_getfield (idx := 23) (ci := 6) (k := 7) (N := 16) (D := RX6) (T := TX6) (by decide +kernel) rfl i_X6 (by decide) (by decide) f_X6_23) <|
  nv_oc (n_iload_n (k := 1) (by decide +kernel)) <|
  nv_oc (n_iload_n (k := 2) (by decide +kernel)) <|
  nv_oc (n_static (M' := M_X6_addPlank) (idx := 45) (n := 3) (by decide +kernel) fn_X6_addPlank st_X6_addPlank l_X6_45 ⟨by decide, by decide⟩) <|
  nv_oc (n_iret (by decide +kernel) rfl) <|
  nv_on
def M_X6_sawyer : nv_MD := (RX6, yX6_sawyer, cX6_sawyer, 3, (some .int), 1, 23)
theorem fn_X6_sawyer : nv_fn M_X6_sawyer 2 := ⟨List.mem_of_getElem? (i := 820) (by decide +kernel), List.mem_of_getElem? (i := 50) (by decide +kernel), by decide +kernel⟩
theorem fv_X6_sawyer : nv_fnV M_X6_sawyer := ⟨List.mem_of_getElem? (i := 818) (by decide +kernel), List.mem_of_getElem? (i := 819) (by decide +kernel)⟩
def P_X6_sawyer : nv_Pg := [(0, s_il 1 1), (1, s_ki (0) 2), (2, s_ki (4) 3), (3, s_cs M_X6_in 3 6), (6, s_if c_eq 19 9), (9, s_il 2 10), (10, s_ki (0) 11), (11, s_ki (9) 13), (13, s_cs M_X6_in 3 16), (16, s_if c_eq 19 21), (19, s_ki (-1) 20), (20, s_ir), (21, s_al 0 22), (22, s_gf 6 7 25), (25, s_ki (28) 27), (27, s_ia 28), (28, s_ki (5) 29), (29, s_ic c_eq 32 35), (32, s_ki (-3) 34), (34, s_ir), (35, s_al 0 36), (36, s_gf 6 7 39), (39, s_ki (34) 41), (41, s_ki (0) 42), (42, s_iw 43), (43, s_al 0 44), (44, s_gf 6 7 47), (47, s_il 1 48), (48, s_il 2 49), (49, s_cs M_X6_addSawyer 3 52), (52, s_ir)]
set_option maxRecDepth 100000 in
set_option maxHeartbeats 4000000 in
theorem ok_X6_sawyer : nv_ok_P M_X6_sawyer P_X6_sawyer :=
  nv_oc (n_iload_n (k := 1) (by decide +kernel)) <|
  nv_oc (n_iconst (z := 0) (by decide +kernel)) <|
  nv_oc (n_iconst (z := 4) (by decide +kernel)) <|
  nv_oc (n_static (M' := M_X6_in) (idx := 41) (n := 3) (by decide +kernel) fn_X6_in st_X6_in l_X6_41 ⟨by decide, by decide⟩) <|
  nv_oc (n_if_eq (off := 13) (tgt := 19) (by decide +kernel) (by decide)) <|
  nv_oc (n_iload_n (k := 2) (by decide +kernel)) <|
  nv_oc (n_iconst (z := 0) (by decide +kernel)) <|
  nv_oc (n_bipush (z := 9) (by decide +kernel) (by decide)) <|
  nv_oc (n_static (M' := M_X6_in) (idx := 41) (n := 3) (by decide +kernel) fn_X6_in st_X6_in l_X6_41 ⟨by decide, by decide⟩) <|
  nv_oc (n_if_ne (off := 5) (tgt := 21) (by decide +kernel) (by decide)) <|
  nv_oc (n_iconst (z := -1) (by decide +kernel)) <|
  nv_oc (n_iret (by decide +kernel) rfl) <|
  nv_oc (n_aload_n (k := 0) (by decide +kernel)) <|
  nv_oc (n_getfield (idx := 23) (ci := 6) (k := 7) (N := 16) (D := RX6) (T := TX6) (by decide +kernel) rfl i_X6 (by decide) (by decide) f_X6_23) <|
  nv_oc (n_bipush (z := 28) (by decide +kernel) (by decide)) <|
  nv_oc (n_iaload (by decide +kernel)) <|
  nv_oc (n_iconst (z := 5) (by decide +kernel)) <|
  nv_oc (n_icmp_ne (off := 6) (tgt := 35) (by decide +kernel) (by decide)) <|
  nv_oc (n_bipush (z := -3) (by decide +kernel) (by decide)) <|
  nv_oc (n_iret (by decide +kernel) rfl) <|
  nv_oc (n_aload_n (k := 0) (by decide +kernel)) <|
  nv_oc (n_getfield (idx := 23) (ci := 6) (k := 7) (N := 16) (D := RX6) (T := TX6) (by decide +kernel) rfl i_X6 (by decide) (by decide) f_X6_23) <|
  nv_oc (n_bipush (z := 34) (by decide +kernel) (by decide)) <|
  nv_oc (n_iconst (z := 0) (by decide +kernel)) <|
  nv_oc (n_iastore (by decide +kernel)) <|
  nv_oc (n_aload_n (k := 0) (by decide +kernel)) <|
  nv_oc (n_getfield (idx := 23) (ci := 6) (k := 7) (N := 16) (D := RX6) (T := TX6) (by decide +kernel) rfl i_X6 (by decide) (by decide) f_X6_23) <|
  nv_oc (n_iload_n (k := 1) (by decide +kernel)) <|
  nv_oc (n_iload_n (k := 2) (by decide +kernel)) <|
  nv_oc (n_static (M' := M_X6_addSawyer) (idx := 49) (n := 3) (by decide +kernel) fn_X6_addSawyer st_X6_addSawyer l_X6_49 ⟨by decide, by decide⟩) <|
  nv_oc (n_iret (by decide +kernel) rfl) <|
  nv_on
def M_X6_cuts : nv_MD := (RX6, yX6_cuts, cX6_cuts, 7, (some .int), 0, 0)
theorem fn_X6_cuts : nv_fn M_X6_cuts 2 := ⟨List.mem_of_getElem? (i := 841) (by decide +kernel), List.mem_of_getElem? (i := 50) (by decide +kernel), by decide +kernel⟩
theorem st_X6_cuts : Cond.static (nv_y M_X6_cuts) ∈ lw_tbl := List.mem_of_getElem? (i := 840) (by decide +kernel)
def P_X6_cuts : nv_Pg := [(0, s_al 0 1), (1, s_ki (12) 3), (3, s_il 1 4), (4, s_add 5), (5, s_ia 6), (6, s_is 2 7), (7, s_il 2 8), (8, s_ki (-4) 10), (10, s_ic c_eq 21 13), (13, s_al 0 14), (14, s_ki (2) 15), (15, s_il 2 16), (16, s_add 17), (17, s_ia 18), (18, s_if c_eq 21 23), (21, s_ki (0) 22), (22, s_ir), (23, s_al 0 24), (24, s_ki (23) 26), (26, s_il 2 27), (27, s_add 28), (28, s_ia 29), (29, s_is 3 30), (30, s_al 0 31), (31, s_ki (7) 33), (33, s_il 1 34), (34, s_add 35), (35, s_ia 36), (36, s_il 3 37), (37, s_ki (2) 38), (38, s_div 39), (39, s_ic c_le 55 42), (42, s_al 0 43), (43, s_ki (7) 45), (45, s_il 1 46), (46, s_add 47), (47, s_ia 48), (48, s_il 3 49), (49, s_ki (2) 50), (50, s_div 51), (51, s_sub 52), (52, s_go 56), (55, s_ki (0) 56), (56, s_is 4 58), (58, s_il 4 60), (60, s_il 3 61), (61, s_ki (3) 62), (62, s_ic c_ge 69 65), (65, s_il 3 66), (66, s_go 70), (69, s_ki (3) 70), (70, s_add 71), (71, s_is 5 73), (73, s_al 0 74), (74, s_ki (2) 75), (75, s_il 2 76), (76, s_add 77), (77, s_ia 78), (78, s_al 0 79), (79, s_ki (18) 81), (81, s_il 2 82), (82, s_add 83), (83, s_ia 84), (84, s_ic c_eq 97 87), (87, s_al 0 88), (88, s_ki (2) 89), (89, s_il 2 90), (90, s_add 91), (91, s_ia 92), (92, s_ki (10) 94), (94, s_ic c_ge 104 97), (97, s_ki (2) 98), (98, s_il 4 100), (100, s_mul 101), (101, s_go 106), (104, s_il 4 106), (106, s_is 6 108), (108, s_al 0 109), (109, s_ki (29) 111), (111, s_il 1 112), (112, s_add 113), (113, s_ia 114), (114, s_sw 0 168 [144, 147, 150, 153]), (144, s_il 4 146), (146, s_ir), (147, s_il 5 149), (149, s_ir), (150, s_il 6 152), (152, s_ir), (153, s_al 0 154), (154, s_ki (0) 155), (155, s_ia 156), (156, s_ki (4) 157), (157, s_rem 158), (158, s_if c_eq 161 165), (161, s_ki (0) 162), (162, s_go 167), (165, s_il 5 167), (167, s_ir), (168, s_il 6 170), (170, s_ki (1) 171), (171, s_ic c_eq 174 178), (174, s_ki (1) 175), (175, s_go 182), (178, s_il 6 180), (180, s_ki (2) 181), (181, s_div 182), (182, s_ir)]
set_option maxRecDepth 100000 in
set_option maxHeartbeats 4000000 in
theorem ok_X6_cuts : nv_ok_P M_X6_cuts P_X6_cuts :=
  nv_oc (n_aload_n (k := 0) (by decide +kernel)) <|
  nv_oc (n_bipush (z := 12) (by decide +kernel) (by decide)) <|
  nv_oc (n_iload_n (k := 1) (by decide +kernel)) <|
  nv_oc (n_iadd (by decide +kernel)) <|
  nv_oc (n_iaload (by decide +kernel)) <|
  nv_oc (n_istore_n (k := 2) (by decide +kernel) (by decide)) <|
  nv_oc (n_iload_n (k := 2) (by decide +kernel)) <|
  nv_oc (n_bipush (z := -4) (by decide +kernel) (by decide)) <|
  nv_oc (n_icmp_eq (off := 11) (tgt := 21) (by decide +kernel) (by decide)) <|
  nv_oc (n_aload_n (k := 0) (by decide +kernel)) <|
  nv_oc (n_iconst (z := 2) (by decide +kernel)) <|
  nv_oc (n_iload_n (k := 2) (by decide +kernel)) <|
  nv_oc (n_iadd (by decide +kernel)) <|
  nv_oc (n_iaload (by decide +kernel)) <|
  nv_oc (n_if_ne (off := 5) (tgt := 23) (by decide +kernel) (by decide)) <|
  nv_oc (n_iconst (z := 0) (by decide +kernel)) <|
  nv_oc (n_iret (by decide +kernel) rfl) <|
  nv_oc (n_aload_n (k := 0) (by decide +kernel)) <|
  nv_oc (n_bipush (z := 23) (by decide +kernel) (by decide)) <|
  nv_oc (n_iload_n (k := 2) (by decide +kernel)) <|
  nv_oc (n_iadd (by decide +kernel)) <|
  nv_oc (n_iaload (by decide +kernel)) <|
  nv_oc (n_istore_n (k := 3) (by decide +kernel) (by decide)) <|
  nv_oc (n_aload_n (k := 0) (by decide +kernel)) <|
  nv_oc (n_bipush (z := 7) (by decide +kernel) (by decide)) <|
  nv_oc (n_iload_n (k := 1) (by decide +kernel)) <|
  nv_oc (n_iadd (by decide +kernel)) <|
  nv_oc (n_iaload (by decide +kernel)) <|
  nv_oc (n_iload_n (k := 3) (by decide +kernel)) <|
  nv_oc (n_iconst (z := 2) (by decide +kernel)) <|
  nv_oc (n_idiv (by decide +kernel)) <|
  nv_oc (n_icmp_le (off := 16) (tgt := 55) (by decide +kernel) (by decide)) <|
  nv_oc (n_aload_n (k := 0) (by decide +kernel)) <|
  nv_oc (n_bipush (z := 7) (by decide +kernel) (by decide)) <|
  nv_oc (n_iload_n (k := 1) (by decide +kernel)) <|
  nv_oc (n_iadd (by decide +kernel)) <|
  nv_oc (n_iaload (by decide +kernel)) <|
  nv_oc (n_iload_n (k := 3) (by decide +kernel)) <|
  nv_oc (n_iconst (z := 2) (by decide +kernel)) <|
  nv_oc (n_idiv (by decide +kernel)) <|
  nv_oc (n_isub (by decide +kernel)) <|
  nv_oc (n_goto (off := 4) (tgt := 56) (by decide +kernel) (by decide)) <|
  nv_oc (n_iconst (z := 0) (by decide +kernel)) <|
  nv_oc (n_istore (k := 4) (by decide +kernel) (by decide)) <|
  nv_oc (n_iload (k := 4) (by decide +kernel)) <|
  nv_oc (n_iload_n (k := 3) (by decide +kernel)) <|
  nv_oc (n_iconst (z := 3) (by decide +kernel)) <|
  nv_oc (n_icmp_ge (off := 7) (tgt := 69) (by decide +kernel) (by decide)) <|
  nv_oc (n_iload_n (k := 3) (by decide +kernel)) <|
  nv_oc (n_goto (off := 4) (tgt := 70) (by decide +kernel) (by decide)) <|
  nv_oc (n_iconst (z := 3) (by decide +kernel)) <|
  nv_oc (n_iadd (by decide +kernel)) <|
  nv_oc (n_istore (k := 5) (by decide +kernel) (by decide)) <|
  nv_oc (n_aload_n (k := 0) (by decide +kernel)) <|
  nv_oc (n_iconst (z := 2) (by decide +kernel)) <|
  nv_oc (n_iload_n (k := 2) (by decide +kernel)) <|
  nv_oc (n_iadd (by decide +kernel)) <|
  nv_oc (n_iaload (by decide +kernel)) <|
  nv_oc (n_aload_n (k := 0) (by decide +kernel)) <|
  nv_oc (n_bipush (z := 18) (by decide +kernel) (by decide)) <|
  nv_oc (n_iload_n (k := 2) (by decide +kernel)) <|
  nv_oc (n_iadd (by decide +kernel)) <|
  nv_oc (n_iaload (by decide +kernel)) <|
  nv_oc (n_icmp_eq (off := 13) (tgt := 97) (by decide +kernel) (by decide)) <|
  nv_oc (n_aload_n (k := 0) (by decide +kernel)) <|
  nv_oc (n_iconst (z := 2) (by decide +kernel)) <|
  nv_oc (n_iload_n (k := 2) (by decide +kernel)) <|
  nv_oc (n_iadd (by decide +kernel)) <|
  nv_oc (n_iaload (by decide +kernel)) <|
  nv_oc (n_bipush (z := 10) (by decide +kernel) (by decide)) <|
  nv_oc (n_icmp_ge (off := 10) (tgt := 104) (by decide +kernel) (by decide)) <|
  nv_oc (n_iconst (z := 2) (by decide +kernel)) <|
  nv_oc (n_iload (k := 4) (by decide +kernel)) <|
  nv_oc (n_imul (by decide +kernel)) <|
  nv_oc (n_goto (off := 5) (tgt := 106) (by decide +kernel) (by decide)) <|
  nv_oc (n_iload (k := 4) (by decide +kernel)) <|
  nv_oc (n_istore (k := 6) (by decide +kernel) (by decide)) <|
  nv_oc (n_aload_n (k := 0) (by decide +kernel)) <|
  nv_oc (n_bipush (z := 29) (by decide +kernel) (by decide)) <|
  nv_oc (n_iload_n (k := 1) (by decide +kernel)) <|
  nv_oc (n_iadd (by decide +kernel)) <|
  nv_oc (n_iaload (by decide +kernel)) <|
  nv_oc (n_tableswitch (dflt := 54) (lo := 0) (hi := 3) (offs := #[30, 33, 36, 39]) (len := 30) (df := 168) (ts := [144, 147, 150, 153]) (by decide +kernel) (by decide) (by decide) (by decide)) <|
  nv_oc (n_iload (k := 4) (by decide +kernel)) <|
  nv_oc (n_iret (by decide +kernel) rfl) <|
  nv_oc (n_iload (k := 5) (by decide +kernel)) <|
  nv_oc (n_iret (by decide +kernel) rfl) <|
  nv_oc (n_iload (k := 6) (by decide +kernel)) <|
  nv_oc (n_iret (by decide +kernel) rfl) <|
  nv_oc (n_aload_n (k := 0) (by decide +kernel)) <|
  nv_oc (n_iconst (z := 0) (by decide +kernel)) <|
  nv_oc (n_iaload (by decide +kernel)) <|
  nv_oc (n_iconst (z := 4) (by decide +kernel)) <|
  nv_oc (n_irem (by decide +kernel)) <|
  nv_oc (n_if_ne (off := 7) (tgt := 165) (by decide +kernel) (by decide)) <|
  nv_oc (n_iconst (z := 0) (by decide +kernel)) <|
  nv_oc (n_goto (off := 5) (tgt := 167) (by decide +kernel) (by decide)) <|
  nv_oc (n_iload (k := 5) (by decide +kernel)) <|
  nv_oc (n_iret (by decide +kernel) rfl) <|
  nv_oc (n_iload (k := 6) (by decide +kernel)) <|
  nv_oc (n_iconst (z := 1) (by decide +kernel)) <|
  nv_oc (n_icmp_ne (off := 7) (tgt := 178) (by decide +kernel) (by decide)) <|
  nv_oc (n_iconst (z := 1) (by decide +kernel)) <|
  nv_oc (n_goto (off := 7) (tgt := 182) (by decide +kernel) (by decide)) <|
  nv_oc (n_iload (k := 6) (by decide +kernel)) <|
  nv_oc (n_iconst (z := 2) (by decide +kernel)) <|
  nv_oc (n_idiv (by decide +kernel)) <|
  nv_oc (n_iret (by decide +kernel) rfl) <|
  nv_on
def M_X6_sittersOn : nv_MD := (RX6, yX6_sittersOn, cX6_sittersOn, 4, (some .int), 0, 0)
theorem fn_X6_sittersOn : nv_fn M_X6_sittersOn 2 := ⟨List.mem_of_getElem? (i := 834) (by decide +kernel), List.mem_of_getElem? (i := 50) (by decide +kernel), by decide +kernel⟩
theorem st_X6_sittersOn : Cond.static (nv_y M_X6_sittersOn) ∈ lw_tbl := List.mem_of_getElem? (i := 833) (by decide +kernel)
def P_X6_sittersOn : nv_Pg := [(0, s_ki (0) 1), (1, s_is 2 2), (2, s_ki (0) 3), (3, s_is 3 4), (4, s_il 3 5), (5, s_al 0 6), (6, s_ki (28) 8), (8, s_ia 9), (9, s_ic c_ge 38 12), (12, s_il 2 13), (13, s_al 0 14), (14, s_ki (12) 16), (16, s_il 3 17), (17, s_add 18), (18, s_ia 19), (19, s_il 1 20), (20, s_ic c_eq 23 29), (23, s_ki (1) 24), (24, s_il 3 25), (25, s_sl 26), (26, s_go 30), (29, s_ki (0) 30), (30, s_b nv_or 31), (31, s_is 2 32), (32, s_inc 3 (1) 35), (35, s_go 4), (38, s_il 2 39), (39, s_ir)]
set_option maxRecDepth 100000 in
set_option maxHeartbeats 4000000 in
theorem ok_X6_sittersOn : nv_ok_P M_X6_sittersOn P_X6_sittersOn :=
  nv_oc (n_iconst (z := 0) (by decide +kernel)) <|
  nv_oc (n_istore_n (k := 2) (by decide +kernel) (by decide)) <|
  nv_oc (n_iconst (z := 0) (by decide +kernel)) <|
  nv_oc (n_istore_n (k := 3) (by decide +kernel) (by decide)) <|
  nv_oc (n_iload_n (k := 3) (by decide +kernel)) <|
  nv_oc (n_aload_n (k := 0) (by decide +kernel)) <|
  nv_oc (n_bipush (z := 28) (by decide +kernel) (by decide)) <|
  nv_oc (n_iaload (by decide +kernel)) <|
  nv_oc (n_icmp_ge (off := 29) (tgt := 38) (by decide +kernel) (by decide)) <|
  nv_oc (n_iload_n (k := 2) (by decide +kernel)) <|
  nv_oc (n_aload_n (k := 0) (by decide +kernel)) <|
  nv_oc (n_bipush (z := 12) (by decide +kernel) (by decide)) <|
  nv_oc (n_iload_n (k := 3) (by decide +kernel)) <|
  nv_oc (n_iadd (by decide +kernel)) <|
  nv_oc (n_iaload (by decide +kernel)) <|
  nv_oc (n_iload_n (k := 1) (by decide +kernel)) <|
  nv_oc (n_icmp_ne (off := 9) (tgt := 29) (by decide +kernel) (by decide)) <|
  nv_oc (n_iconst (z := 1) (by decide +kernel)) <|
  nv_oc (n_iload_n (k := 3) (by decide +kernel)) <|
  nv_oc (n_ishl (by decide +kernel)) <|
  nv_oc (n_goto (off := 4) (tgt := 30) (by decide +kernel) (by decide)) <|
  nv_oc (n_iconst (z := 0) (by decide +kernel)) <|
  nv_oc (n_ior (by decide +kernel)) <|
  nv_oc (n_istore_n (k := 2) (by decide +kernel) (by decide)) <|
  nv_oc (n_iinc (k := 3) (d := 1) (by decide +kernel) (by decide)) <|
  nv_oc (n_goto (off := -31) (tgt := 4) (by decide +kernel) (by decide)) <|
  nv_oc (n_iload_n (k := 2) (by decide +kernel)) <|
  nv_oc (n_iret (by decide +kernel) rfl) <|
  nv_on
def M_X6_cutsOn : nv_MD := (RX6, yX6_cutsOn, cX6_cutsOn, 4, (some .int), 1, 26)
theorem fn_X6_cutsOn : nv_fn M_X6_cutsOn 1 := ⟨List.mem_of_getElem? (i := 838) (by decide +kernel), List.mem_of_getElem? (i := 50) (by decide +kernel), by decide +kernel⟩
theorem fv_X6_cutsOn : nv_fnV M_X6_cutsOn := ⟨List.mem_of_getElem? (i := 837) (by decide +kernel), List.mem_of_getElem? (i := 23) (by decide +kernel)⟩
def P_X6_cutsOn : nv_Pg := [(0, s_ki (0) 1), (1, s_is 2 2), (2, s_ki (0) 3), (3, s_is 3 4), (4, s_il 3 5), (5, s_al 0 6), (6, s_gf 6 7 9), (9, s_ki (28) 11), (11, s_ia 12), (12, s_ic c_ge 49 15), (15, s_il 2 16), (16, s_al 0 17), (17, s_gf 6 7 20), (20, s_ki (12) 22), (22, s_il 3 23), (23, s_add 24), (24, s_ia 25), (25, s_il 1 26), (26, s_ic c_eq 29 40), (29, s_al 0 30), (30, s_gf 6 7 33), (33, s_il 3 34), (34, s_cs M_X6_cuts 2 37), (37, s_go 41), (40, s_ki (0) 41), (41, s_add 42), (42, s_is 2 43), (43, s_inc 3 (1) 46), (46, s_go 4), (49, s_il 2 50), (50, s_ir)]
set_option maxRecDepth 100000 in
set_option maxHeartbeats 4000000 in
theorem ok_X6_cutsOn : nv_ok_P M_X6_cutsOn P_X6_cutsOn :=
  nv_oc (n_iconst (z := 0) (by decide +kernel)) <|
  nv_oc (n_istore_n (k := 2) (by decide +kernel) (by decide)) <|
  nv_oc (n_iconst (z := 0) (by decide +kernel)) <|
  nv_oc (n_istore_n (k := 3) (by decide +kernel) (by decide)) <|
  nv_oc (n_iload_n (k := 3) (by decide +kernel)) <|
  nv_oc (n_aload_n (k := 0) (by decide +kernel)) <|
  nv_oc (n_getfield (idx := 23) (ci := 6) (k := 7) (N := 16) (D := RX6) (T := TX6) (by decide +kernel) rfl i_X6 (by decide) (by decide) f_X6_23) <|
  nv_oc (n_bipush (z := 28) (by decide +kernel) (by decide)) <|
  nv_oc (n_iaload (by decide +kernel)) <|
  nv_oc (n_icmp_ge (off := 37) (tgt := 49) (by decide +kernel) (by decide)) <|
  nv_oc (n_iload_n (k := 2) (by decide +kernel)) <|
  nv_oc (n_aload_n (k := 0) (by decide +kernel)) <|
  nv_oc (n_getfield (idx := 23) (ci := 6) (k := 7) (N := 16) (D := RX6) (T := TX6) (by decide +kernel) rfl i_X6 (by decide) (by decide) f_X6_23) <|
  nv_oc (n_bipush (z := 12) (by decide +kernel) (by decide)) <|
  nv_oc (n_iload_n (k := 3) (by decide +kernel)) <|
  nv_oc (n_iadd (by decide +kernel)) <|
  nv_oc (n_iaload (by decide +kernel)) <|
  nv_oc (n_iload_n (k := 1) (by decide +kernel)) <|
  nv_oc (n_icmp_ne (off := 14) (tgt := 40) (by decide +kernel) (by decide)) <|
  nv_oc (n_aload_n (k := 0) (by decide +kernel)) <|
  nv_oc (n_getfield (idx := 23) (ci := 6) (k := 7) (N := 16) (D := RX6) (T := TX6) (by decide +kernel) rfl i_X6 (by decide) (by decide) f_X6_23) <|
  nv_oc (n_iload_n (k := 3) (by decide +kernel)) <|
  nv_oc (n_static (M' := M_X6_cuts) (idx := 52) (n := 2) (by decide +kernel) fn_X6_cuts st_X6_cuts l_X6_52 ⟨by decide, by decide⟩) <|
  nv_oc (n_goto (off := 4) (tgt := 41) (by decide +kernel) (by decide)) <|
  nv_oc (n_iconst (z := 0) (by decide +kernel)) <|
  nv_oc (n_iadd (by decide +kernel)) <|
  nv_oc (n_istore_n (k := 2) (by decide +kernel) (by decide)) <|
  nv_oc (n_iinc (k := 3) (d := 1) (by decide +kernel) (by decide)) <|
  nv_oc (n_goto (off := -42) (tgt := 4) (by decide +kernel) (by decide)) <|
  nv_oc (n_iload_n (k := 2) (by decide +kernel)) <|
  nv_oc (n_iret (by decide +kernel) rfl) <|
  nv_on
def M_X6_of : nv_MD := (RX6, yX6_of, cX6_of, 3, (some .int), 2, 49)
theorem fn_X6_of : nv_fn M_X6_of 2 := ⟨List.mem_of_getElem? (i := 827) (by decide +kernel), List.mem_of_getElem? (i := 50) (by decide +kernel), by decide +kernel⟩
theorem fv_X6_of : nv_fnV M_X6_of := ⟨List.mem_of_getElem? (i := 825) (by decide +kernel), List.mem_of_getElem? (i := 826) (by decide +kernel)⟩
def P_X6_of : nv_Pg := [(0, s_al 0 1), (1, s_il 1 2), (2, s_cv 6 M_X6_isPlank 1 5), (5, s_if c_eq 8 10), (8, s_ki (-1) 9), (9, s_ir), (10, s_il 2 11), (11, s_sw 0 88 [44, 54, 64, 73, 82]), (44, s_al 0 45), (45, s_gf 6 7 48), (48, s_ki (18) 50), (50, s_il 1 51), (51, s_add 52), (52, s_ia 53), (53, s_ir), (54, s_al 0 55), (55, s_gf 6 7 58), (58, s_ki (23) 60), (60, s_il 1 61), (61, s_add 62), (62, s_ia 63), (63, s_ir), (64, s_al 0 65), (65, s_gf 6 7 68), (68, s_ki (2) 69), (69, s_il 1 70), (70, s_add 71), (71, s_ia 72), (72, s_ir), (73, s_al 0 74), (74, s_gf 6 7 77), (77, s_il 1 78), (78, s_cs M_X6_sittersOn 2 81), (81, s_ir), (82, s_al 0 83), (83, s_il 1 84), (84, s_cv 6 M_X6_cutsOn 1 87), (87, s_ir), (88, s_ki (-1) 89), (89, s_ir)]
set_option maxRecDepth 100000 in
set_option maxHeartbeats 4000000 in
theorem ok_X6_of : nv_ok_P M_X6_of P_X6_of :=
  nv_oc (n_aload_n (k := 0) (by decide +kernel)) <|
  nv_oc (n_iload_n (k := 1) (by decide +kernel)) <|
  nv_oc (n_virtual (M' := M_X6_isPlank) (idx := 56) (n := 1) (ci := 6) (N := 16) (D := RX6) (T := TX6) (by decide +kernel) fn_X6_isPlank fv_X6_isPlank rfl rfl l_X6_56 ⟨by decide, by decide⟩) <|
  nv_oc (n_if_ne (off := 5) (tgt := 10) (by decide +kernel) (by decide)) <|
  nv_oc (n_iconst (z := -1) (by decide +kernel)) <|
  nv_oc (n_iret (by decide +kernel) rfl) <|
  nv_oc (n_iload_n (k := 2) (by decide +kernel)) <|
  nv_oc (n_tableswitch (dflt := 77) (lo := 0) (hi := 4) (offs := #[33, 43, 53, 62, 71]) (len := 33) (df := 88) (ts := [44, 54, 64, 73, 82]) (by decide +kernel) (by decide) (by decide) (by decide)) <|
  nv_oc (n_aload_n (k := 0) (by decide +kernel)) <|
  nv_oc (n_getfield (idx := 23) (ci := 6) (k := 7) (N := 16) (D := RX6) (T := TX6) (by decide +kernel) rfl i_X6 (by decide) (by decide) f_X6_23) <|
  nv_oc (n_bipush (z := 18) (by decide +kernel) (by decide)) <|
  nv_oc (n_iload_n (k := 1) (by decide +kernel)) <|
  nv_oc (n_iadd (by decide +kernel)) <|
  nv_oc (n_iaload (by decide +kernel)) <|
  nv_oc (n_iret (by decide +kernel) rfl) <|
  nv_oc (n_aload_n (k := 0) (by decide +kernel)) <|
  nv_oc (n_getfield (idx := 23) (ci := 6) (k := 7) (N := 16) (D := RX6) (T := TX6) (by decide +kernel) rfl i_X6 (by decide) (by decide) f_X6_23) <|
  nv_oc (n_bipush (z := 23) (by decide +kernel) (by decide)) <|
  nv_oc (n_iload_n (k := 1) (by decide +kernel)) <|
  nv_oc (n_iadd (by decide +kernel)) <|
  nv_oc (n_iaload (by decide +kernel)) <|
  nv_oc (n_iret (by decide +kernel) rfl) <|
  nv_oc (n_aload_n (k := 0) (by decide +kernel)) <|
  nv_oc (n_getfield (idx := 23) (ci := 6) (k := 7) (N := 16) (D := RX6) (T := TX6) (by decide +kernel) rfl i_X6 (by decide) (by decide) f_X6_23) <|
  nv_oc (n_iconst (z := 2) (by decide +kernel)) <|
  nv_oc (n_iload_n (k := 1) (by decide +kernel)) <|
  nv_oc (n_iadd (by decide +kernel)) <|
  nv_oc (n_iaload (by decide +kernel)) <|
  nv_oc (n_iret (by decide +kernel) rfl) <|
  nv_oc (n_aload_n (k := 0) (by decide +kernel)) <|
  nv_oc (n_getfield (idx := 23) (ci := 6) (k := 7) (N := 16) (D := RX6) (T := TX6) (by decide +kernel) rfl i_X6 (by decide) (by decide) f_X6_23) <|
  nv_oc (n_iload_n (k := 1) (by decide +kernel)) <|
  nv_oc (n_static (M' := M_X6_sittersOn) (idx := 60) (n := 2) (by decide +kernel) fn_X6_sittersOn st_X6_sittersOn l_X6_60 ⟨by decide, by decide⟩) <|
  nv_oc (n_iret (by decide +kernel) rfl) <|
  nv_oc (n_aload_n (k := 0) (by decide +kernel)) <|
  nv_oc (n_iload_n (k := 1) (by decide +kernel)) <|
  nv_oc (n_virtual (M' := M_X6_cutsOn) (idx := 63) (n := 1) (ci := 6) (N := 16) (D := RX6) (T := TX6) (by decide +kernel) fn_X6_cutsOn fv_X6_cutsOn rfl rfl l_X6_63 ⟨by decide, by decide⟩) <|
  nv_oc (n_iret (by decide +kernel) rfl) <|
  nv_oc (n_iconst (z := -1) (by decide +kernel)) <|
  nv_oc (n_iret (by decide +kernel) rfl) <|
  nv_on
def M_X6_at : nv_MD := (RX6, yX6_at, cX6_at, 3, (some .int), 2, 43)
theorem fn_X6_at : nv_fn M_X6_at 2 := ⟨List.mem_of_getElem? (i := 845) (by decide +kernel), List.mem_of_getElem? (i := 50) (by decide +kernel), by decide +kernel⟩
theorem fv_X6_at : nv_fnV M_X6_at := ⟨List.mem_of_getElem? (i := 843) (by decide +kernel), List.mem_of_getElem? (i := 844) (by decide +kernel)⟩
def P_X6_at : nv_Pg := [(0, s_al 0 1), (1, s_il 1 2), (2, s_cv 6 M_X6_isSawyer 1 5), (5, s_if c_eq 8 10), (8, s_ki (-1) 9), (9, s_ir), (10, s_il 2 11), (11, s_sw 0 79 [40, 50, 60, 70]), (40, s_al 0 41), (41, s_gf 6 7 44), (44, s_ki (29) 46), (46, s_il 1 47), (47, s_add 48), (48, s_ia 49), (49, s_ir), (50, s_al 0 51), (51, s_gf 6 7 54), (54, s_ki (7) 56), (56, s_il 1 57), (57, s_add 58), (58, s_ia 59), (59, s_ir), (60, s_al 0 61), (61, s_gf 6 7 64), (64, s_ki (12) 66), (66, s_il 1 67), (67, s_add 68), (68, s_ia 69), (69, s_ir), (70, s_al 0 71), (71, s_gf 6 7 74), (74, s_il 1 75), (75, s_cs M_X6_cuts 2 78), (78, s_ir), (79, s_ki (-1) 80), (80, s_ir)]
set_option maxRecDepth 100000 in
set_option maxHeartbeats 4000000 in
theorem ok_X6_at : nv_ok_P M_X6_at P_X6_at :=
  nv_oc (n_aload_n (k := 0) (by decide +kernel)) <|
  nv_oc (n_iload_n (k := 1) (by decide +kernel)) <|
  nv_oc (n_virtual (M' := M_X6_isSawyer) (idx := 67) (n := 1) (ci := 6) (N := 16) (D := RX6) (T := TX6) (by decide +kernel) fn_X6_isSawyer fv_X6_isSawyer rfl rfl l_X6_67 ⟨by decide, by decide⟩) <|
  nv_oc (n_if_ne (off := 5) (tgt := 10) (by decide +kernel) (by decide)) <|
  nv_oc (n_iconst (z := -1) (by decide +kernel)) <|
  nv_oc (n_iret (by decide +kernel) rfl) <|
  nv_oc (n_iload_n (k := 2) (by decide +kernel)) <|
  nv_oc (n_tableswitch (dflt := 68) (lo := 0) (hi := 3) (offs := #[29, 39, 49, 59]) (len := 29) (df := 79) (ts := [40, 50, 60, 70]) (by decide +kernel) (by decide) (by decide) (by decide)) <|
  nv_oc (n_aload_n (k := 0) (by decide +kernel)) <|
  nv_oc (n_getfield (idx := 23) (ci := 6) (k := 7) (N := 16) (D := RX6) (T := TX6) (by decide +kernel) rfl i_X6 (by decide) (by decide) f_X6_23) <|
  nv_oc (n_bipush (z := 29) (by decide +kernel) (by decide)) <|
  nv_oc (n_iload_n (k := 1) (by decide +kernel)) <|
  nv_oc (n_iadd (by decide +kernel)) <|
  nv_oc (n_iaload (by decide +kernel)) <|
  nv_oc (n_iret (by decide +kernel) rfl) <|
  nv_oc (n_aload_n (k := 0) (by decide +kernel)) <|
  nv_oc (n_getfield (idx := 23) (ci := 6) (k := 7) (N := 16) (D := RX6) (T := TX6) (by decide +kernel) rfl i_X6 (by decide) (by decide) f_X6_23) <|
  nv_oc (n_bipush (z := 7) (by decide +kernel) (by decide)) <|
  nv_oc (n_iload_n (k := 1) (by decide +kernel)) <|
  nv_oc (n_iadd (by decide +kernel)) <|
  nv_oc (n_iaload (by decide +kernel)) <|
  nv_oc (n_iret (by decide +kernel) rfl) <|
  nv_oc (n_aload_n (k := 0) (by decide +kernel)) <|
  nv_oc (n_getfield (idx := 23) (ci := 6) (k := 7) (N := 16) (D := RX6) (T := TX6) (by decide +kernel) rfl i_X6 (by decide) (by decide) f_X6_23) <|
  nv_oc (n_bipush (z := 12) (by decide +kernel) (by decide)) <|
  nv_oc (n_iload_n (k := 1) (by decide +kernel)) <|
  nv_oc (n_iadd (by decide +kernel)) <|
  nv_oc (n_iaload (by decide +kernel)) <|
  nv_oc (n_iret (by decide +kernel) rfl) <|
  nv_oc (n_aload_n (k := 0) (by decide +kernel)) <|
  nv_oc (n_getfield (idx := 23) (ci := 6) (k := 7) (N := 16) (D := RX6) (T := TX6) (by decide +kernel) rfl i_X6 (by decide) (by decide) f_X6_23) <|
  nv_oc (n_iload_n (k := 1) (by decide +kernel)) <|
  nv_oc (n_static (M' := M_X6_cuts) (idx := 52) (n := 2) (by decide +kernel) fn_X6_cuts st_X6_cuts l_X6_52 ⟨by decide, by decide⟩) <|
  nv_oc (n_iret (by decide +kernel) rfl) <|
  nv_oc (n_iconst (z := -1) (by decide +kernel)) <|
  nv_oc (n_iret (by decide +kernel) rfl) <|
  nv_on
def M_X6_type : nv_MD := (RX6, yX6_type, cX6_type, 2, (some .int), 1, 22)
theorem fn_X6_type : nv_fn M_X6_type 1 := ⟨List.mem_of_getElem? (i := 853) (by decide +kernel), List.mem_of_getElem? (i := 50) (by decide +kernel), by decide +kernel⟩
theorem fv_X6_type : nv_fnV M_X6_type := ⟨List.mem_of_getElem? (i := 851) (by decide +kernel), List.mem_of_getElem? (i := 852) (by decide +kernel)⟩
def P_X6_type : nv_Pg := [(0, s_il 1 1), (1, s_ki (32) 3), (3, s_ki (126) 5), (5, s_cs M_X6_in 3 8), (8, s_if c_eq 11 13), (11, s_ki (-1) 12), (12, s_ir), (13, s_al 0 14), (14, s_gf 6 3 17), (17, s_ki (80) 19), (19, s_ic c_eq 22 25), (22, s_ki (-3) 24), (24, s_ir), (25, s_al 0 26), (26, s_gf 6 4 29), (29, s_al 0 30), (30, s_gf 6 3 33), (33, s_il 1 34), (34, s_iw 35), (35, s_al 0 36), (36, s_dup 37), (37, s_gf 6 3 40), (40, s_ki (1) 41), (41, s_add 42), (42, s_pf 6 3 45), (45, s_al 0 46), (46, s_gf 6 3 49), (49, s_ir)]
set_option maxRecDepth 100000 in
set_option maxHeartbeats 4000000 in
theorem ok_X6_type : nv_ok_P M_X6_type P_X6_type :=
  nv_oc (n_iload_n (k := 1) (by decide +kernel)) <|
  nv_oc (n_bipush (z := 32) (by decide +kernel) (by decide)) <|
  nv_oc (n_bipush (z := 126) (by decide +kernel) (by decide)) <|
  nv_oc (n_static (M' := M_X6_in) (idx := 41) (n := 3) (by decide +kernel) fn_X6_in st_X6_in l_X6_41 ⟨by decide, by decide⟩) <|
  nv_oc (n_if_ne (off := 5) (tgt := 13) (by decide +kernel) (by decide)) <|
  nv_oc (n_iconst (z := -1) (by decide +kernel)) <|
  nv_oc (n_iret (by decide +kernel) rfl) <|
  nv_oc (n_aload_n (k := 0) (by decide +kernel)) <|
  nv_oc (n_getfield (idx := 70) (ci := 6) (k := 3) (N := 16) (D := RX6) (T := TX6) (by decide +kernel) rfl i_X6 (by decide) (by decide) f_X6_70) <|
  nv_oc (n_bipush (z := 80) (by decide +kernel) (by decide)) <|
  nv_oc (n_icmp_ne (off := 6) (tgt := 25) (by decide +kernel) (by decide)) <|
  nv_oc (n_bipush (z := -3) (by decide +kernel) (by decide)) <|
  nv_oc (n_iret (by decide +kernel) rfl) <|
  nv_oc (n_aload_n (k := 0) (by decide +kernel)) <|
  nv_oc (n_getfield (idx := 20) (ci := 6) (k := 4) (N := 16) (D := RX6) (T := TX6) (by decide +kernel) rfl i_X6 (by decide) (by decide) f_X6_20) <|
  nv_oc (n_aload_n (k := 0) (by decide +kernel)) <|
  nv_oc (n_getfield (idx := 70) (ci := 6) (k := 3) (N := 16) (D := RX6) (T := TX6) (by decide +kernel) rfl i_X6 (by decide) (by decide) f_X6_70) <|
  nv_oc (n_iload_n (k := 1) (by decide +kernel)) <|
  nv_oc (n_iastore (by decide +kernel)) <|
  nv_oc (n_aload_n (k := 0) (by decide +kernel)) <|
  nv_oc (n_dup (by decide +kernel)) <|
  nv_oc (n_getfield (idx := 70) (ci := 6) (k := 3) (N := 16) (D := RX6) (T := TX6) (by decide +kernel) rfl i_X6 (by decide) (by decide) f_X6_70) <|
  nv_oc (n_iconst (z := 1) (by decide +kernel)) <|
  nv_oc (n_iadd (by decide +kernel)) <|
  nv_oc (n_putfield (idx := 70) (ci := 6) (k := 3) (N := 16) (D := RX6) (T := TX6) tyX6 tyX6_ok nmX6 (by decide +kernel) rfl i_X6 (by decide) (by decide) rfl f_X6_70 rfl) <|
  nv_oc (n_aload_n (k := 0) (by decide +kernel)) <|
  nv_oc (n_getfield (idx := 70) (ci := 6) (k := 3) (N := 16) (D := RX6) (T := TX6) (by decide +kernel) rfl i_X6 (by decide) (by decide) f_X6_70) <|
  nv_oc (n_iret (by decide +kernel) rfl) <|
  nv_on
def M_X6_peek : nv_MD := (RX6, yX6_peek, cX6_peek, 1, (some .int), 0, 0)
theorem fn_X6_peek : nv_fn M_X6_peek 0 := ⟨List.mem_of_getElem? (i := 877) (by decide +kernel), List.mem_of_getElem? (i := 50) (by decide +kernel), by decide +kernel⟩
theorem fv_X6_peek : nv_fnV M_X6_peek := ⟨List.mem_of_getElem? (i := 876) (by decide +kernel), List.mem_of_getElem? (i := 29) (by decide +kernel)⟩
def P_X6_peek : nv_Pg := [(0, s_al 0 1), (1, s_gf 6 5 4), (4, s_al 0 5), (5, s_gf 6 3 8), (8, s_ic c_ge 38 11), (11, s_al 0 12), (12, s_gf 6 4 15), (15, s_al 0 16), (16, s_gf 6 5 19), (19, s_ia 20), (20, s_ki (32) 22), (22, s_ic c_eq 25 38), (25, s_al 0 26), (26, s_dup 27), (27, s_gf 6 5 30), (30, s_ki (1) 31), (31, s_add 32), (32, s_pf 6 5 35), (35, s_go 0), (38, s_al 0 39), (39, s_gf 6 5 42), (42, s_al 0 43), (43, s_gf 6 3 46), (46, s_ic c_ge 61 49), (49, s_al 0 50), (50, s_gf 6 4 53), (53, s_al 0 54), (54, s_gf 6 5 57), (57, s_ia 58), (58, s_go 62), (61, s_ki (0) 62), (62, s_ir)]
set_option maxRecDepth 100000 in
set_option maxHeartbeats 4000000 in
theorem ok_X6_peek : nv_ok_P M_X6_peek P_X6_peek :=
  nv_oc (n_aload_n (k := 0) (by decide +kernel)) <|
  nv_oc (n_getfield (idx := 74) (ci := 6) (k := 5) (N := 16) (D := RX6) (T := TX6) (by decide +kernel) rfl i_X6 (by decide) (by decide) f_X6_74) <|
  nv_oc (n_aload_n (k := 0) (by decide +kernel)) <|
  nv_oc (n_getfield (idx := 70) (ci := 6) (k := 3) (N := 16) (D := RX6) (T := TX6) (by decide +kernel) rfl i_X6 (by decide) (by decide) f_X6_70) <|
  nv_oc (n_icmp_ge (off := 30) (tgt := 38) (by decide +kernel) (by decide)) <|
  nv_oc (n_aload_n (k := 0) (by decide +kernel)) <|
  nv_oc (n_getfield (idx := 20) (ci := 6) (k := 4) (N := 16) (D := RX6) (T := TX6) (by decide +kernel) rfl i_X6 (by decide) (by decide) f_X6_20) <|
  nv_oc (n_aload_n (k := 0) (by decide +kernel)) <|
  nv_oc (n_getfield (idx := 74) (ci := 6) (k := 5) (N := 16) (D := RX6) (T := TX6) (by decide +kernel) rfl i_X6 (by decide) (by decide) f_X6_74) <|
  nv_oc (n_iaload (by decide +kernel)) <|
  nv_oc (n_bipush (z := 32) (by decide +kernel) (by decide)) <|
  nv_oc (n_icmp_ne (off := 16) (tgt := 38) (by decide +kernel) (by decide)) <|
  nv_oc (n_aload_n (k := 0) (by decide +kernel)) <|
  nv_oc (n_dup (by decide +kernel)) <|
  nv_oc (n_getfield (idx := 74) (ci := 6) (k := 5) (N := 16) (D := RX6) (T := TX6) (by decide +kernel) rfl i_X6 (by decide) (by decide) f_X6_74) <|
  nv_oc (n_iconst (z := 1) (by decide +kernel)) <|
  nv_oc (n_iadd (by decide +kernel)) <|
  nv_oc (n_putfield (idx := 74) (ci := 6) (k := 5) (N := 16) (D := RX6) (T := TX6) tyX6 tyX6_ok nmX6 (by decide +kernel) rfl i_X6 (by decide) (by decide) rfl f_X6_74 rfl) <|
  nv_oc (n_goto (off := -35) (tgt := 0) (by decide +kernel) (by decide)) <|
  nv_oc (n_aload_n (k := 0) (by decide +kernel)) <|
  nv_oc (n_getfield (idx := 74) (ci := 6) (k := 5) (N := 16) (D := RX6) (T := TX6) (by decide +kernel) rfl i_X6 (by decide) (by decide) f_X6_74) <|
  nv_oc (n_aload_n (k := 0) (by decide +kernel)) <|
  nv_oc (n_getfield (idx := 70) (ci := 6) (k := 3) (N := 16) (D := RX6) (T := TX6) (by decide +kernel) rfl i_X6 (by decide) (by decide) f_X6_70) <|
  nv_oc (n_icmp_ge (off := 15) (tgt := 61) (by decide +kernel) (by decide)) <|
  nv_oc (n_aload_n (k := 0) (by decide +kernel)) <|
  nv_oc (n_getfield (idx := 20) (ci := 6) (k := 4) (N := 16) (D := RX6) (T := TX6) (by decide +kernel) rfl i_X6 (by decide) (by decide) f_X6_20) <|
  nv_oc (n_aload_n (k := 0) (by decide +kernel)) <|
  nv_oc (n_getfield (idx := 74) (ci := 6) (k := 5) (N := 16) (D := RX6) (T := TX6) (by decide +kernel) rfl i_X6 (by decide) (by decide) f_X6_74) <|
  nv_oc (n_iaload (by decide +kernel)) <|
  nv_oc (n_goto (off := 4) (tgt := 62) (by decide +kernel) (by decide)) <|
  nv_oc (n_iconst (z := 0) (by decide +kernel)) <|
  nv_oc (n_iret (by decide +kernel) rfl) <|
  nv_on
def M_X6_isSign : nv_MD := (RX6, yX6_isSign, cX6_isSign, 2, (some .boolean), 1, 20)
theorem fn_X6_isSign : nv_fn M_X6_isSign 1 := ⟨List.mem_of_getElem? (i := 881) (by decide +kernel), List.mem_of_getElem? (i := 50) (by decide +kernel), by decide +kernel⟩
theorem fv_X6_isSign : nv_fnV M_X6_isSign := ⟨List.mem_of_getElem? (i := 880) (by decide +kernel), List.mem_of_getElem? (i := 30) (by decide +kernel)⟩
def P_X6_isSign : nv_Pg := [(0, s_al 0 1), (1, s_cv 6 M_X6_peek 0 4), (4, s_il 1 5), (5, s_ic c_eq 10 8), (8, s_ki (0) 9), (9, s_zr), (10, s_al 0 11), (11, s_dup 12), (12, s_gf 6 5 15), (15, s_ki (1) 16), (16, s_add 17), (17, s_pf 6 5 20), (20, s_ki (1) 21), (21, s_zr)]
set_option maxRecDepth 100000 in
set_option maxHeartbeats 4000000 in
theorem ok_X6_isSign : nv_ok_P M_X6_isSign P_X6_isSign :=
  nv_oc (n_aload_n (k := 0) (by decide +kernel)) <|
  nv_oc (n_virtual (M' := M_X6_peek) (idx := 77) (n := 0) (ci := 6) (N := 16) (D := RX6) (T := TX6) (by decide +kernel) fn_X6_peek fv_X6_peek rfl rfl l_X6_77 ⟨by decide, by decide⟩) <|
  nv_oc (n_iload_n (k := 1) (by decide +kernel)) <|
  nv_oc (n_icmp_eq (off := 5) (tgt := 10) (by decide +kernel) (by decide)) <|
  nv_oc (n_iconst (z := 0) (by decide +kernel)) <|
  nv_oc (n_zret (by decide +kernel) rfl) <|
  nv_oc (n_aload_n (k := 0) (by decide +kernel)) <|
  nv_oc (n_dup (by decide +kernel)) <|
  nv_oc (n_getfield (idx := 74) (ci := 6) (k := 5) (N := 16) (D := RX6) (T := TX6) (by decide +kernel) rfl i_X6 (by decide) (by decide) f_X6_74) <|
  nv_oc (n_iconst (z := 1) (by decide +kernel)) <|
  nv_oc (n_iadd (by decide +kernel)) <|
  nv_oc (n_putfield (idx := 74) (ci := 6) (k := 5) (N := 16) (D := RX6) (T := TX6) tyX6 tyX6_ok nmX6 (by decide +kernel) rfl i_X6 (by decide) (by decide) rfl f_X6_74 rfl) <|
  nv_oc (n_iconst (z := 1) (by decide +kernel)) <|
  nv_oc (n_zret (by decide +kernel) rfl) <|
  nv_on
def M_X6_isDigit : nv_MD := (RX6, yX6_isDigit, cX6_isDigit, 3, (some .boolean), 1, 22)
theorem fn_X6_isDigit : nv_fn M_X6_isDigit 2 := ⟨List.mem_of_getElem? (i := 873) (by decide +kernel), List.mem_of_getElem? (i := 50) (by decide +kernel), by decide +kernel⟩
theorem fv_X6_isDigit : nv_fnV M_X6_isDigit := ⟨List.mem_of_getElem? (i := 872) (by decide +kernel), List.mem_of_getElem? (i := 28) (by decide +kernel)⟩
def P_X6_isDigit : nv_Pg := [(0, s_al 0 1), (1, s_al 0 2), (2, s_cv 6 M_X6_peek 0 5), (5, s_ki (48) 7), (7, s_sub 8), (8, s_pf 6 6 11), (11, s_al 0 12), (12, s_gf 6 6 15), (15, s_il 1 16), (16, s_il 2 17), (17, s_cs M_X6_in 3 20), (20, s_if c_eq 23 25), (23, s_ki (0) 24), (24, s_zr), (25, s_al 0 26), (26, s_dup 27), (27, s_gf 6 5 30), (30, s_ki (1) 31), (31, s_add 32), (32, s_pf 6 5 35), (35, s_ki (1) 36), (36, s_zr)]
set_option maxRecDepth 100000 in
set_option maxHeartbeats 4000000 in
theorem ok_X6_isDigit : nv_ok_P M_X6_isDigit P_X6_isDigit :=
  nv_oc (n_aload_n (k := 0) (by decide +kernel)) <|
  nv_oc (n_aload_n (k := 0) (by decide +kernel)) <|
  nv_oc (n_virtual (M' := M_X6_peek) (idx := 77) (n := 0) (ci := 6) (N := 16) (D := RX6) (T := TX6) (by decide +kernel) fn_X6_peek fv_X6_peek rfl rfl l_X6_77 ⟨by decide, by decide⟩) <|
  nv_oc (n_bipush (z := 48) (by decide +kernel) (by decide)) <|
  nv_oc (n_isub (by decide +kernel)) <|
  nv_oc (n_putfield (idx := 81) (ci := 6) (k := 6) (N := 16) (D := RX6) (T := TX6) tyX6 tyX6_ok nmX6 (by decide +kernel) rfl i_X6 (by decide) (by decide) rfl f_X6_81 rfl) <|
  nv_oc (n_aload_n (k := 0) (by decide +kernel)) <|
  nv_oc (n_getfield (idx := 81) (ci := 6) (k := 6) (N := 16) (D := RX6) (T := TX6) (by decide +kernel) rfl i_X6 (by decide) (by decide) f_X6_81) <|
  nv_oc (n_iload_n (k := 1) (by decide +kernel)) <|
  nv_oc (n_iload_n (k := 2) (by decide +kernel)) <|
  nv_oc (n_static (M' := M_X6_in) (idx := 41) (n := 3) (by decide +kernel) fn_X6_in st_X6_in l_X6_41 ⟨by decide, by decide⟩) <|
  nv_oc (n_if_ne (off := 5) (tgt := 25) (by decide +kernel) (by decide)) <|
  nv_oc (n_iconst (z := 0) (by decide +kernel)) <|
  nv_oc (n_zret (by decide +kernel) rfl) <|
  nv_oc (n_aload_n (k := 0) (by decide +kernel)) <|
  nv_oc (n_dup (by decide +kernel)) <|
  nv_oc (n_getfield (idx := 74) (ci := 6) (k := 5) (N := 16) (D := RX6) (T := TX6) (by decide +kernel) rfl i_X6 (by decide) (by decide) f_X6_74) <|
  nv_oc (n_iconst (z := 1) (by decide +kernel)) <|
  nv_oc (n_iadd (by decide +kernel)) <|
  nv_oc (n_putfield (idx := 74) (ci := 6) (k := 5) (N := 16) (D := RX6) (T := TX6) tyX6 tyX6_ok nmX6 (by decide +kernel) rfl i_X6 (by decide) (by decide) rfl f_X6_74 rfl) <|
  nv_oc (n_iconst (z := 1) (by decide +kernel)) <|
  nv_oc (n_zret (by decide +kernel) rfl) <|
  nv_on
def M_X6_isNumber : nv_MD := (RX6, yX6_isNumber, cX6_isNumber, 5, (some .boolean), 2, 44)
theorem fn_X6_isNumber : nv_fn M_X6_isNumber 2 := ⟨List.mem_of_getElem? (i := 869) (by decide +kernel), List.mem_of_getElem? (i := 50) (by decide +kernel), by decide +kernel⟩
theorem fv_X6_isNumber : nv_fnV M_X6_isNumber := ⟨List.mem_of_getElem? (i := 868) (by decide +kernel), List.mem_of_getElem? (i := 27) (by decide +kernel)⟩
def P_X6_isNumber : nv_Pg := [(0, s_al 0 1), (1, s_ki (0) 2), (2, s_ki (9) 4), (4, s_cv 6 M_X6_isDigit 2 7), (7, s_if c_eq 10 12), (10, s_ki (0) 11), (11, s_zr), (12, s_al 0 13), (13, s_gf 6 5 16), (16, s_ki (1) 17), (17, s_sub 18), (18, s_is 3 19), (19, s_al 0 20), (20, s_gf 6 6 23), (23, s_is 4 25), (25, s_al 0 26), (26, s_gf 6 5 29), (29, s_al 0 30), (30, s_gf 6 3 33), (33, s_ic c_ge 85 36), (36, s_al 0 37), (37, s_gf 6 4 40), (40, s_al 0 41), (41, s_gf 6 5 44), (44, s_ia 45), (45, s_ki (48) 47), (47, s_ki (57) 49), (49, s_cs M_X6_in 3 52), (52, s_if c_eq 85 55), (55, s_ki (10) 57), (57, s_il 4 59), (59, s_mul 60), (60, s_al 0 61), (61, s_gf 6 4 64), (64, s_al 0 65), (65, s_gf 6 5 68), (68, s_ia 69), (69, s_add 70), (70, s_ki (48) 72), (72, s_sub 73), (73, s_is 4 75), (75, s_al 0 76), (76, s_dup 77), (77, s_gf 6 5 80), (80, s_ki (1) 81), (81, s_add 82), (82, s_pf 6 5 85), (85, s_al 0 86), (86, s_il 4 88), (88, s_pf 6 6 91), (91, s_il 4 93), (93, s_il 1 94), (94, s_il 2 95), (95, s_cs M_X6_in 3 98), (98, s_if c_eq 101 108), (101, s_al 0 102), (102, s_il 3 103), (103, s_pf 6 5 106), (106, s_ki (0) 107), (107, s_zr), (108, s_al 0 109), (109, s_gf 6 5 112), (112, s_al 0 113), (113, s_gf 6 3 116), (116, s_ic c_eq 138 119), (119, s_al 0 120), (120, s_gf 6 4 123), (123, s_al 0 124), (124, s_gf 6 5 127), (127, s_ia 128), (128, s_ki (48) 130), (130, s_ki (57) 132), (132, s_cs M_X6_in 3 135), (135, s_if c_eq 138 142), (138, s_ki (1) 139), (139, s_go 143), (142, s_ki (0) 143), (143, s_zr)]
set_option maxRecDepth 100000 in
set_option maxHeartbeats 4000000 in
theorem ok_X6_isNumber : nv_ok_P M_X6_isNumber P_X6_isNumber :=
  nv_oc (n_aload_n (k := 0) (by decide +kernel)) <|
  nv_oc (n_iconst (z := 0) (by decide +kernel)) <|
  nv_oc (n_bipush (z := 9) (by decide +kernel) (by decide)) <|
  nv_oc (n_virtual (M' := M_X6_isDigit) (idx := 84) (n := 2) (ci := 6) (N := 16) (D := RX6) (T := TX6) (by decide +kernel) fn_X6_isDigit fv_X6_isDigit rfl rfl l_X6_84 ⟨by decide, by decide⟩) <|
  nv_oc (n_if_ne (off := 5) (tgt := 12) (by decide +kernel) (by decide)) <|
  nv_oc (n_iconst (z := 0) (by decide +kernel)) <|
  nv_oc (n_zret (by decide +kernel) rfl) <|
  nv_oc (n_aload_n (k := 0) (by decide +kernel)) <|
  nv_oc (n_getfield (idx := 74) (ci := 6) (k := 5) (N := 16) (D := RX6) (T := TX6) (by decide +kernel) rfl i_X6 (by decide) (by decide) f_X6_74) <|
  nv_oc (n_iconst (z := 1) (by decide +kernel)) <|
  nv_oc (n_isub (by decide +kernel)) <|
  nv_oc (n_istore_n (k := 3) (by decide +kernel) (by decide)) <|
  nv_oc (n_aload_n (k := 0) (by decide +kernel)) <|
  nv_oc (n_getfield (idx := 81) (ci := 6) (k := 6) (N := 16) (D := RX6) (T := TX6) (by decide +kernel) rfl i_X6 (by decide) (by decide) f_X6_81) <|
  nv_oc (n_istore (k := 4) (by decide +kernel) (by decide)) <|
  nv_oc (n_aload_n (k := 0) (by decide +kernel)) <|
  nv_oc (n_getfield (idx := 74) (ci := 6) (k := 5) (N := 16) (D := RX6) (T := TX6) (by decide +kernel) rfl i_X6 (by decide) (by decide) f_X6_74) <|
  nv_oc (n_aload_n (k := 0) (by decide +kernel)) <|
  nv_oc (n_getfield (idx := 70) (ci := 6) (k := 3) (N := 16) (D := RX6) (T := TX6) (by decide +kernel) rfl i_X6 (by decide) (by decide) f_X6_70) <|
  nv_oc (n_icmp_ge (off := 52) (tgt := 85) (by decide +kernel) (by decide)) <|
  nv_oc (n_aload_n (k := 0) (by decide +kernel)) <|
  nv_oc (n_getfield (idx := 20) (ci := 6) (k := 4) (N := 16) (D := RX6) (T := TX6) (by decide +kernel) rfl i_X6 (by decide) (by decide) f_X6_20) <|
  nv_oc (n_aload_n (k := 0) (by decide +kernel)) <|
  nv_oc (n_getfield (idx := 74) (ci := 6) (k := 5) (N := 16) (D := RX6) (T := TX6) (by decide +kernel) rfl i_X6 (by decide) (by decide) f_X6_74) <|
  nv_oc (n_iaload (by decide +kernel)) <|
  nv_oc (n_bipush (z := 48) (by decide +kernel) (by decide)) <|
  nv_oc (n_bipush (z := 57) (by decide +kernel) (by decide)) <|
  nv_oc (n_static (M' := M_X6_in) (idx := 41) (n := 3) (by decide +kernel) fn_X6_in st_X6_in l_X6_41 ⟨by decide, by decide⟩) <|
  nv_oc (n_if_eq (off := 33) (tgt := 85) (by decide +kernel) (by decide)) <|
  nv_oc (n_bipush (z := 10) (by decide +kernel) (by decide)) <|
  nv_oc (n_iload (k := 4) (by decide +kernel)) <|
  nv_oc (n_imul (by decide +kernel)) <|
  nv_oc (n_aload_n (k := 0) (by decide +kernel)) <|
  nv_oc (n_getfield (idx := 20) (ci := 6) (k := 4) (N := 16) (D := RX6) (T := TX6) (by decide +kernel) rfl i_X6 (by decide) (by decide) f_X6_20) <|
  nv_oc (n_aload_n (k := 0) (by decide +kernel)) <|
  nv_oc (n_getfield (idx := 74) (ci := 6) (k := 5) (N := 16) (D := RX6) (T := TX6) (by decide +kernel) rfl i_X6 (by decide) (by decide) f_X6_74) <|
  nv_oc (n_iaload (by decide +kernel)) <|
  nv_oc (n_iadd (by decide +kernel)) <|
  nv_oc (n_bipush (z := 48) (by decide +kernel) (by decide)) <|
  nv_oc (n_isub (by decide +kernel)) <|
  nv_oc (n_istore (k := 4) (by decide +kernel) (by decide)) <|
  nv_oc (n_aload_n (k := 0) (by decide +kernel)) <|
  nv_oc (n_dup (by decide +kernel)) <|
  nv_oc (n_getfield (idx := 74) (ci := 6) (k := 5) (N := 16) (D := RX6) (T := TX6) (by decide +kernel) rfl i_X6 (by decide) (by decide) f_X6_74) <|
  nv_oc (n_iconst (z := 1) (by decide +kernel)) <|
  nv_oc (n_iadd (by decide +kernel)) <|
  nv_oc (n_putfield (idx := 74) (ci := 6) (k := 5) (N := 16) (D := RX6) (T := TX6) tyX6 tyX6_ok nmX6 (by decide +kernel) rfl i_X6 (by decide) (by decide) rfl f_X6_74 rfl) <|
  nv_oc (n_aload_n (k := 0) (by decide +kernel)) <|
  nv_oc (n_iload (k := 4) (by decide +kernel)) <|
  nv_oc (n_putfield (idx := 81) (ci := 6) (k := 6) (N := 16) (D := RX6) (T := TX6) tyX6 tyX6_ok nmX6 (by decide +kernel) rfl i_X6 (by decide) (by decide) rfl f_X6_81 rfl) <|
  nv_oc (n_iload (k := 4) (by decide +kernel)) <|
  nv_oc (n_iload_n (k := 1) (by decide +kernel)) <|
  nv_oc (n_iload_n (k := 2) (by decide +kernel)) <|
  nv_oc (n_static (M' := M_X6_in) (idx := 41) (n := 3) (by decide +kernel) fn_X6_in st_X6_in l_X6_41 ⟨by decide, by decide⟩) <|
  nv_oc (n_if_ne (off := 10) (tgt := 108) (by decide +kernel) (by decide)) <|
  nv_oc (n_aload_n (k := 0) (by decide +kernel)) <|
  nv_oc (n_iload_n (k := 3) (by decide +kernel)) <|
  nv_oc (n_putfield (idx := 74) (ci := 6) (k := 5) (N := 16) (D := RX6) (T := TX6) tyX6 tyX6_ok nmX6 (by decide +kernel) rfl i_X6 (by decide) (by decide) rfl f_X6_74 rfl) <|
  nv_oc (n_iconst (z := 0) (by decide +kernel)) <|
  nv_oc (n_zret (by decide +kernel) rfl) <|
  nv_oc (n_aload_n (k := 0) (by decide +kernel)) <|
  nv_oc (n_getfield (idx := 74) (ci := 6) (k := 5) (N := 16) (D := RX6) (T := TX6) (by decide +kernel) rfl i_X6 (by decide) (by decide) f_X6_74) <|
  nv_oc (n_aload_n (k := 0) (by decide +kernel)) <|
  nv_oc (n_getfield (idx := 70) (ci := 6) (k := 3) (N := 16) (D := RX6) (T := TX6) (by decide +kernel) rfl i_X6 (by decide) (by decide) f_X6_70) <|
  nv_oc (n_icmp_eq (off := 22) (tgt := 138) (by decide +kernel) (by decide)) <|
  nv_oc (n_aload_n (k := 0) (by decide +kernel)) <|
  nv_oc (n_getfield (idx := 20) (ci := 6) (k := 4) (N := 16) (D := RX6) (T := TX6) (by decide +kernel) rfl i_X6 (by decide) (by decide) f_X6_20) <|
  nv_oc (n_aload_n (k := 0) (by decide +kernel)) <|
  nv_oc (n_getfield (idx := 74) (ci := 6) (k := 5) (N := 16) (D := RX6) (T := TX6) (by decide +kernel) rfl i_X6 (by decide) (by decide) f_X6_74) <|
  nv_oc (n_iaload (by decide +kernel)) <|
  nv_oc (n_bipush (z := 48) (by decide +kernel) (by decide)) <|
  nv_oc (n_bipush (z := 57) (by decide +kernel) (by decide)) <|
  nv_oc (n_static (M' := M_X6_in) (idx := 41) (n := 3) (by decide +kernel) fn_X6_in st_X6_in l_X6_41 ⟨by decide, by decide⟩) <|
  nv_oc (n_if_ne (off := 7) (tgt := 142) (by decide +kernel) (by decide)) <|
  nv_oc (n_iconst (z := 1) (by decide +kernel)) <|
  nv_oc (n_goto (off := 4) (tgt := 143) (by decide +kernel) (by decide)) <|
  nv_oc (n_iconst (z := 0) (by decide +kernel)) <|
  nv_oc (n_zret (by decide +kernel) rfl) <|
  nv_on
def M_X6_kindBy : nv_MD := (RX6, yX6_kindBy, cX6_kindBy, 1, (some .int), 0, 0)
theorem fn_X6_kindBy : nv_fn M_X6_kindBy 1 := ⟨List.mem_of_getElem? (i := 888) (by decide +kernel), List.mem_of_getElem? (i := 50) (by decide +kernel), by decide +kernel⟩
theorem st_X6_kindBy : Cond.static (nv_y M_X6_kindBy) ∈ lw_tbl := List.mem_of_getElem? (i := 887) (by decide +kernel)
def P_X6_kindBy : nv_Pg := [(0, s_il 0 1), (1, s_ki (112) 3), (3, s_ic c_eq 6 10), (6, s_ki (0) 7), (7, s_go 51), (10, s_il 0 11), (11, s_ki (111) 13), (13, s_ic c_eq 16 20), (16, s_ki (1) 17), (17, s_go 51), (20, s_il 0 21), (21, s_ki (103) 23), (23, s_ic c_eq 26 30), (26, s_ki (2) 27), (27, s_go 51), (30, s_il 0 31), (31, s_ki (104) 33), (33, s_ic c_eq 36 40), (36, s_ki (3) 37), (37, s_go 51), (40, s_il 0 41), (41, s_ki (115) 43), (43, s_ic c_eq 46 50), (46, s_ki (4) 47), (47, s_go 51), (50, s_ki (-1) 51), (51, s_ir)]
set_option maxRecDepth 100000 in
set_option maxHeartbeats 4000000 in
theorem ok_X6_kindBy : nv_ok_P M_X6_kindBy P_X6_kindBy :=
  nv_oc (n_iload_n (k := 0) (by decide +kernel)) <|
  nv_oc (n_bipush (z := 112) (by decide +kernel) (by decide)) <|
  nv_oc (n_icmp_ne (off := 7) (tgt := 10) (by decide +kernel) (by decide)) <|
  nv_oc (n_iconst (z := 0) (by decide +kernel)) <|
  nv_oc (n_goto (off := 44) (tgt := 51) (by decide +kernel) (by decide)) <|
  nv_oc (n_iload_n (k := 0) (by decide +kernel)) <|
  nv_oc (n_bipush (z := 111) (by decide +kernel) (by decide)) <|
  nv_oc (n_icmp_ne (off := 7) (tgt := 20) (by decide +kernel) (by decide)) <|
  nv_oc (n_iconst (z := 1) (by decide +kernel)) <|
  nv_oc (n_goto (off := 34) (tgt := 51) (by decide +kernel) (by decide)) <|
  nv_oc (n_iload_n (k := 0) (by decide +kernel)) <|
  nv_oc (n_bipush (z := 103) (by decide +kernel) (by decide)) <|
  nv_oc (n_icmp_ne (off := 7) (tgt := 30) (by decide +kernel) (by decide)) <|
  nv_oc (n_iconst (z := 2) (by decide +kernel)) <|
  nv_oc (n_goto (off := 24) (tgt := 51) (by decide +kernel) (by decide)) <|
  nv_oc (n_iload_n (k := 0) (by decide +kernel)) <|
  nv_oc (n_bipush (z := 104) (by decide +kernel) (by decide)) <|
  nv_oc (n_icmp_ne (off := 7) (tgt := 40) (by decide +kernel) (by decide)) <|
  nv_oc (n_iconst (z := 3) (by decide +kernel)) <|
  nv_oc (n_goto (off := 14) (tgt := 51) (by decide +kernel) (by decide)) <|
  nv_oc (n_iload_n (k := 0) (by decide +kernel)) <|
  nv_oc (n_bipush (z := 115) (by decide +kernel) (by decide)) <|
  nv_oc (n_icmp_ne (off := 7) (tgt := 50) (by decide +kernel) (by decide)) <|
  nv_oc (n_iconst (z := 4) (by decide +kernel)) <|
  nv_oc (n_goto (off := 4) (tgt := 51) (by decide +kernel) (by decide)) <|
  nv_oc (n_iconst (z := -1) (by decide +kernel)) <|
  nv_oc (n_iret (by decide +kernel) rfl) <|
  nv_on
def M_X6_isPlankItem : nv_MD := (RX6, yX6_isPlankItem, cX6_isPlankItem, 2, (some .boolean), 3, 68)
theorem fn_X6_isPlankItem : nv_fn M_X6_isPlankItem 0 := ⟨List.mem_of_getElem? (i := 865) (by decide +kernel), List.mem_of_getElem? (i := 50) (by decide +kernel), by decide +kernel⟩
theorem fv_X6_isPlankItem : nv_fnV M_X6_isPlankItem := ⟨List.mem_of_getElem? (i := 864) (by decide +kernel), List.mem_of_getElem? (i := 26) (by decide +kernel)⟩
def P_X6_isPlankItem : nv_Pg := [(0, s_al 0 1), (1, s_ki (1) 2), (2, s_ki (99) 4), (4, s_cv 6 M_X6_isNumber 2 7), (7, s_if c_eq 10 12), (10, s_ki (0) 11), (11, s_zr), (12, s_al 0 13), (13, s_gf 6 9 16), (16, s_al 0 17), (17, s_gf 6 6 20), (20, s_ki (0) 21), (21, s_cs M_X6_addPlank 3 24), (24, s_is 1 25), (25, s_al 0 26), (26, s_ki (37) 28), (28, s_cv 6 M_X6_isSign 1 31), (31, s_if c_eq 59 34), (34, s_al 0 35), (35, s_ki (0) 36), (36, s_ki (9) 38), (38, s_cv 6 M_X6_isDigit 2 41), (41, s_if c_eq 44 46), (44, s_ki (0) 45), (45, s_zr), (46, s_al 0 47), (47, s_gf 6 9 50), (50, s_ki (23) 52), (52, s_il 1 53), (53, s_add 54), (54, s_al 0 55), (55, s_gf 6 6 58), (58, s_iw 59), (59, s_al 0 60), (60, s_ki (45) 62), (62, s_cv 6 M_X6_isSign 1 65), (65, s_if c_eq 102 68), (68, s_al 0 69), (69, s_ki (0) 70), (70, s_al 0 71), (71, s_gf 6 9 74), (74, s_ki (18) 76), (76, s_il 1 77), (77, s_add 78), (78, s_ia 79), (79, s_cv 6 M_X6_isNumber 2 82), (82, s_if c_eq 85 87), (85, s_ki (0) 86), (86, s_zr), (87, s_al 0 88), (88, s_gf 6 9 91), (91, s_ki (2) 92), (92, s_il 1 93), (93, s_add 94), (94, s_dup2 95), (95, s_ia 96), (96, s_al 0 97), (97, s_gf 6 6 100), (100, s_sub 101), (101, s_iw 102), (102, s_ki (1) 103), (103, s_zr)]
set_option maxRecDepth 100000 in
set_option maxHeartbeats 4000000 in
theorem ok_X6_isPlankItem : nv_ok_P M_X6_isPlankItem P_X6_isPlankItem :=
  nv_oc (n_aload_n (k := 0) (by decide +kernel)) <|
  nv_oc (n_iconst (z := 1) (by decide +kernel)) <|
  nv_oc (n_bipush (z := 99) (by decide +kernel) (by decide)) <|
  nv_oc (n_virtual (M' := M_X6_isNumber) (idx := 88) (n := 2) (ci := 6) (N := 16) (D := RX6) (T := TX6) (by decide +kernel) fn_X6_isNumber fv_X6_isNumber rfl rfl l_X6_88 ⟨by decide, by decide⟩) <|
  nv_oc (n_if_ne (off := 5) (tgt := 12) (by decide +kernel) (by decide)) <|
  nv_oc (n_iconst (z := 0) (by decide +kernel)) <|
  nv_oc (n_zret (by decide +kernel) rfl) <|
  nv_oc (n_aload_n (k := 0) (by decide +kernel)) <|
  nv_oc (n_getfield (idx := 29) (ci := 6) (k := 9) (N := 16) (D := RX6) (T := TX6) (by decide +kernel) rfl i_X6 (by decide) (by decide) f_X6_29) <|
  nv_oc (n_aload_n (k := 0) (by decide +kernel)) <|
  nv_oc (n_getfield (idx := 81) (ci := 6) (k := 6) (N := 16) (D := RX6) (T := TX6) (by decide +kernel) rfl i_X6 (by decide) (by decide) f_X6_81) <|
  nv_oc (n_iconst (z := 0) (by decide +kernel)) <|
  nv_oc (n_static (M' := M_X6_addPlank) (idx := 45) (n := 3) (by decide +kernel) fn_X6_addPlank st_X6_addPlank l_X6_45 ⟨by decide, by decide⟩) <|
  nv_oc (n_istore_n (k := 1) (by decide +kernel) (by decide)) <|
  nv_oc (n_aload_n (k := 0) (by decide +kernel)) <|
  nv_oc (n_bipush (z := 37) (by decide +kernel) (by decide)) <|
  nv_oc (n_virtual (M' := M_X6_isSign) (idx := 91) (n := 1) (ci := 6) (N := 16) (D := RX6) (T := TX6) (by decide +kernel) fn_X6_isSign fv_X6_isSign rfl rfl l_X6_91 ⟨by decide, by decide⟩) <|
  nv_oc (n_if_eq (off := 28) (tgt := 59) (by decide +kernel) (by decide)) <|
  nv_oc (n_aload_n (k := 0) (by decide +kernel)) <|
  nv_oc (n_iconst (z := 0) (by decide +kernel)) <|
  nv_oc (n_bipush (z := 9) (by decide +kernel) (by decide)) <|
  nv_oc (n_virtual (M' := M_X6_isDigit) (idx := 84) (n := 2) (ci := 6) (N := 16) (D := RX6) (T := TX6) (by decide +kernel) fn_X6_isDigit fv_X6_isDigit rfl rfl l_X6_84 ⟨by decide, by decide⟩) <|
  nv_oc (n_if_ne (off := 5) (tgt := 46) (by decide +kernel) (by decide)) <|
  nv_oc (n_iconst (z := 0) (by decide +kernel)) <|
  nv_oc (n_zret (by decide +kernel) rfl) <|
  nv_oc (n_aload_n (k := 0) (by decide +kernel)) <|
  nv_oc (n_getfield (idx := 29) (ci := 6) (k := 9) (N := 16) (D := RX6) (T := TX6) (by decide +kernel) rfl i_X6 (by decide) (by decide) f_X6_29) <|
  nv_oc (n_bipush (z := 23) (by decide +kernel) (by decide)) <|
  nv_oc (n_iload_n (k := 1) (by decide +kernel)) <|
  nv_oc (n_iadd (by decide +kernel)) <|
  nv_oc (n_aload_n (k := 0) (by decide +kernel)) <|
  nv_oc (n_getfield (idx := 81) (ci := 6) (k := 6) (N := 16) (D := RX6) (T := TX6) (by decide +kernel) rfl i_X6 (by decide) (by decide) f_X6_81) <|
  nv_oc (n_iastore (by decide +kernel)) <|
  nv_oc (n_aload_n (k := 0) (by decide +kernel)) <|
  nv_oc (n_bipush (z := 45) (by decide +kernel) (by decide)) <|
  nv_oc (n_virtual (M' := M_X6_isSign) (idx := 91) (n := 1) (ci := 6) (N := 16) (D := RX6) (T := TX6) (by decide +kernel) fn_X6_isSign fv_X6_isSign rfl rfl l_X6_91 ⟨by decide, by decide⟩) <|
  nv_oc (n_if_eq (off := 37) (tgt := 102) (by decide +kernel) (by decide)) <|
  nv_oc (n_aload_n (k := 0) (by decide +kernel)) <|
  nv_oc (n_iconst (z := 0) (by decide +kernel)) <|
  nv_oc (n_aload_n (k := 0) (by decide +kernel)) <|
  nv_oc (n_getfield (idx := 29) (ci := 6) (k := 9) (N := 16) (D := RX6) (T := TX6) (by decide +kernel) rfl i_X6 (by decide) (by decide) f_X6_29) <|
  nv_oc (n_bipush (z := 18) (by decide +kernel) (by decide)) <|
  nv_oc (n_iload_n (k := 1) (by decide +kernel)) <|
  nv_oc (n_iadd (by decide +kernel)) <|
  nv_oc (n_iaload (by decide +kernel)) <|
  nv_oc (n_virtual (M' := M_X6_isNumber) (idx := 88) (n := 2) (ci := 6) (N := 16) (D := RX6) (T := TX6) (by decide +kernel) fn_X6_isNumber fv_X6_isNumber rfl rfl l_X6_88 ⟨by decide, by decide⟩) <|
  nv_oc (n_if_ne (off := 5) (tgt := 87) (by decide +kernel) (by decide)) <|
  nv_oc (n_iconst (z := 0) (by decide +kernel)) <|
  nv_oc (n_zret (by decide +kernel) rfl) <|
  nv_oc (n_aload_n (k := 0) (by decide +kernel)) <|
  nv_oc (n_getfield (idx := 29) (ci := 6) (k := 9) (N := 16) (D := RX6) (T := TX6) (by decide +kernel) rfl i_X6 (by decide) (by decide) f_X6_29) <|
  nv_oc (n_iconst (z := 2) (by decide +kernel)) <|
  nv_oc (n_iload_n (k := 1) (by decide +kernel)) <|
  nv_oc (n_iadd (by decide +kernel)) <|
  nv_oc (n_dup2 (by decide +kernel)) <|
  nv_oc (n_iaload (by decide +kernel)) <|
  nv_oc (n_aload_n (k := 0) (by decide +kernel)) <|
  nv_oc (n_getfield (idx := 81) (ci := 6) (k := 6) (N := 16) (D := RX6) (T := TX6) (by decide +kernel) rfl i_X6 (by decide) (by decide) f_X6_81) <|
  nv_oc (n_isub (by decide +kernel)) <|
  nv_oc (n_iastore (by decide +kernel)) <|
  nv_oc (n_iconst (z := 1) (by decide +kernel)) <|
  nv_oc (n_zret (by decide +kernel) rfl) <|
  nv_on
end
section
def M_X6_isSawyerItem : nv_MD := (RX6, yX6_isSawyerItem, cX6_isSawyerItem, 3, (some .boolean), 2, 44)
theorem fn_X6_isSawyerItem : nv_fn M_X6_isSawyerItem 0 := ⟨List.mem_of_getElem? (i := 885) (by decide +kernel), List.mem_of_getElem? (i := 50) (by decide +kernel), by decide +kernel⟩
theorem fv_X6_isSawyerItem : nv_fnV M_X6_isSawyerItem := ⟨List.mem_of_getElem? (i := 884) (by decide +kernel), List.mem_of_getElem? (i := 31) (by decide +kernel)⟩
def P_X6_isSawyerItem : nv_Pg := [(0, s_al 0 1), (1, s_cv 6 M_X6_peek 0 4), (4, s_cs M_X6_kindBy 1 7), (7, s_is 1 8), (8, s_il 1 9), (9, s_if c_ge 14 12), (12, s_ki (0) 13), (13, s_zr), (14, s_al 0 15), (15, s_dup 16), (16, s_gf 6 5 19), (19, s_ki (1) 20), (20, s_add 21), (21, s_pf 6 5 24), (24, s_al 0 25), (25, s_ki (0) 26), (26, s_ki (9) 28), (28, s_cv 6 M_X6_isDigit 2 31), (31, s_if c_eq 34 36), (34, s_ki (0) 35), (35, s_zr), (36, s_al 0 37), (37, s_gf 6 9 40), (40, s_il 1 41), (41, s_al 0 42), (42, s_gf 6 6 45), (45, s_cs M_X6_addSawyer 3 48), (48, s_is 2 49), (49, s_al 0 50), (50, s_ki (64) 52), (52, s_cv 6 M_X6_isSign 1 55), (55, s_if c_eq 90 58), (58, s_al 0 59), (59, s_ki (0) 60), (60, s_al 0 61), (61, s_gf 6 9 64), (64, s_ki (17) 66), (66, s_ia 67), (67, s_ki (1) 68), (68, s_sub 69), (69, s_cv 6 M_X6_isDigit 2 72), (72, s_if c_eq 75 77), (75, s_ki (0) 76), (76, s_zr), (77, s_al 0 78), (78, s_gf 6 9 81), (81, s_ki (12) 83), (83, s_il 2 84), (84, s_add 85), (85, s_al 0 86), (86, s_gf 6 6 89), (89, s_iw 90), (90, s_ki (1) 91), (91, s_zr)]
set_option maxRecDepth 100000 in
set_option maxHeartbeats 4000000 in
theorem ok_X6_isSawyerItem : nv_ok_P M_X6_isSawyerItem P_X6_isSawyerItem :=
  nv_oc (n_aload_n (k := 0) (by decide +kernel)) <|
  nv_oc (n_virtual (M' := M_X6_peek) (idx := 77) (n := 0) (ci := 6) (N := 16) (D := RX6) (T := TX6) (by decide +kernel) fn_X6_peek fv_X6_peek rfl rfl l_X6_77 ⟨by decide, by decide⟩) <|
  nv_oc (n_static (M' := M_X6_kindBy) (idx := 94) (n := 1) (by decide +kernel) fn_X6_kindBy st_X6_kindBy l_X6_94 ⟨by decide, by decide⟩) <|
  nv_oc (n_istore_n (k := 1) (by decide +kernel) (by decide)) <|
  nv_oc (n_iload_n (k := 1) (by decide +kernel)) <|
  nv_oc (n_if_ge (off := 5) (tgt := 14) (by decide +kernel) (by decide)) <|
  nv_oc (n_iconst (z := 0) (by decide +kernel)) <|
  nv_oc (n_zret (by decide +kernel) rfl) <|
  nv_oc (n_aload_n (k := 0) (by decide +kernel)) <|
  nv_oc (n_dup (by decide +kernel)) <|
  nv_oc (n_getfield (idx := 74) (ci := 6) (k := 5) (N := 16) (D := RX6) (T := TX6) (by decide +kernel) rfl i_X6 (by decide) (by decide) f_X6_74) <|
  nv_oc (n_iconst (z := 1) (by decide +kernel)) <|
  nv_oc (n_iadd (by decide +kernel)) <|
  nv_oc (n_putfield (idx := 74) (ci := 6) (k := 5) (N := 16) (D := RX6) (T := TX6) tyX6 tyX6_ok nmX6 (by decide +kernel) rfl i_X6 (by decide) (by decide) rfl f_X6_74 rfl) <|
  nv_oc (n_aload_n (k := 0) (by decide +kernel)) <|
  nv_oc (n_iconst (z := 0) (by decide +kernel)) <|
  nv_oc (n_bipush (z := 9) (by decide +kernel) (by decide)) <|
  nv_oc (n_virtual (M' := M_X6_isDigit) (idx := 84) (n := 2) (ci := 6) (N := 16) (D := RX6) (T := TX6) (by decide +kernel) fn_X6_isDigit fv_X6_isDigit rfl rfl l_X6_84 ⟨by decide, by decide⟩) <|
  nv_oc (n_if_ne (off := 5) (tgt := 36) (by decide +kernel) (by decide)) <|
  nv_oc (n_iconst (z := 0) (by decide +kernel)) <|
  nv_oc (n_zret (by decide +kernel) rfl) <|
  nv_oc (n_aload_n (k := 0) (by decide +kernel)) <|
  nv_oc (n_getfield (idx := 29) (ci := 6) (k := 9) (N := 16) (D := RX6) (T := TX6) (by decide +kernel) rfl i_X6 (by decide) (by decide) f_X6_29) <|
  nv_oc (n_iload_n (k := 1) (by decide +kernel)) <|
  nv_oc (n_aload_n (k := 0) (by decide +kernel)) <|
  nv_oc (n_getfield (idx := 81) (ci := 6) (k := 6) (N := 16) (D := RX6) (T := TX6) (by decide +kernel) rfl i_X6 (by decide) (by decide) f_X6_81) <|
  nv_oc (n_static (M' := M_X6_addSawyer) (idx := 49) (n := 3) (by decide +kernel) fn_X6_addSawyer st_X6_addSawyer l_X6_49 ⟨by decide, by decide⟩) <|
  nv_oc (n_istore_n (k := 2) (by decide +kernel) (by decide)) <|
  nv_oc (n_aload_n (k := 0) (by decide +kernel)) <|
  nv_oc (n_bipush (z := 64) (by decide +kernel) (by decide)) <|
  nv_oc (n_virtual (M' := M_X6_isSign) (idx := 91) (n := 1) (ci := 6) (N := 16) (D := RX6) (T := TX6) (by decide +kernel) fn_X6_isSign fv_X6_isSign rfl rfl l_X6_91 ⟨by decide, by decide⟩) <|
  nv_oc (n_if_eq (off := 35) (tgt := 90) (by decide +kernel) (by decide)) <|
  nv_oc (n_aload_n (k := 0) (by decide +kernel)) <|
  nv_oc (n_iconst (z := 0) (by decide +kernel)) <|
  nv_oc (n_aload_n (k := 0) (by decide +kernel)) <|
  nv_oc (n_getfield (idx := 29) (ci := 6) (k := 9) (N := 16) (D := RX6) (T := TX6) (by decide +kernel) rfl i_X6 (by decide) (by decide) f_X6_29) <|
  nv_oc (n_bipush (z := 17) (by decide +kernel) (by decide)) <|
  nv_oc (n_iaload (by decide +kernel)) <|
  nv_oc (n_iconst (z := 1) (by decide +kernel)) <|
  nv_oc (n_isub (by decide +kernel)) <|
  nv_oc (n_virtual (M' := M_X6_isDigit) (idx := 84) (n := 2) (ci := 6) (N := 16) (D := RX6) (T := TX6) (by decide +kernel) fn_X6_isDigit fv_X6_isDigit rfl rfl l_X6_84 ⟨by decide, by decide⟩) <|
  nv_oc (n_if_ne (off := 5) (tgt := 77) (by decide +kernel) (by decide)) <|
  nv_oc (n_iconst (z := 0) (by decide +kernel)) <|
  nv_oc (n_zret (by decide +kernel) rfl) <|
  nv_oc (n_aload_n (k := 0) (by decide +kernel)) <|
  nv_oc (n_getfield (idx := 29) (ci := 6) (k := 9) (N := 16) (D := RX6) (T := TX6) (by decide +kernel) rfl i_X6 (by decide) (by decide) f_X6_29) <|
  nv_oc (n_bipush (z := 12) (by decide +kernel) (by decide)) <|
  nv_oc (n_iload_n (k := 2) (by decide +kernel)) <|
  nv_oc (n_iadd (by decide +kernel)) <|
  nv_oc (n_aload_n (k := 0) (by decide +kernel)) <|
  nv_oc (n_getfield (idx := 81) (ci := 6) (k := 6) (N := 16) (D := RX6) (T := TX6) (by decide +kernel) rfl i_X6 (by decide) (by decide) f_X6_81) <|
  nv_oc (n_iastore (by decide +kernel)) <|
  nv_oc (n_iconst (z := 1) (by decide +kernel)) <|
  nv_oc (n_zret (by decide +kernel) rfl) <|
  nv_on
def M_X6_isNoon : nv_MD := (RX6, yX6_isNoon, cX6_isNoon, 2, (some .boolean), 4, 89)
theorem fn_X6_isNoon : nv_fn M_X6_isNoon 0 := ⟨List.mem_of_getElem? (i := 861) (by decide +kernel), List.mem_of_getElem? (i := 50) (by decide +kernel), by decide +kernel⟩
theorem fv_X6_isNoon : nv_fnV M_X6_isNoon := ⟨List.mem_of_getElem? (i := 860) (by decide +kernel), List.mem_of_getElem? (i := 25) (by decide +kernel)⟩
def P_X6_isNoon : nv_Pg := [(0, s_ki (1) 1), (1, s_is 1 2), (2, s_il 1 3), (3, s_if c_eq 44 6), (6, s_al 0 7), (7, s_cv 6 M_X6_isPlankItem 0 10), (10, s_if c_eq 13 15), (13, s_ki (0) 14), (14, s_zr), (15, s_al 0 16), (16, s_gf 6 9 19), (19, s_ki (17) 21), (21, s_ia 22), (22, s_ki (5) 23), (23, s_ic c_ge 39 26), (26, s_al 0 27), (27, s_ki (44) 29), (29, s_cv 6 M_X6_isSign 1 32), (32, s_if c_eq 39 35), (35, s_ki (1) 36), (36, s_go 40), (39, s_ki (0) 40), (40, s_is 1 41), (41, s_go 2), (44, s_al 0 45), (45, s_ki (59) 47), (47, s_cv 6 M_X6_isSign 1 50), (50, s_is 1 51), (51, s_il 1 52), (52, s_if c_eq 93 55), (55, s_al 0 56), (56, s_cv 6 M_X6_isSawyerItem 0 59), (59, s_if c_eq 62 64), (62, s_ki (0) 63), (63, s_zr), (64, s_al 0 65), (65, s_gf 6 9 68), (68, s_ki (28) 70), (70, s_ia 71), (71, s_ki (5) 72), (72, s_ic c_ge 88 75), (75, s_al 0 76), (76, s_ki (44) 78), (78, s_cv 6 M_X6_isSign 1 81), (81, s_if c_eq 88 84), (84, s_ki (1) 85), (85, s_go 89), (88, s_ki (0) 89), (89, s_is 1 90), (90, s_go 51), (93, s_al 0 94), (94, s_cv 6 M_X6_peek 0 97), (97, s_if c_eq 100 104), (100, s_ki (1) 101), (101, s_go 105), (104, s_ki (0) 105), (105, s_zr)]
set_option maxRecDepth 100000 in
set_option maxHeartbeats 4000000 in
theorem ok_X6_isNoon : nv_ok_P M_X6_isNoon P_X6_isNoon :=
  nv_oc (n_iconst (z := 1) (by decide +kernel)) <|
  nv_oc (n_istore_n (k := 1) (by decide +kernel) (by decide)) <|
  nv_oc (n_iload_n (k := 1) (by decide +kernel)) <|
  nv_oc (n_if_eq (off := 41) (tgt := 44) (by decide +kernel) (by decide)) <|
  nv_oc (n_aload_n (k := 0) (by decide +kernel)) <|
  nv_oc (n_virtual (M' := M_X6_isPlankItem) (idx := 97) (n := 0) (ci := 6) (N := 16) (D := RX6) (T := TX6) (by decide +kernel) fn_X6_isPlankItem fv_X6_isPlankItem rfl rfl l_X6_97 ⟨by decide, by decide⟩) <|
  nv_oc (n_if_ne (off := 5) (tgt := 15) (by decide +kernel) (by decide)) <|
  nv_oc (n_iconst (z := 0) (by decide +kernel)) <|
  nv_oc (n_zret (by decide +kernel) rfl) <|
  nv_oc (n_aload_n (k := 0) (by decide +kernel)) <|
  nv_oc (n_getfield (idx := 29) (ci := 6) (k := 9) (N := 16) (D := RX6) (T := TX6) (by decide +kernel) rfl i_X6 (by decide) (by decide) f_X6_29) <|
  nv_oc (n_bipush (z := 17) (by decide +kernel) (by decide)) <|
  nv_oc (n_iaload (by decide +kernel)) <|
  nv_oc (n_iconst (z := 5) (by decide +kernel)) <|
  nv_oc (n_icmp_ge (off := 16) (tgt := 39) (by decide +kernel) (by decide)) <|
  nv_oc (n_aload_n (k := 0) (by decide +kernel)) <|
  nv_oc (n_bipush (z := 44) (by decide +kernel) (by decide)) <|
  nv_oc (n_virtual (M' := M_X6_isSign) (idx := 91) (n := 1) (ci := 6) (N := 16) (D := RX6) (T := TX6) (by decide +kernel) fn_X6_isSign fv_X6_isSign rfl rfl l_X6_91 ⟨by decide, by decide⟩) <|
  nv_oc (n_if_eq (off := 7) (tgt := 39) (by decide +kernel) (by decide)) <|
  nv_oc (n_iconst (z := 1) (by decide +kernel)) <|
  nv_oc (n_goto (off := 4) (tgt := 40) (by decide +kernel) (by decide)) <|
  nv_oc (n_iconst (z := 0) (by decide +kernel)) <|
  nv_oc (n_istore_n (k := 1) (by decide +kernel) (by decide)) <|
  nv_oc (n_goto (off := -39) (tgt := 2) (by decide +kernel) (by decide)) <|
  nv_oc (n_aload_n (k := 0) (by decide +kernel)) <|
  nv_oc (n_bipush (z := 59) (by decide +kernel) (by decide)) <|
  nv_oc (n_virtual (M' := M_X6_isSign) (idx := 91) (n := 1) (ci := 6) (N := 16) (D := RX6) (T := TX6) (by decide +kernel) fn_X6_isSign fv_X6_isSign rfl rfl l_X6_91 ⟨by decide, by decide⟩) <|
  nv_oc (n_istore_n (k := 1) (by decide +kernel) (by decide)) <|
  nv_oc (n_iload_n (k := 1) (by decide +kernel)) <|
  nv_oc (n_if_eq (off := 41) (tgt := 93) (by decide +kernel) (by decide)) <|
  nv_oc (n_aload_n (k := 0) (by decide +kernel)) <|
  nv_oc (n_virtual (M' := M_X6_isSawyerItem) (idx := 101) (n := 0) (ci := 6) (N := 16) (D := RX6) (T := TX6) (by decide +kernel) fn_X6_isSawyerItem fv_X6_isSawyerItem rfl rfl l_X6_101 ⟨by decide, by decide⟩) <|
  nv_oc (n_if_ne (off := 5) (tgt := 64) (by decide +kernel) (by decide)) <|
  nv_oc (n_iconst (z := 0) (by decide +kernel)) <|
  nv_oc (n_zret (by decide +kernel) rfl) <|
  nv_oc (n_aload_n (k := 0) (by decide +kernel)) <|
  nv_oc (n_getfield (idx := 29) (ci := 6) (k := 9) (N := 16) (D := RX6) (T := TX6) (by decide +kernel) rfl i_X6 (by decide) (by decide) f_X6_29) <|
  nv_oc (n_bipush (z := 28) (by decide +kernel) (by decide)) <|
  nv_oc (n_iaload (by decide +kernel)) <|
  nv_oc (n_iconst (z := 5) (by decide +kernel)) <|
  nv_oc (n_icmp_ge (off := 16) (tgt := 88) (by decide +kernel) (by decide)) <|
  nv_oc (n_aload_n (k := 0) (by decide +kernel)) <|
  nv_oc (n_bipush (z := 44) (by decide +kernel) (by decide)) <|
  nv_oc (n_virtual (M' := M_X6_isSign) (idx := 91) (n := 1) (ci := 6) (N := 16) (D := RX6) (T := TX6) (by decide +kernel) fn_X6_isSign fv_X6_isSign rfl rfl l_X6_91 ⟨by decide, by decide⟩) <|
  nv_oc (n_if_eq (off := 7) (tgt := 88) (by decide +kernel) (by decide)) <|
  nv_oc (n_iconst (z := 1) (by decide +kernel)) <|
  nv_oc (n_goto (off := 4) (tgt := 89) (by decide +kernel) (by decide)) <|
  nv_oc (n_iconst (z := 0) (by decide +kernel)) <|
  nv_oc (n_istore_n (k := 1) (by decide +kernel) (by decide)) <|
  nv_oc (n_goto (off := -39) (tgt := 51) (by decide +kernel) (by decide)) <|
  nv_oc (n_aload_n (k := 0) (by decide +kernel)) <|
  nv_oc (n_virtual (M' := M_X6_peek) (idx := 77) (n := 0) (ci := 6) (N := 16) (D := RX6) (T := TX6) (by decide +kernel) fn_X6_peek fv_X6_peek rfl rfl l_X6_77 ⟨by decide, by decide⟩) <|
  nv_oc (n_if_ne (off := 7) (tgt := 104) (by decide +kernel) (by decide)) <|
  nv_oc (n_iconst (z := 1) (by decide +kernel)) <|
  nv_oc (n_goto (off := 4) (tgt := 105) (by decide +kernel) (by decide)) <|
  nv_oc (n_iconst (z := 0) (by decide +kernel)) <|
  nv_oc (n_zret (by decide +kernel) rfl) <|
  nv_on
def M_X6_read : nv_MD := (RX6, yX6_read, cX6_read, 2, (some .int), 5, 110)
theorem fn_X6_read : nv_fn M_X6_read 0 := ⟨List.mem_of_getElem? (i := 857) (by decide +kernel), List.mem_of_getElem? (i := 50) (by decide +kernel), by decide +kernel⟩
theorem fv_X6_read : nv_fnV M_X6_read := ⟨List.mem_of_getElem? (i := 855) (by decide +kernel), List.mem_of_getElem? (i := 856) (by decide +kernel)⟩
def P_X6_read : nv_Pg := [(0, s_ki (0) 1), (1, s_is 1 2), (2, s_il 1 3), (3, s_ki (171) 6), (6, s_ic c_ge 22 9), (9, s_al 0 10), (10, s_gf 6 9 13), (13, s_il 1 14), (14, s_ki (0) 15), (15, s_iw 16), (16, s_inc 1 (1) 19), (19, s_go 2), (22, s_al 0 23), (23, s_gf 6 9 26), (26, s_ki (1) 27), (27, s_al 0 28), (28, s_gf 6 7 31), (31, s_ki (1) 32), (32, s_ia 33), (33, s_iw 34), (34, s_al 0 35), (35, s_ki (0) 36), (36, s_pf 6 5 39), (39, s_al 0 40), (40, s_cv 6 M_X6_isNoon 0 43), (43, s_is 1 44), (44, s_al 0 45), (45, s_ki (0) 46), (46, s_pf 6 3 49), (49, s_il 1 50), (50, s_if c_eq 53 61), (53, s_ki (-20) 55), (55, s_al 0 56), (56, s_gf 6 5 59), (59, s_sub 60), (60, s_ir), (61, s_al 0 62), (62, s_gf 6 9 65), (65, s_ki (0) 66), (66, s_al 0 67), (67, s_gf 6 7 70), (70, s_ki (0) 71), (71, s_ki (171) 74), (74, s_cs M_X6_bring 5 77), (77, s_al 0 78), (78, s_gf 6 7 81), (81, s_ki (17) 83), (83, s_ia 84), (84, s_ir)]
set_option maxRecDepth 100000 in
set_option maxHeartbeats 4000000 in
theorem ok_X6_read : nv_ok_P M_X6_read P_X6_read :=
  nv_oc (n_iconst (z := 0) (by decide +kernel)) <|
  nv_oc (n_istore_n (k := 1) (by decide +kernel) (by decide)) <|
  nv_oc (n_iload_n (k := 1) (by decide +kernel)) <|
  nv_oc (n_sipush (z := 171) (by decide +kernel) (by decide)) <|
  nv_oc (n_icmp_ge (off := 16) (tgt := 22) (by decide +kernel) (by decide)) <|
  nv_oc (n_aload_n (k := 0) (by decide +kernel)) <|
  nv_oc (n_getfield (idx := 29) (ci := 6) (k := 9) (N := 16) (D := RX6) (T := TX6) (by decide +kernel) rfl i_X6 (by decide) (by decide) f_X6_29) <|
  nv_oc (n_iload_n (k := 1) (by decide +kernel)) <|
  nv_oc (n_iconst (z := 0) (by decide +kernel)) <|
  nv_oc (n_iastore (by decide +kernel)) <|
  nv_oc (n_iinc (k := 1) (d := 1) (by decide +kernel) (by decide)) <|
  nv_oc (n_goto (off := -17) (tgt := 2) (by decide +kernel) (by decide)) <|
  nv_oc (n_aload_n (k := 0) (by decide +kernel)) <|
  nv_oc (n_getfield (idx := 29) (ci := 6) (k := 9) (N := 16) (D := RX6) (T := TX6) (by decide +kernel) rfl i_X6 (by decide) (by decide) f_X6_29) <|
  nv_oc (n_iconst (z := 1) (by decide +kernel)) <|
  nv_oc (n_aload_n (k := 0) (by decide +kernel)) <|
  nv_oc (n_getfield (idx := 23) (ci := 6) (k := 7) (N := 16) (D := RX6) (T := TX6) (by decide +kernel) rfl i_X6 (by decide) (by decide) f_X6_23) <|
  nv_oc (n_iconst (z := 1) (by decide +kernel)) <|
  nv_oc (n_iaload (by decide +kernel)) <|
  nv_oc (n_iastore (by decide +kernel)) <|
  nv_oc (n_aload_n (k := 0) (by decide +kernel)) <|
  nv_oc (n_iconst (z := 0) (by decide +kernel)) <|
  nv_oc (n_putfield (idx := 74) (ci := 6) (k := 5) (N := 16) (D := RX6) (T := TX6) tyX6 tyX6_ok nmX6 (by decide +kernel) rfl i_X6 (by decide) (by decide) rfl f_X6_74 rfl) <|
  nv_oc (n_aload_n (k := 0) (by decide +kernel)) <|
  nv_oc (n_virtual (M' := M_X6_isNoon) (idx := 104) (n := 0) (ci := 6) (N := 16) (D := RX6) (T := TX6) (by decide +kernel) fn_X6_isNoon fv_X6_isNoon rfl rfl l_X6_104 ⟨by decide, by decide⟩) <|
  nv_oc (n_istore_n (k := 1) (by decide +kernel) (by decide)) <|
  nv_oc (n_aload_n (k := 0) (by decide +kernel)) <|
  nv_oc (n_iconst (z := 0) (by decide +kernel)) <|
  nv_oc (n_putfield (idx := 70) (ci := 6) (k := 3) (N := 16) (D := RX6) (T := TX6) tyX6 tyX6_ok nmX6 (by decide +kernel) rfl i_X6 (by decide) (by decide) rfl f_X6_70 rfl) <|
  nv_oc (n_iload_n (k := 1) (by decide +kernel)) <|
  nv_oc (n_if_ne (off := 11) (tgt := 61) (by decide +kernel) (by decide)) <|
  nv_oc (n_bipush (z := -20) (by decide +kernel) (by decide)) <|
  nv_oc (n_aload_n (k := 0) (by decide +kernel)) <|
  nv_oc (n_getfield (idx := 74) (ci := 6) (k := 5) (N := 16) (D := RX6) (T := TX6) (by decide +kernel) rfl i_X6 (by decide) (by decide) f_X6_74) <|
  nv_oc (n_isub (by decide +kernel)) <|
  nv_oc (n_iret (by decide +kernel) rfl) <|
  nv_oc (n_aload_n (k := 0) (by decide +kernel)) <|
  nv_oc (n_getfield (idx := 29) (ci := 6) (k := 9) (N := 16) (D := RX6) (T := TX6) (by decide +kernel) rfl i_X6 (by decide) (by decide) f_X6_29) <|
  nv_oc (n_iconst (z := 0) (by decide +kernel)) <|
  nv_oc (n_aload_n (k := 0) (by decide +kernel)) <|
  nv_oc (n_getfield (idx := 23) (ci := 6) (k := 7) (N := 16) (D := RX6) (T := TX6) (by decide +kernel) rfl i_X6 (by decide) (by decide) f_X6_23) <|
  nv_oc (n_iconst (z := 0) (by decide +kernel)) <|
  nv_oc (n_sipush (z := 171) (by decide +kernel) (by decide)) <|
  nv_oc (n_static (M' := M_X6_bring) (idx := 107) (n := 5) (by decide +kernel) fn_X6_bring st_X6_bring l_X6_107 ⟨by decide, by decide⟩) <|
  nv_oc (n_aload_n (k := 0) (by decide +kernel)) <|
  nv_oc (n_getfield (idx := 23) (ci := 6) (k := 7) (N := 16) (D := RX6) (T := TX6) (by decide +kernel) rfl i_X6 (by decide) (by decide) f_X6_23) <|
  nv_oc (n_bipush (z := 17) (by decide +kernel) (by decide)) <|
  nv_oc (n_iaload (by decide +kernel)) <|
  nv_oc (n_iret (by decide +kernel) rfl) <|
  nv_on
def M_X6_fallen : nv_MD := (RX6, yX6_fallen, cX6_fallen, 3, (some .int), 0, 0)
theorem fn_X6_fallen : nv_fn M_X6_fallen 1 := ⟨List.mem_of_getElem? (i := 898) (by decide +kernel), List.mem_of_getElem? (i := 50) (by decide +kernel), by decide +kernel⟩
theorem st_X6_fallen : Cond.static (nv_y M_X6_fallen) ∈ lw_tbl := List.mem_of_getElem? (i := 897) (by decide +kernel)
def P_X6_fallen : nv_Pg := [(0, s_ki (0) 1), (1, s_is 1 2), (2, s_ki (0) 3), (3, s_is 2 4), (4, s_il 2 5), (5, s_al 0 6), (6, s_ki (17) 8), (8, s_ia 9), (9, s_ic c_ge 36 12), (12, s_il 1 13), (13, s_al 0 14), (14, s_ki (2) 15), (15, s_il 2 16), (16, s_add 17), (17, s_ia 18), (18, s_if c_eq 21 27), (21, s_ki (1) 22), (22, s_il 2 23), (23, s_sl 24), (24, s_go 28), (27, s_ki (0) 28), (28, s_b nv_or 29), (29, s_is 1 30), (30, s_inc 2 (1) 33), (33, s_go 4), (36, s_il 1 37), (37, s_ir)]
set_option maxRecDepth 100000 in
set_option maxHeartbeats 4000000 in
theorem ok_X6_fallen : nv_ok_P M_X6_fallen P_X6_fallen :=
  nv_oc (n_iconst (z := 0) (by decide +kernel)) <|
  nv_oc (n_istore_n (k := 1) (by decide +kernel) (by decide)) <|
  nv_oc (n_iconst (z := 0) (by decide +kernel)) <|
  nv_oc (n_istore_n (k := 2) (by decide +kernel) (by decide)) <|
  nv_oc (n_iload_n (k := 2) (by decide +kernel)) <|
  nv_oc (n_aload_n (k := 0) (by decide +kernel)) <|
  nv_oc (n_bipush (z := 17) (by decide +kernel) (by decide)) <|
  nv_oc (n_iaload (by decide +kernel)) <|
  nv_oc (n_icmp_ge (off := 27) (tgt := 36) (by decide +kernel) (by decide)) <|
  nv_oc (n_iload_n (k := 1) (by decide +kernel)) <|
  nv_oc (n_aload_n (k := 0) (by decide +kernel)) <|
  nv_oc (n_iconst (z := 2) (by decide +kernel)) <|
  nv_oc (n_iload_n (k := 2) (by decide +kernel)) <|
  nv_oc (n_iadd (by decide +kernel)) <|
  nv_oc (n_iaload (by decide +kernel)) <|
  nv_oc (n_if_ne (off := 9) (tgt := 27) (by decide +kernel) (by decide)) <|
  nv_oc (n_iconst (z := 1) (by decide +kernel)) <|
  nv_oc (n_iload_n (k := 2) (by decide +kernel)) <|
  nv_oc (n_ishl (by decide +kernel)) <|
  nv_oc (n_goto (off := 4) (tgt := 28) (by decide +kernel) (by decide)) <|
  nv_oc (n_iconst (z := 0) (by decide +kernel)) <|
  nv_oc (n_ior (by decide +kernel)) <|
  nv_oc (n_istore_n (k := 1) (by decide +kernel) (by decide)) <|
  nv_oc (n_iinc (k := 2) (d := 1) (by decide +kernel) (by decide)) <|
  nv_oc (n_goto (off := -29) (tgt := 4) (by decide +kernel) (by decide)) <|
  nv_oc (n_iload_n (k := 1) (by decide +kernel)) <|
  nv_oc (n_iret (by decide +kernel) rfl) <|
  nv_on
def M_X6_isAll : nv_MD := (RX6, yX6_isAll, cX6_isAll, 1, (some .boolean), 1, 22)
theorem fn_X6_isAll : nv_fn M_X6_isAll 1 := ⟨List.mem_of_getElem? (i := 923) (by decide +kernel), List.mem_of_getElem? (i := 50) (by decide +kernel), by decide +kernel⟩
theorem st_X6_isAll : Cond.static (nv_y M_X6_isAll) ∈ lw_tbl := List.mem_of_getElem? (i := 922) (by decide +kernel)
def P_X6_isAll : nv_Pg := [(0, s_al 0 1), (1, s_cs M_X6_fallen 1 4), (4, s_ki (1) 5), (5, s_al 0 6), (6, s_ki (17) 8), (8, s_ia 9), (9, s_sl 10), (10, s_ki (1) 11), (11, s_sub 12), (12, s_ic c_eq 15 19), (15, s_ki (1) 16), (16, s_go 20), (19, s_ki (0) 20), (20, s_zr)]
set_option maxRecDepth 100000 in
set_option maxHeartbeats 4000000 in
theorem ok_X6_isAll : nv_ok_P M_X6_isAll P_X6_isAll :=
  nv_oc (n_aload_n (k := 0) (by decide +kernel)) <|
  nv_oc (n_static (M' := M_X6_fallen) (idx := 111) (n := 1) (by decide +kernel) fn_X6_fallen st_X6_fallen l_X6_111 ⟨by decide, by decide⟩) <|
  nv_oc (n_iconst (z := 1) (by decide +kernel)) <|
  nv_oc (n_aload_n (k := 0) (by decide +kernel)) <|
  nv_oc (n_bipush (z := 17) (by decide +kernel) (by decide)) <|
  nv_oc (n_iaload (by decide +kernel)) <|
  nv_oc (n_ishl (by decide +kernel)) <|
  nv_oc (n_iconst (z := 1) (by decide +kernel)) <|
  nv_oc (n_isub (by decide +kernel)) <|
  nv_oc (n_icmp_ne (off := 7) (tgt := 19) (by decide +kernel) (by decide)) <|
  nv_oc (n_iconst (z := 1) (by decide +kernel)) <|
  nv_oc (n_goto (off := 4) (tgt := 20) (by decide +kernel) (by decide)) <|
  nv_oc (n_iconst (z := 0) (by decide +kernel)) <|
  nv_oc (n_zret (by decide +kernel) rfl) <|
  nv_on
def M_X6_leftOf : nv_MD := (RX6, yX6_leftOf, cX6_leftOf, 3, (some .int), 0, 0)
theorem fn_X6_leftOf : nv_fn M_X6_leftOf 1 := ⟨List.mem_of_getElem? (i := 901) (by decide +kernel), List.mem_of_getElem? (i := 50) (by decide +kernel), by decide +kernel⟩
theorem st_X6_leftOf : Cond.static (nv_y M_X6_leftOf) ∈ lw_tbl := List.mem_of_getElem? (i := 900) (by decide +kernel)
def P_X6_leftOf : nv_Pg := [(0, s_ki (0) 1), (1, s_is 1 2), (2, s_ki (0) 3), (3, s_is 2 4), (4, s_il 2 5), (5, s_al 0 6), (6, s_ki (17) 8), (8, s_ia 9), (9, s_ic c_ge 26 12), (12, s_il 1 13), (13, s_al 0 14), (14, s_ki (2) 15), (15, s_il 2 16), (16, s_add 17), (17, s_ia 18), (18, s_add 19), (19, s_is 1 20), (20, s_inc 2 (1) 23), (23, s_go 4), (26, s_il 1 27), (27, s_ir)]
set_option maxRecDepth 100000 in
set_option maxHeartbeats 4000000 in
theorem ok_X6_leftOf : nv_ok_P M_X6_leftOf P_X6_leftOf :=
  nv_oc (n_iconst (z := 0) (by decide +kernel)) <|
  nv_oc (n_istore_n (k := 1) (by decide +kernel) (by decide)) <|
  nv_oc (n_iconst (z := 0) (by decide +kernel)) <|
  nv_oc (n_istore_n (k := 2) (by decide +kernel) (by decide)) <|
  nv_oc (n_iload_n (k := 2) (by decide +kernel)) <|
  nv_oc (n_aload_n (k := 0) (by decide +kernel)) <|
  nv_oc (n_bipush (z := 17) (by decide +kernel) (by decide)) <|
  nv_oc (n_iaload (by decide +kernel)) <|
  nv_oc (n_icmp_ge (off := 17) (tgt := 26) (by decide +kernel) (by decide)) <|
  nv_oc (n_iload_n (k := 1) (by decide +kernel)) <|
  nv_oc (n_aload_n (k := 0) (by decide +kernel)) <|
  nv_oc (n_iconst (z := 2) (by decide +kernel)) <|
  nv_oc (n_iload_n (k := 2) (by decide +kernel)) <|
  nv_oc (n_iadd (by decide +kernel)) <|
  nv_oc (n_iaload (by decide +kernel)) <|
  nv_oc (n_iadd (by decide +kernel)) <|
  nv_oc (n_istore_n (k := 1) (by decide +kernel) (by decide)) <|
  nv_oc (n_iinc (k := 2) (d := 1) (by decide +kernel) (by decide)) <|
  nv_oc (n_goto (off := -19) (tgt := 4) (by decide +kernel) (by decide)) <|
  nv_oc (n_iload_n (k := 1) (by decide +kernel)) <|
  nv_oc (n_iret (by decide +kernel) rfl) <|
  nv_on
def M_X6_teeth : nv_MD := (RX6, yX6_teeth, cX6_teeth, 3, (some .int), 0, 0)
theorem fn_X6_teeth : nv_fn M_X6_teeth 0 := ⟨List.mem_of_getElem? (i := 905) (by decide +kernel), List.mem_of_getElem? (i := 50) (by decide +kernel), by decide +kernel⟩
theorem fv_X6_teeth : nv_fnV M_X6_teeth := ⟨List.mem_of_getElem? (i := 904) (by decide +kernel), List.mem_of_getElem? (i := 32) (by decide +kernel)⟩
def P_X6_teeth : nv_Pg := [(0, s_ki (0) 1), (1, s_is 1 2), (2, s_ki (0) 3), (3, s_is 2 4), (4, s_il 2 5), (5, s_al 0 6), (6, s_gf 6 7 9), (9, s_ki (28) 11), (11, s_ia 12), (12, s_ic c_ge 33 15), (15, s_il 1 16), (16, s_al 0 17), (17, s_gf 6 7 20), (20, s_ki (7) 22), (22, s_il 2 23), (23, s_add 24), (24, s_ia 25), (25, s_add 26), (26, s_is 1 27), (27, s_inc 2 (1) 30), (30, s_go 4), (33, s_il 1 34), (34, s_ir)]
set_option maxRecDepth 100000 in
set_option maxHeartbeats 4000000 in
theorem ok_X6_teeth : nv_ok_P M_X6_teeth P_X6_teeth :=
  nv_oc (n_iconst (z := 0) (by decide +kernel)) <|
  nv_oc (n_istore_n (k := 1) (by decide +kernel) (by decide)) <|
  nv_oc (n_iconst (z := 0) (by decide +kernel)) <|
  nv_oc (n_istore_n (k := 2) (by decide +kernel) (by decide)) <|
  nv_oc (n_iload_n (k := 2) (by decide +kernel)) <|
  nv_oc (n_aload_n (k := 0) (by decide +kernel)) <|
  nv_oc (n_getfield (idx := 23) (ci := 6) (k := 7) (N := 16) (D := RX6) (T := TX6) (by decide +kernel) rfl i_X6 (by decide) (by decide) f_X6_23) <|
  nv_oc (n_bipush (z := 28) (by decide +kernel) (by decide)) <|
  nv_oc (n_iaload (by decide +kernel)) <|
  nv_oc (n_icmp_ge (off := 21) (tgt := 33) (by decide +kernel) (by decide)) <|
  nv_oc (n_iload_n (k := 1) (by decide +kernel)) <|
  nv_oc (n_aload_n (k := 0) (by decide +kernel)) <|
  nv_oc (n_getfield (idx := 23) (ci := 6) (k := 7) (N := 16) (D := RX6) (T := TX6) (by decide +kernel) rfl i_X6 (by decide) (by decide) f_X6_23) <|
  nv_oc (n_bipush (z := 7) (by decide +kernel) (by decide)) <|
  nv_oc (n_iload_n (k := 2) (by decide +kernel)) <|
  nv_oc (n_iadd (by decide +kernel)) <|
  nv_oc (n_iaload (by decide +kernel)) <|
  nv_oc (n_iadd (by decide +kernel)) <|
  nv_oc (n_istore_n (k := 1) (by decide +kernel) (by decide)) <|
  nv_oc (n_iinc (k := 2) (d := 1) (by decide +kernel) (by decide)) <|
  nv_oc (n_goto (off := -26) (tgt := 4) (by decide +kernel) (by decide)) <|
  nv_oc (n_iload_n (k := 1) (by decide +kernel)) <|
  nv_oc (n_iret (by decide +kernel) rfl) <|
  nv_on
def M_X6_count : nv_MD := (RX6, yX6_count, cX6_count, 2, (some .int), 1, 23)
theorem fn_X6_count : nv_fn M_X6_count 1 := ⟨List.mem_of_getElem? (i := 895) (by decide +kernel), List.mem_of_getElem? (i := 50) (by decide +kernel), by decide +kernel⟩
theorem fv_X6_count : nv_fnV M_X6_count := ⟨List.mem_of_getElem? (i := 893) (by decide +kernel), List.mem_of_getElem? (i := 894) (by decide +kernel)⟩
def P_X6_count : nv_Pg := [(0, s_il 1 1), (1, s_sw 0 110 [48, 56, 64, 71, 79, 87, 92, 102]), (48, s_al 0 49), (49, s_gf 6 7 52), (52, s_ki (17) 54), (54, s_ia 55), (55, s_ir), (56, s_al 0 57), (57, s_gf 6 7 60), (60, s_ki (28) 62), (62, s_ia 63), (63, s_ir), (64, s_al 0 65), (65, s_gf 6 7 68), (68, s_ki (0) 69), (69, s_ia 70), (70, s_ir), (71, s_al 0 72), (72, s_gf 6 7 75), (75, s_cs M_X6_fallen 1 78), (78, s_ir), (79, s_al 0 80), (80, s_gf 6 7 83), (83, s_cs M_X6_leftOf 1 86), (86, s_ir), (87, s_al 0 88), (88, s_cv 6 M_X6_teeth 0 91), (91, s_ir), (92, s_al 0 93), (93, s_gf 6 7 96), (96, s_ki (-4) 98), (98, s_cs M_X6_sittersOn 2 101), (101, s_ir), (102, s_al 0 103), (103, s_gf 6 7 106), (106, s_ki (34) 108), (108, s_ia 109), (109, s_ir), (110, s_ki (-1) 111), (111, s_ir)]
set_option maxRecDepth 100000 in
set_option maxHeartbeats 4000000 in
theorem ok_X6_count : nv_ok_P M_X6_count P_X6_count :=
  nv_oc (n_iload_n (k := 1) (by decide +kernel)) <|
  nv_oc (n_tableswitch (dflt := 109) (lo := 0) (hi := 7) (offs := #[47, 55, 63, 70, 78, 86, 91, 101]) (len := 47) (df := 110) (ts := [48, 56, 64, 71, 79, 87, 92, 102]) (by decide +kernel) (by decide) (by decide) (by decide)) <|
  nv_oc (n_aload_n (k := 0) (by decide +kernel)) <|
  nv_oc (n_getfield (idx := 23) (ci := 6) (k := 7) (N := 16) (D := RX6) (T := TX6) (by decide +kernel) rfl i_X6 (by decide) (by decide) f_X6_23) <|
  nv_oc (n_bipush (z := 17) (by decide +kernel) (by decide)) <|
  nv_oc (n_iaload (by decide +kernel)) <|
  nv_oc (n_iret (by decide +kernel) rfl) <|
  nv_oc (n_aload_n (k := 0) (by decide +kernel)) <|
  nv_oc (n_getfield (idx := 23) (ci := 6) (k := 7) (N := 16) (D := RX6) (T := TX6) (by decide +kernel) rfl i_X6 (by decide) (by decide) f_X6_23) <|
  nv_oc (n_bipush (z := 28) (by decide +kernel) (by decide)) <|
  nv_oc (n_iaload (by decide +kernel)) <|
  nv_oc (n_iret (by decide +kernel) rfl) <|
  nv_oc (n_aload_n (k := 0) (by decide +kernel)) <|
  nv_oc (n_getfield (idx := 23) (ci := 6) (k := 7) (N := 16) (D := RX6) (T := TX6) (by decide +kernel) rfl i_X6 (by decide) (by decide) f_X6_23) <|
  nv_oc (n_iconst (z := 0) (by decide +kernel)) <|
  nv_oc (n_iaload (by decide +kernel)) <|
  nv_oc (n_iret (by decide +kernel) rfl) <|
  nv_oc (n_aload_n (k := 0) (by decide +kernel)) <|
  nv_oc (n_getfield (idx := 23) (ci := 6) (k := 7) (N := 16) (D := RX6) (T := TX6) (by decide +kernel) rfl i_X6 (by decide) (by decide) f_X6_23) <|
  nv_oc (n_static (M' := M_X6_fallen) (idx := 111) (n := 1) (by decide +kernel) fn_X6_fallen st_X6_fallen l_X6_111 ⟨by decide, by decide⟩) <|
  nv_oc (n_iret (by decide +kernel) rfl) <|
  nv_oc (n_aload_n (k := 0) (by decide +kernel)) <|
  nv_oc (n_getfield (idx := 23) (ci := 6) (k := 7) (N := 16) (D := RX6) (T := TX6) (by decide +kernel) rfl i_X6 (by decide) (by decide) f_X6_23) <|
  nv_oc (n_static (M' := M_X6_leftOf) (idx := 115) (n := 1) (by decide +kernel) fn_X6_leftOf st_X6_leftOf l_X6_115 ⟨by decide, by decide⟩) <|
  nv_oc (n_iret (by decide +kernel) rfl) <|
  nv_oc (n_aload_n (k := 0) (by decide +kernel)) <|
  nv_oc (n_virtual (M' := M_X6_teeth) (idx := 118) (n := 0) (ci := 6) (N := 16) (D := RX6) (T := TX6) (by decide +kernel) fn_X6_teeth fv_X6_teeth rfl rfl l_X6_118 ⟨by decide, by decide⟩) <|
  nv_oc (n_iret (by decide +kernel) rfl) <|
  nv_oc (n_aload_n (k := 0) (by decide +kernel)) <|
  nv_oc (n_getfield (idx := 23) (ci := 6) (k := 7) (N := 16) (D := RX6) (T := TX6) (by decide +kernel) rfl i_X6 (by decide) (by decide) f_X6_23) <|
  nv_oc (n_bipush (z := -4) (by decide +kernel) (by decide)) <|
  nv_oc (n_static (M' := M_X6_sittersOn) (idx := 60) (n := 2) (by decide +kernel) fn_X6_sittersOn st_X6_sittersOn l_X6_60 ⟨by decide, by decide⟩) <|
  nv_oc (n_iret (by decide +kernel) rfl) <|
  nv_oc (n_aload_n (k := 0) (by decide +kernel)) <|
  nv_oc (n_getfield (idx := 23) (ci := 6) (k := 7) (N := 16) (D := RX6) (T := TX6) (by decide +kernel) rfl i_X6 (by decide) (by decide) f_X6_23) <|
  nv_oc (n_bipush (z := 34) (by decide +kernel) (by decide)) <|
  nv_oc (n_iaload (by decide +kernel)) <|
  nv_oc (n_iret (by decide +kernel) rfl) <|
  nv_oc (n_iconst (z := -1) (by decide +kernel)) <|
  nv_oc (n_iret (by decide +kernel) rfl) <|
  nv_on
def M_X6_note : nv_MD := (RX6, yX6_note, cX6_note, 1, none, 1, 25)
theorem fn_X6_note : nv_fn M_X6_note 0 := ⟨List.mem_of_getElem? (i := 913) (by decide +kernel), List.mem_of_getElem? (i := 50) (by decide +kernel), by decide +kernel⟩
theorem fv_X6_note : nv_fnV M_X6_note := ⟨List.mem_of_getElem? (i := 912) (by decide +kernel), List.mem_of_getElem? (i := 33) (by decide +kernel)⟩
def P_X6_note : nv_Pg := [(0, s_al 0 1), (1, s_gf 6 7 4), (4, s_ki (34) 6), (6, s_ia 7), (7, s_ki (8) 9), (9, s_ic c_eq 12 40), (12, s_al 0 13), (13, s_gf 6 7 16), (16, s_ki (52) 18), (18, s_al 0 19), (19, s_gf 6 7 22), (22, s_ki (35) 24), (24, s_ki (119) 26), (26, s_cs M_X6_bring 5 29), (29, s_al 0 30), (30, s_gf 6 7 33), (33, s_ki (34) 35), (35, s_dup2 36), (36, s_ia 37), (37, s_ki (1) 38), (38, s_sub 39), (39, s_iw 40), (40, s_al 0 41), (41, s_gf 6 7 44), (44, s_ki (0) 45), (45, s_al 0 46), (46, s_gf 6 7 49), (49, s_ki (35) 51), (51, s_ki (17) 53), (53, s_al 0 54), (54, s_gf 6 7 57), (57, s_ki (34) 59), (59, s_ia 60), (60, s_mul 61), (61, s_add 62), (62, s_ki (17) 64), (64, s_cs M_X6_bring 5 67), (67, s_al 0 68), (68, s_gf 6 7 71), (71, s_ki (34) 73), (73, s_dup2 74), (74, s_ia 75), (75, s_ki (1) 76), (76, s_add 77), (77, s_iw 78), (78, s_vr)]
set_option maxRecDepth 100000 in
set_option maxHeartbeats 4000000 in
theorem ok_X6_note : nv_ok_P M_X6_note P_X6_note :=
  nv_oc (n_aload_n (k := 0) (by decide +kernel)) <|
  nv_oc (n_getfield (idx := 23) (ci := 6) (k := 7) (N := 16) (D := RX6) (T := TX6) (by decide +kernel) rfl i_X6 (by decide) (by decide) f_X6_23) <|
  nv_oc (n_bipush (z := 34) (by decide +kernel) (by decide)) <|
  nv_oc (n_iaload (by decide +kernel)) <|
  nv_oc (n_bipush (z := 8) (by decide +kernel) (by decide)) <|
  nv_oc (n_icmp_ne (off := 31) (tgt := 40) (by decide +kernel) (by decide)) <|
  nv_oc (n_aload_n (k := 0) (by decide +kernel)) <|
  nv_oc (n_getfield (idx := 23) (ci := 6) (k := 7) (N := 16) (D := RX6) (T := TX6) (by decide +kernel) rfl i_X6 (by decide) (by decide) f_X6_23) <|
  nv_oc (n_bipush (z := 52) (by decide +kernel) (by decide)) <|
  nv_oc (n_aload_n (k := 0) (by decide +kernel)) <|
  nv_oc (n_getfield (idx := 23) (ci := 6) (k := 7) (N := 16) (D := RX6) (T := TX6) (by decide +kernel) rfl i_X6 (by decide) (by decide) f_X6_23) <|
  nv_oc (n_bipush (z := 35) (by decide +kernel) (by decide)) <|
  nv_oc (n_bipush (z := 119) (by decide +kernel) (by decide)) <|
  nv_oc (n_static (M' := M_X6_bring) (idx := 107) (n := 5) (by decide +kernel) fn_X6_bring st_X6_bring l_X6_107 ⟨by decide, by decide⟩) <|
  nv_oc (n_aload_n (k := 0) (by decide +kernel)) <|
  nv_oc (n_getfield (idx := 23) (ci := 6) (k := 7) (N := 16) (D := RX6) (T := TX6) (by decide +kernel) rfl i_X6 (by decide) (by decide) f_X6_23) <|
  nv_oc (n_bipush (z := 34) (by decide +kernel) (by decide)) <|
  nv_oc (n_dup2 (by decide +kernel)) <|
  nv_oc (n_iaload (by decide +kernel)) <|
  nv_oc (n_iconst (z := 1) (by decide +kernel)) <|
  nv_oc (n_isub (by decide +kernel)) <|
  nv_oc (n_iastore (by decide +kernel)) <|
  nv_oc (n_aload_n (k := 0) (by decide +kernel)) <|
  nv_oc (n_getfield (idx := 23) (ci := 6) (k := 7) (N := 16) (D := RX6) (T := TX6) (by decide +kernel) rfl i_X6 (by decide) (by decide) f_X6_23) <|
  nv_oc (n_iconst (z := 0) (by decide +kernel)) <|
  nv_oc (n_aload_n (k := 0) (by decide +kernel)) <|
  nv_oc (n_getfield (idx := 23) (ci := 6) (k := 7) (N := 16) (D := RX6) (T := TX6) (by decide +kernel) rfl i_X6 (by decide) (by decide) f_X6_23) <|
  nv_oc (n_bipush (z := 35) (by decide +kernel) (by decide)) <|
  nv_oc (n_bipush (z := 17) (by decide +kernel) (by decide)) <|
  nv_oc (n_aload_n (k := 0) (by decide +kernel)) <|
  nv_oc (n_getfield (idx := 23) (ci := 6) (k := 7) (N := 16) (D := RX6) (T := TX6) (by decide +kernel) rfl i_X6 (by decide) (by decide) f_X6_23) <|
  nv_oc (n_bipush (z := 34) (by decide +kernel) (by decide)) <|
  nv_oc (n_iaload (by decide +kernel)) <|
  nv_oc (n_imul (by decide +kernel)) <|
  nv_oc (n_iadd (by decide +kernel)) <|
  nv_oc (n_bipush (z := 17) (by decide +kernel) (by decide)) <|
  nv_oc (n_static (M' := M_X6_bring) (idx := 107) (n := 5) (by decide +kernel) fn_X6_bring st_X6_bring l_X6_107 ⟨by decide, by decide⟩) <|
  nv_oc (n_aload_n (k := 0) (by decide +kernel)) <|
  nv_oc (n_getfield (idx := 23) (ci := 6) (k := 7) (N := 16) (D := RX6) (T := TX6) (by decide +kernel) rfl i_X6 (by decide) (by decide) f_X6_23) <|
  nv_oc (n_bipush (z := 34) (by decide +kernel) (by decide)) <|
  nv_oc (n_dup2 (by decide +kernel)) <|
  nv_oc (n_iaload (by decide +kernel)) <|
  nv_oc (n_iconst (z := 1) (by decide +kernel)) <|
  nv_oc (n_iadd (by decide +kernel)) <|
  nv_oc (n_iastore (by decide +kernel)) <|
  nv_oc (n_vret (by decide +kernel) rfl) <|
  nv_on
def M_X6_thickestOf : nv_MD := (RX6, yX6_thickestOf, cX6_thickestOf, 3, (some .int), 0, 0)
theorem fn_X6_thickestOf : nv_fn M_X6_thickestOf 1 := ⟨List.mem_of_getElem? (i := 926) (by decide +kernel), List.mem_of_getElem? (i := 50) (by decide +kernel), by decide +kernel⟩
theorem st_X6_thickestOf : Cond.static (nv_y M_X6_thickestOf) ∈ lw_tbl := List.mem_of_getElem? (i := 925) (by decide +kernel)
def P_X6_thickestOf : nv_Pg := [(0, s_ki (0) 1), (1, s_is 1 2), (2, s_ki (1) 3), (3, s_is 2 4), (4, s_il 2 5), (5, s_al 0 6), (6, s_ki (17) 8), (8, s_ia 9), (9, s_ic c_ge 37 12), (12, s_al 0 13), (13, s_ki (2) 14), (14, s_il 2 15), (15, s_add 16), (16, s_ia 17), (17, s_al 0 18), (18, s_ki (2) 19), (19, s_il 1 20), (20, s_add 21), (21, s_ia 22), (22, s_ic c_le 29 25), (25, s_il 2 26), (26, s_go 30), (29, s_il 1 30), (30, s_is 1 31), (31, s_inc 2 (1) 34), (34, s_go 4), (37, s_il 1 38), (38, s_ir)]
set_option maxRecDepth 100000 in
set_option maxHeartbeats 4000000 in
theorem ok_X6_thickestOf : nv_ok_P M_X6_thickestOf P_X6_thickestOf :=
  nv_oc (n_iconst (z := 0) (by decide +kernel)) <|
  nv_oc (n_istore_n (k := 1) (by decide +kernel) (by decide)) <|
  nv_oc (n_iconst (z := 1) (by decide +kernel)) <|
  nv_oc (n_istore_n (k := 2) (by decide +kernel) (by decide)) <|
  nv_oc (n_iload_n (k := 2) (by decide +kernel)) <|
  nv_oc (n_aload_n (k := 0) (by decide +kernel)) <|
  nv_oc (n_bipush (z := 17) (by decide +kernel) (by decide)) <|
  nv_oc (n_iaload (by decide +kernel)) <|
  nv_oc (n_icmp_ge (off := 28) (tgt := 37) (by decide +kernel) (by decide)) <|
  nv_oc (n_aload_n (k := 0) (by decide +kernel)) <|
  nv_oc (n_iconst (z := 2) (by decide +kernel)) <|
  nv_oc (n_iload_n (k := 2) (by decide +kernel)) <|
  nv_oc (n_iadd (by decide +kernel)) <|
  nv_oc (n_iaload (by decide +kernel)) <|
  nv_oc (n_aload_n (k := 0) (by decide +kernel)) <|
  nv_oc (n_iconst (z := 2) (by decide +kernel)) <|
  nv_oc (n_iload_n (k := 1) (by decide +kernel)) <|
  nv_oc (n_iadd (by decide +kernel)) <|
  nv_oc (n_iaload (by decide +kernel)) <|
  nv_oc (n_icmp_le (off := 7) (tgt := 29) (by decide +kernel) (by decide)) <|
  nv_oc (n_iload_n (k := 2) (by decide +kernel)) <|
  nv_oc (n_goto (off := 4) (tgt := 30) (by decide +kernel) (by decide)) <|
  nv_oc (n_iload_n (k := 1) (by decide +kernel)) <|
  nv_oc (n_istore_n (k := 1) (by decide +kernel) (by decide)) <|
  nv_oc (n_iinc (k := 2) (d := 1) (by decide +kernel) (by decide)) <|
  nv_oc (n_goto (off := -30) (tgt := 4) (by decide +kernel) (by decide)) <|
  nv_oc (n_iload_n (k := 1) (by decide +kernel)) <|
  nv_oc (n_iret (by decide +kernel) rfl) <|
  nv_on
def M_X6_hourIn : nv_MD := (RX6, yX6_hourIn, cX6_hourIn, 5, none, 2, 42)
theorem fn_X6_hourIn : nv_fn M_X6_hourIn 2 := ⟨List.mem_of_getElem? (i := 917) (by decide +kernel), List.mem_of_getElem? (i := 50) (by decide +kernel), by decide +kernel⟩
theorem fv_X6_hourIn : nv_fnV M_X6_hourIn := ⟨List.mem_of_getElem? (i := 916) (by decide +kernel), List.mem_of_getElem? (i := 34) (by decide +kernel)⟩
def P_X6_hourIn : nv_Pg := [(0, s_ki (0) 1), (1, s_is 3 2), (2, s_il 3 3), (3, s_al 1 4), (4, s_ki (28) 6), (6, s_ia 7), (7, s_ic c_ge 39 10), (10, s_al 0 11), (11, s_gf 6 12 14), (14, s_il 3 15), (15, s_il 2 16), (16, s_il 3 17), (17, s_cs M_X6_has 2 20), (20, s_if c_eq 27 23), (23, s_ki (0) 24), (24, s_go 32), (27, s_al 1 28), (28, s_il 3 29), (29, s_cs M_X6_cuts 2 32), (32, s_iw 33), (33, s_inc 3 (1) 36), (36, s_go 2), (39, s_ki (0) 40), (40, s_is 3 41), (41, s_il 3 42), (42, s_al 1 43), (43, s_ki (28) 45), (45, s_ia 46), (46, s_ic c_ge 149 49), (49, s_al 1 50), (50, s_ki (12) 52), (52, s_il 3 53), (53, s_add 54), (54, s_ia 55), (55, s_is 4 57), (57, s_il 4 59), (59, s_ki (-4) 61), (61, s_ic c_eq 102 64), (64, s_al 1 65), (65, s_ki (2) 66), (66, s_il 4 68), (68, s_add 69), (69, s_al 1 70), (70, s_ki (2) 71), (71, s_il 4 73), (73, s_add 74), (74, s_ia 75), (75, s_al 0 76), (76, s_gf 6 12 79), (79, s_il 3 80), (80, s_ia 81), (81, s_ic c_le 100 84), (84, s_al 1 85), (85, s_ki (2) 86), (86, s_il 4 88), (88, s_add 89), (89, s_ia 90), (90, s_al 0 91), (91, s_gf 6 12 94), (94, s_il 3 95), (95, s_ia 96), (96, s_sub 97), (97, s_go 101), (100, s_ki (0) 101), (101, s_iw 102), (102, s_al 1 103), (103, s_ki (7) 105), (105, s_il 3 106), (106, s_add 107), (107, s_dup2 108), (108, s_ia 109), (109, s_al 1 110), (110, s_ki (0) 111), (111, s_ia 112), (112, s_ki (3) 113), (113, s_rem 114), (114, s_ki (2) 115), (115, s_ic c_eq 118 140), (118, s_al 0 119), (119, s_gf 6 12 122), (122, s_il 3 123), (123, s_ia 124), (124, s_if c_le 140 127), (127, s_al 1 128), (128, s_ki (7) 130), (130, s_il 3 131), (131, s_add 132), (132, s_ia 133), (133, s_if c_le 140 136), (136, s_ki (1) 137), (137, s_go 141), (140, s_ki (0) 141), (141, s_sub 142), (142, s_iw 143), (143, s_inc 3 (1) 146), (146, s_go 41), (149, s_ki (0) 150), (150, s_is 3 151), (151, s_il 3 152), (152, s_al 1 153), (153, s_ki (28) 155), (155, s_ia 156), (156, s_ic c_ge 211 159), (159, s_al 1 160), (160, s_ki (12) 162), (162, s_il 3 163), (163, s_add 164), (164, s_ia 165), (165, s_is 4 167), (167, s_al 1 168), (168, s_ki (12) 170), (170, s_il 3 171), (171, s_add 172), (172, s_il 4 174), (174, s_ki (-4) 176), (176, s_ic c_eq 202 179), (179, s_al 1 180), (180, s_ki (2) 181), (181, s_il 4 183), (183, s_add 184), (184, s_ia 185), (185, s_if c_eq 188 202), (188, s_al 1 189), (189, s_cs M_X6_isAll 1 192), (192, s_if c_eq 195 202), (195, s_al 1 196), (196, s_cs M_X6_thickestOf 1 199), (199, s_go 204), (202, s_il 4 204), (204, s_iw 205), (205, s_inc 3 (1) 208), (208, s_go 151), (211, s_al 1 212), (212, s_ki (0) 213), (213, s_dup2 214), (214, s_ia 215), (215, s_ki (1) 216), (216, s_add 217), (217, s_iw 218), (218, s_vr)]
set_option maxRecDepth 100000 in
set_option maxHeartbeats 4000000 in
theorem ok_X6_hourIn : nv_ok_P M_X6_hourIn P_X6_hourIn :=
  nv_oc (n_iconst (z := 0) (by decide +kernel)) <|
  nv_oc (n_istore_n (k := 3) (by decide +kernel) (by decide)) <|
  nv_oc (n_iload_n (k := 3) (by decide +kernel)) <|
  nv_oc (n_aload_n (k := 1) (by decide +kernel)) <|
  nv_oc (n_bipush (z := 28) (by decide +kernel) (by decide)) <|
  nv_oc (n_iaload (by decide +kernel)) <|
  nv_oc (n_icmp_ge (off := 32) (tgt := 39) (by decide +kernel) (by decide)) <|
  nv_oc (n_aload_n (k := 0) (by decide +kernel)) <|
  nv_oc (n_getfield (idx := 35) (ci := 6) (k := 12) (N := 16) (D := RX6) (T := TX6) (by decide +kernel) rfl i_X6 (by decide) (by decide) f_X6_35) <|
  nv_oc (n_iload_n (k := 3) (by decide +kernel)) <|
  nv_oc (n_iload_n (k := 2) (by decide +kernel)) <|
  nv_oc (n_iload_n (k := 3) (by decide +kernel)) <|
  nv_oc (n_static (M' := M_X6_has) (idx := 121) (n := 2) (by decide +kernel) fn_X6_has st_X6_has l_X6_121 ⟨by decide, by decide⟩) <|
  nv_oc (n_if_eq (off := 7) (tgt := 27) (by decide +kernel) (by decide)) <|
  nv_oc (n_iconst (z := 0) (by decide +kernel)) <|
  nv_oc (n_goto (off := 8) (tgt := 32) (by decide +kernel) (by decide)) <|
  nv_oc (n_aload_n (k := 1) (by decide +kernel)) <|
  nv_oc (n_iload_n (k := 3) (by decide +kernel)) <|
  nv_oc (n_static (M' := M_X6_cuts) (idx := 52) (n := 2) (by decide +kernel) fn_X6_cuts st_X6_cuts l_X6_52 ⟨by decide, by decide⟩) <|
  nv_oc (n_iastore (by decide +kernel)) <|
  nv_oc (n_iinc (k := 3) (d := 1) (by decide +kernel) (by decide)) <|
  nv_oc (n_goto (off := -34) (tgt := 2) (by decide +kernel) (by decide)) <|
  nv_oc (n_iconst (z := 0) (by decide +kernel)) <|
  nv_oc (n_istore_n (k := 3) (by decide +kernel) (by decide)) <|
  nv_oc (n_iload_n (k := 3) (by decide +kernel)) <|
  nv_oc (n_aload_n (k := 1) (by decide +kernel)) <|
  nv_oc (n_bipush (z := 28) (by decide +kernel) (by decide)) <|
  nv_oc (n_iaload (by decide +kernel)) <|
  nv_oc (n_icmp_ge (off := 103) (tgt := 149) (by decide +kernel) (by decide)) <|
  nv_oc (n_aload_n (k := 1) (by decide +kernel)) <|
  nv_oc (n_bipush (z := 12) (by decide +kernel) (by decide)) <|
  nv_oc (n_iload_n (k := 3) (by decide +kernel)) <|
  nv_oc (n_iadd (by decide +kernel)) <|
  nv_oc (n_iaload (by decide +kernel)) <|
  nv_oc (n_istore (k := 4) (by decide +kernel) (by decide)) <|
  nv_oc (n_iload (k := 4) (by decide +kernel)) <|
  nv_oc (n_bipush (z := -4) (by decide +kernel) (by decide)) <|
  nv_oc (n_icmp_eq (off := 41) (tgt := 102) (by decide +kernel) (by decide)) <|
  nv_oc (n_aload_n (k := 1) (by decide +kernel)) <|
  nv_oc (n_iconst (z := 2) (by decide +kernel)) <|
  nv_oc (n_iload (k := 4) (by decide +kernel)) <|
  nv_oc (n_iadd (by decide +kernel)) <|
  nv_oc (n_aload_n (k := 1) (by decide +kernel)) <|
  nv_oc (n_iconst (z := 2) (by decide +kernel)) <|
  nv_oc (n_iload (k := 4) (by decide +kernel)) <|
  nv_oc (n_iadd (by decide +kernel)) <|
  nv_oc (n_iaload (by decide +kernel)) <|
  nv_oc (n_aload_n (k := 0) (by decide +kernel)) <|
  nv_oc (n_getfield (idx := 35) (ci := 6) (k := 12) (N := 16) (D := RX6) (T := TX6) (by decide +kernel) rfl i_X6 (by decide) (by decide) f_X6_35) <|
  nv_oc (n_iload_n (k := 3) (by decide +kernel)) <|
  nv_oc (n_iaload (by decide +kernel)) <|
  nv_oc (n_icmp_le (off := 19) (tgt := 100) (by decide +kernel) (by decide)) <|
  nv_oc (n_aload_n (k := 1) (by decide +kernel)) <|
  nv_oc (n_iconst (z := 2) (by decide +kernel)) <|
  nv_oc (n_iload (k := 4) (by decide +kernel)) <|
  nv_oc (n_iadd (by decide +kernel)) <|
  nv_oc (n_iaload (by decide +kernel)) <|
  nv_oc (n_aload_n (k := 0) (by decide +kernel)) <|
  nv_oc (n_getfield (idx := 35) (ci := 6) (k := 12) (N := 16) (D := RX6) (T := TX6) (by decide +kernel) rfl i_X6 (by decide) (by decide) f_X6_35) <|
  nv_oc (n_iload_n (k := 3) (by decide +kernel)) <|
  nv_oc (n_iaload (by decide +kernel)) <|
  nv_oc (n_isub (by decide +kernel)) <|
  nv_oc (n_goto (off := 4) (tgt := 101) (by decide +kernel) (by decide)) <|
  nv_oc (n_iconst (z := 0) (by decide +kernel)) <|
  nv_oc (n_iastore (by decide +kernel)) <|
  nv_oc (n_aload_n (k := 1) (by decide +kernel)) <|
  nv_oc (n_bipush (z := 7) (by decide +kernel) (by decide)) <|
  nv_oc (n_iload_n (k := 3) (by decide +kernel)) <|
  nv_oc (n_iadd (by decide +kernel)) <|
  nv_oc (n_dup2 (by decide +kernel)) <|
  nv_oc (n_iaload (by decide +kernel)) <|
  nv_oc (n_aload_n (k := 1) (by decide +kernel)) <|
  nv_oc (n_iconst (z := 0) (by decide +kernel)) <|
  nv_oc (n_iaload (by decide +kernel)) <|
  nv_oc (n_iconst (z := 3) (by decide +kernel)) <|
  nv_oc (n_irem (by decide +kernel)) <|
  nv_oc (n_iconst (z := 2) (by decide +kernel)) <|
  nv_oc (n_icmp_ne (off := 25) (tgt := 140) (by decide +kernel) (by decide)) <|
  nv_oc (n_aload_n (k := 0) (by decide +kernel)) <|
  nv_oc (n_getfield (idx := 35) (ci := 6) (k := 12) (N := 16) (D := RX6) (T := TX6) (by decide +kernel) rfl i_X6 (by decide) (by decide) f_X6_35) <|
  nv_oc (n_iload_n (k := 3) (by decide +kernel)) <|
  nv_oc (n_iaload (by decide +kernel)) <|
  nv_oc (n_if_le (off := 16) (tgt := 140) (by decide +kernel) (by decide)) <|
  nv_oc (n_aload_n (k := 1) (by decide +kernel)) <|
  nv_oc (n_bipush (z := 7) (by decide +kernel) (by decide)) <|
  nv_oc (n_iload_n (k := 3) (by decide +kernel)) <|
  nv_oc (n_iadd (by decide +kernel)) <|
  nv_oc (n_iaload (by decide +kernel)) <|
  nv_oc (n_if_le (off := 7) (tgt := 140) (by decide +kernel) (by decide)) <|
  nv_oc (n_iconst (z := 1) (by decide +kernel)) <|
  nv_oc (n_goto (off := 4) (tgt := 141) (by decide +kernel) (by decide)) <|
  nv_oc (n_iconst (z := 0) (by decide +kernel)) <|
  nv_oc (n_isub (by decide +kernel)) <|
  nv_oc (n_iastore (by decide +kernel)) <|
  nv_oc (n_iinc (k := 3) (d := 1) (by decide +kernel) (by decide)) <|
  nv_oc (n_goto (off := -105) (tgt := 41) (by decide +kernel) (by decide)) <|
  nv_oc (n_iconst (z := 0) (by decide +kernel)) <|
  nv_oc (n_istore_n (k := 3) (by decide +kernel) (by decide)) <|
  nv_oc (n_iload_n (k := 3) (by decide +kernel)) <|
  nv_oc (n_aload_n (k := 1) (by decide +kernel)) <|
  nv_oc (n_bipush (z := 28) (by decide +kernel) (by decide)) <|
  nv_oc (n_iaload (by decide +kernel)) <|
  nv_oc (n_icmp_ge (off := 55) (tgt := 211) (by decide +kernel) (by decide)) <|
  nv_oc (n_aload_n (k := 1) (by decide +kernel)) <|
  nv_oc (n_bipush (z := 12) (by decide +kernel) (by decide)) <|
  nv_oc (n_iload_n (k := 3) (by decide +kernel)) <|
  nv_oc (n_iadd (by decide +kernel)) <|
  nv_oc (n_iaload (by decide +kernel)) <|
  nv_oc (n_istore (k := 4) (by decide +kernel) (by decide)) <|
  nv_oc (n_aload_n (k := 1) (by decide +kernel)) <|
  nv_oc (n_bipush (z := 12) (by decide +kernel) (by decide)) <|
  nv_oc (n_iload_n (k := 3) (by decide +kernel)) <|
  nv_oc (n_iadd (by decide +kernel)) <|
  nv_oc (n_iload (k := 4) (by decide +kernel)) <|
  nv_oc (n_bipush (z := -4) (by decide +kernel) (by decide)) <|
  nv_oc (n_icmp_eq (off := 26) (tgt := 202) (by decide +kernel) (by decide)) <|
  nv_oc (n_aload_n (k := 1) (by decide +kernel)) <|
  nv_oc (n_iconst (z := 2) (by decide +kernel)) <|
  nv_oc (n_iload (k := 4) (by decide +kernel)) <|
  nv_oc (n_iadd (by decide +kernel)) <|
  nv_oc (n_iaload (by decide +kernel)) <|
  nv_oc (n_if_ne (off := 17) (tgt := 202) (by decide +kernel) (by decide)) <|
  nv_oc (n_aload_n (k := 1) (by decide +kernel)) <|
  nv_oc (n_static (M' := M_X6_isAll) (idx := 124) (n := 1) (by decide +kernel) fn_X6_isAll st_X6_isAll l_X6_124 ⟨by decide, by decide⟩) <|
  nv_oc (n_if_ne (off := 10) (tgt := 202) (by decide +kernel) (by decide)) <|
  nv_oc (n_aload_n (k := 1) (by decide +kernel)) <|
  nv_oc (n_static (M' := M_X6_thickestOf) (idx := 128) (n := 1) (by decide +kernel) fn_X6_thickestOf st_X6_thickestOf l_X6_128 ⟨by decide, by decide⟩) <|
  nv_oc (n_goto (off := 5) (tgt := 204) (by decide +kernel) (by decide)) <|
  nv_oc (n_iload (k := 4) (by decide +kernel)) <|
  nv_oc (n_iastore (by decide +kernel)) <|
  nv_oc (n_iinc (k := 3) (d := 1) (by decide +kernel) (by decide)) <|
  nv_oc (n_goto (off := -57) (tgt := 151) (by decide +kernel) (by decide)) <|
  nv_oc (n_aload_n (k := 1) (by decide +kernel)) <|
  nv_oc (n_iconst (z := 0) (by decide +kernel)) <|
  nv_oc (n_dup2 (by decide +kernel)) <|
  nv_oc (n_iaload (by decide +kernel)) <|
  nv_oc (n_iconst (z := 1) (by decide +kernel)) <|
  nv_oc (n_iadd (by decide +kernel)) <|
  nv_oc (n_iastore (by decide +kernel)) <|
  nv_oc (n_vret (by decide +kernel) rfl) <|
  nv_on
def M_X6_hours : nv_MD := (RX6, yX6_hours, cX6_hours, 3, (some .int), 3, 66)
theorem fn_X6_hours : nv_fn M_X6_hours 1 := ⟨List.mem_of_getElem? (i := 909) (by decide +kernel), List.mem_of_getElem? (i := 50) (by decide +kernel), by decide +kernel⟩
theorem fv_X6_hours : nv_fnV M_X6_hours := ⟨List.mem_of_getElem? (i := 907) (by decide +kernel), List.mem_of_getElem? (i := 908) (by decide +kernel)⟩
def P_X6_hours : nv_Pg := [(0, s_il 1 1), (1, s_ki (1) 2), (2, s_ki (40) 4), (4, s_cs M_X6_in 3 7), (7, s_if c_eq 10 12), (10, s_ki (-1) 11), (11, s_ir), (12, s_al 0 13), (13, s_gf 6 7 16), (16, s_ki (0) 17), (17, s_ia 18), (18, s_il 1 19), (19, s_add 20), (20, s_ki (9999) 23), (23, s_ic c_le 29 26), (26, s_ki (-3) 28), (28, s_ir), (29, s_ki (0) 30), (30, s_is 2 31), (31, s_il 2 32), (32, s_il 1 33), (33, s_ic c_ge 55 36), (36, s_al 0 37), (37, s_cv 6 M_X6_note 0 40), (40, s_al 0 41), (41, s_al 0 42), (42, s_gf 6 7 45), (45, s_ki (0) 46), (46, s_cv 6 M_X6_hourIn 2 49), (49, s_inc 2 (1) 52), (52, s_go 31), (55, s_al 0 56), (56, s_gf 6 7 59), (59, s_cs M_X6_fallen 1 62), (62, s_ir)]
set_option maxRecDepth 100000 in
set_option maxHeartbeats 4000000 in
theorem ok_X6_hours : nv_ok_P M_X6_hours P_X6_hours :=
  nv_oc (n_iload_n (k := 1) (by decide +kernel)) <|
  nv_oc (n_iconst (z := 1) (by decide +kernel)) <|
  nv_oc (n_bipush (z := 40) (by decide +kernel) (by decide)) <|
  nv_oc (n_static (M' := M_X6_in) (idx := 41) (n := 3) (by decide +kernel) fn_X6_in st_X6_in l_X6_41 ⟨by decide, by decide⟩) <|
  nv_oc (n_if_ne (off := 5) (tgt := 12) (by decide +kernel) (by decide)) <|
  nv_oc (n_iconst (z := -1) (by decide +kernel)) <|
  nv_oc (n_iret (by decide +kernel) rfl) <|
  nv_oc (n_aload_n (k := 0) (by decide +kernel)) <|
  nv_oc (n_getfield (idx := 23) (ci := 6) (k := 7) (N := 16) (D := RX6) (T := TX6) (by decide +kernel) rfl i_X6 (by decide) (by decide) f_X6_23) <|
  nv_oc (n_iconst (z := 0) (by decide +kernel)) <|
  nv_oc (n_iaload (by decide +kernel)) <|
  nv_oc (n_iload_n (k := 1) (by decide +kernel)) <|
  nv_oc (n_iadd (by decide +kernel)) <|
  nv_oc (n_sipush (z := 9999) (by decide +kernel) (by decide)) <|
  nv_oc (n_icmp_le (off := 6) (tgt := 29) (by decide +kernel) (by decide)) <|
  nv_oc (n_bipush (z := -3) (by decide +kernel) (by decide)) <|
  nv_oc (n_iret (by decide +kernel) rfl) <|
  nv_oc (n_iconst (z := 0) (by decide +kernel)) <|
  nv_oc (n_istore_n (k := 2) (by decide +kernel) (by decide)) <|
  nv_oc (n_iload_n (k := 2) (by decide +kernel)) <|
  nv_oc (n_iload_n (k := 1) (by decide +kernel)) <|
  nv_oc (n_icmp_ge (off := 22) (tgt := 55) (by decide +kernel) (by decide)) <|
  nv_oc (n_aload_n (k := 0) (by decide +kernel)) <|
  nv_oc (n_virtual (M' := M_X6_note) (idx := 131) (n := 0) (ci := 6) (N := 16) (D := RX6) (T := TX6) (by decide +kernel) fn_X6_note fv_X6_note rfl rfl l_X6_131 ⟨by decide, by decide⟩) <|
  nv_oc (n_aload_n (k := 0) (by decide +kernel)) <|
  nv_oc (n_aload_n (k := 0) (by decide +kernel)) <|
  nv_oc (n_getfield (idx := 23) (ci := 6) (k := 7) (N := 16) (D := RX6) (T := TX6) (by decide +kernel) rfl i_X6 (by decide) (by decide) f_X6_23) <|
  nv_oc (n_iconst (z := 0) (by decide +kernel)) <|
  nv_oc (n_virtual (M' := M_X6_hourIn) (idx := 134) (n := 2) (ci := 6) (N := 16) (D := RX6) (T := TX6) (by decide +kernel) fn_X6_hourIn fv_X6_hourIn rfl rfl l_X6_134 ⟨by decide, by decide⟩) <|
  nv_oc (n_iinc (k := 2) (d := 1) (by decide +kernel) (by decide)) <|
  nv_oc (n_goto (off := -21) (tgt := 31) (by decide +kernel) (by decide)) <|
  nv_oc (n_aload_n (k := 0) (by decide +kernel)) <|
  nv_oc (n_getfield (idx := 23) (ci := 6) (k := 7) (N := 16) (D := RX6) (T := TX6) (by decide +kernel) rfl i_X6 (by decide) (by decide) f_X6_23) <|
  nv_oc (n_static (M' := M_X6_fallen) (idx := 111) (n := 1) (by decide +kernel) fn_X6_fallen st_X6_fallen l_X6_111 ⟨by decide, by decide⟩) <|
  nv_oc (n_iret (by decide +kernel) rfl) <|
  nv_on
def M_X6_set : nv_MD := (RX6, yX6_set, cX6_set, 4, (some .int), 2, 45)
theorem fn_X6_set : nv_fn M_X6_set 2 := ⟨List.mem_of_getElem? (i := 930) (by decide +kernel), List.mem_of_getElem? (i := 50) (by decide +kernel), by decide +kernel⟩
theorem fv_X6_set : nv_fnV M_X6_set := ⟨List.mem_of_getElem? (i := 928) (by decide +kernel), List.mem_of_getElem? (i := 929) (by decide +kernel)⟩
def P_X6_set : nv_Pg := [(0, s_al 0 1), (1, s_il 1 2), (2, s_cv 6 M_X6_isSawyer 1 5), (5, s_if c_eq 22 8), (8, s_il 2 9), (9, s_ki (-4) 11), (11, s_ic c_eq 24 14), (14, s_al 0 15), (15, s_il 2 16), (16, s_cv 6 M_X6_isPlank 1 19), (19, s_if c_eq 22 24), (22, s_ki (-1) 23), (23, s_ir), (24, s_al 0 25), (25, s_gf 6 7 28), (28, s_ki (12) 30), (30, s_il 1 31), (31, s_add 32), (32, s_ia 33), (33, s_is 3 34), (34, s_il 3 35), (35, s_il 2 36), (36, s_ic c_eq 39 42), (39, s_ki (-2) 41), (41, s_ir), (42, s_al 0 43), (43, s_cv 6 M_X6_note 0 46), (46, s_al 0 47), (47, s_gf 6 7 50), (50, s_ki (12) 52), (52, s_il 1 53), (53, s_add 54), (54, s_il 2 55), (55, s_iw 56), (56, s_il 3 57), (57, s_ir)]
set_option maxRecDepth 100000 in
set_option maxHeartbeats 4000000 in
theorem ok_X6_set : nv_ok_P M_X6_set P_X6_set :=
  nv_oc (n_aload_n (k := 0) (by decide +kernel)) <|
  nv_oc (n_iload_n (k := 1) (by decide +kernel)) <|
  nv_oc (n_virtual (M' := M_X6_isSawyer) (idx := 67) (n := 1) (ci := 6) (N := 16) (D := RX6) (T := TX6) (by decide +kernel) fn_X6_isSawyer fv_X6_isSawyer rfl rfl l_X6_67 ⟨by decide, by decide⟩) <|
  nv_oc (n_if_eq (off := 17) (tgt := 22) (by decide +kernel) (by decide)) <|
  nv_oc (n_iload_n (k := 2) (by decide +kernel)) <|
  nv_oc (n_bipush (z := -4) (by decide +kernel) (by decide)) <|
  nv_oc (n_icmp_eq (off := 13) (tgt := 24) (by decide +kernel) (by decide)) <|
  nv_oc (n_aload_n (k := 0) (by decide +kernel)) <|
  nv_oc (n_iload_n (k := 2) (by decide +kernel)) <|
  nv_oc (n_virtual (M' := M_X6_isPlank) (idx := 56) (n := 1) (ci := 6) (N := 16) (D := RX6) (T := TX6) (by decide +kernel) fn_X6_isPlank fv_X6_isPlank rfl rfl l_X6_56 ⟨by decide, by decide⟩) <|
  nv_oc (n_if_ne (off := 5) (tgt := 24) (by decide +kernel) (by decide)) <|
  nv_oc (n_iconst (z := -1) (by decide +kernel)) <|
  nv_oc (n_iret (by decide +kernel) rfl) <|
  nv_oc (n_aload_n (k := 0) (by decide +kernel)) <|
  nv_oc (n_getfield (idx := 23) (ci := 6) (k := 7) (N := 16) (D := RX6) (T := TX6) (by decide +kernel) rfl i_X6 (by decide) (by decide) f_X6_23) <|
  nv_oc (n_bipush (z := 12) (by decide +kernel) (by decide)) <|
  nv_oc (n_iload_n (k := 1) (by decide +kernel)) <|
  nv_oc (n_iadd (by decide +kernel)) <|
  nv_oc (n_iaload (by decide +kernel)) <|
  nv_oc (n_istore_n (k := 3) (by decide +kernel) (by decide)) <|
  nv_oc (n_iload_n (k := 3) (by decide +kernel)) <|
  nv_oc (n_iload_n (k := 2) (by decide +kernel)) <|
  nv_oc (n_icmp_ne (off := 6) (tgt := 42) (by decide +kernel) (by decide)) <|
  nv_oc (n_bipush (z := -2) (by decide +kernel) (by decide)) <|
  nv_oc (n_iret (by decide +kernel) rfl) <|
  nv_oc (n_aload_n (k := 0) (by decide +kernel)) <|
  nv_oc (n_virtual (M' := M_X6_note) (idx := 131) (n := 0) (ci := 6) (N := 16) (D := RX6) (T := TX6) (by decide +kernel) fn_X6_note fv_X6_note rfl rfl l_X6_131 ⟨by decide, by decide⟩) <|
  nv_oc (n_aload_n (k := 0) (by decide +kernel)) <|
  nv_oc (n_getfield (idx := 23) (ci := 6) (k := 7) (N := 16) (D := RX6) (T := TX6) (by decide +kernel) rfl i_X6 (by decide) (by decide) f_X6_23) <|
  nv_oc (n_bipush (z := 12) (by decide +kernel) (by decide)) <|
  nv_oc (n_iload_n (k := 1) (by decide +kernel)) <|
  nv_oc (n_iadd (by decide +kernel)) <|
  nv_oc (n_iload_n (k := 2) (by decide +kernel)) <|
  nv_oc (n_iastore (by decide +kernel)) <|
  nv_oc (n_iload_n (k := 3) (by decide +kernel)) <|
  nv_oc (n_iret (by decide +kernel) rfl) <|
  nv_on
def M_X6_sharpen : nv_MD := (RX6, yX6_sharpen, cX6_sharpen, 3, (some .int), 2, 45)
theorem fn_X6_sharpen : nv_fn M_X6_sharpen 2 := ⟨List.mem_of_getElem? (i := 934) (by decide +kernel), List.mem_of_getElem? (i := 50) (by decide +kernel), by decide +kernel⟩
theorem fv_X6_sharpen : nv_fnV M_X6_sharpen := ⟨List.mem_of_getElem? (i := 932) (by decide +kernel), List.mem_of_getElem? (i := 933) (by decide +kernel)⟩
def P_X6_sharpen : nv_Pg := [(0, s_al 0 1), (1, s_il 1 2), (2, s_cv 6 M_X6_isSawyer 1 5), (5, s_if c_eq 18 8), (8, s_il 2 9), (9, s_ki (1) 10), (10, s_ki (9) 12), (12, s_cs M_X6_in 3 15), (15, s_if c_eq 18 20), (18, s_ki (-1) 19), (19, s_ir), (20, s_al 0 21), (21, s_gf 6 7 24), (24, s_ki (7) 26), (26, s_il 1 27), (27, s_add 28), (28, s_ia 29), (29, s_ki (9) 31), (31, s_ic c_eq 34 37), (34, s_ki (-2) 36), (36, s_ir), (37, s_al 0 38), (38, s_cv 6 M_X6_note 0 41), (41, s_al 0 42), (42, s_gf 6 7 45), (45, s_ki (7) 47), (47, s_il 1 48), (48, s_add 49), (49, s_al 0 50), (50, s_gf 6 7 53), (53, s_ki (7) 55), (55, s_il 1 56), (56, s_add 57), (57, s_ia 58), (58, s_il 2 59), (59, s_add 60), (60, s_ki (9) 62), (62, s_ic c_le 70 65), (65, s_ki (9) 67), (67, s_go 81), (70, s_al 0 71), (71, s_gf 6 7 74), (74, s_ki (7) 76), (76, s_il 1 77), (77, s_add 78), (78, s_ia 79), (79, s_il 2 80), (80, s_add 81), (81, s_iw 82), (82, s_al 0 83), (83, s_gf 6 7 86), (86, s_ki (7) 88), (88, s_il 1 89), (89, s_add 90), (90, s_ia 91), (91, s_ir)]
set_option maxRecDepth 100000 in
set_option maxHeartbeats 4000000 in
theorem ok_X6_sharpen : nv_ok_P M_X6_sharpen P_X6_sharpen :=
  nv_oc (n_aload_n (k := 0) (by decide +kernel)) <|
  nv_oc (n_iload_n (k := 1) (by decide +kernel)) <|
  nv_oc (n_virtual (M' := M_X6_isSawyer) (idx := 67) (n := 1) (ci := 6) (N := 16) (D := RX6) (T := TX6) (by decide +kernel) fn_X6_isSawyer fv_X6_isSawyer rfl rfl l_X6_67 ⟨by decide, by decide⟩) <|
  nv_oc (n_if_eq (off := 13) (tgt := 18) (by decide +kernel) (by decide)) <|
  nv_oc (n_iload_n (k := 2) (by decide +kernel)) <|
  nv_oc (n_iconst (z := 1) (by decide +kernel)) <|
  nv_oc (n_bipush (z := 9) (by decide +kernel) (by decide)) <|
  nv_oc (n_static (M' := M_X6_in) (idx := 41) (n := 3) (by decide +kernel) fn_X6_in st_X6_in l_X6_41 ⟨by decide, by decide⟩) <|
  nv_oc (n_if_ne (off := 5) (tgt := 20) (by decide +kernel) (by decide)) <|
  nv_oc (n_iconst (z := -1) (by decide +kernel)) <|
  nv_oc (n_iret (by decide +kernel) rfl) <|
  nv_oc (n_aload_n (k := 0) (by decide +kernel)) <|
  nv_oc (n_getfield (idx := 23) (ci := 6) (k := 7) (N := 16) (D := RX6) (T := TX6) (by decide +kernel) rfl i_X6 (by decide) (by decide) f_X6_23) <|
  nv_oc (n_bipush (z := 7) (by decide +kernel) (by decide)) <|
  nv_oc (n_iload_n (k := 1) (by decide +kernel)) <|
  nv_oc (n_iadd (by decide +kernel)) <|
  nv_oc (n_iaload (by decide +kernel)) <|
  nv_oc (n_bipush (z := 9) (by decide +kernel) (by decide)) <|
  nv_oc (n_icmp_ne (off := 6) (tgt := 37) (by decide +kernel) (by decide)) <|
  nv_oc (n_bipush (z := -2) (by decide +kernel) (by decide)) <|
  nv_oc (n_iret (by decide +kernel) rfl) <|
  nv_oc (n_aload_n (k := 0) (by decide +kernel)) <|
  nv_oc (n_virtual (M' := M_X6_note) (idx := 131) (n := 0) (ci := 6) (N := 16) (D := RX6) (T := TX6) (by decide +kernel) fn_X6_note fv_X6_note rfl rfl l_X6_131 ⟨by decide, by decide⟩) <|
  nv_oc (n_aload_n (k := 0) (by decide +kernel)) <|
  nv_oc (n_getfield (idx := 23) (ci := 6) (k := 7) (N := 16) (D := RX6) (T := TX6) (by decide +kernel) rfl i_X6 (by decide) (by decide) f_X6_23) <|
  nv_oc (n_bipush (z := 7) (by decide +kernel) (by decide)) <|
  nv_oc (n_iload_n (k := 1) (by decide +kernel)) <|
  nv_oc (n_iadd (by decide +kernel)) <|
  nv_oc (n_aload_n (k := 0) (by decide +kernel)) <|
  nv_oc (n_getfield (idx := 23) (ci := 6) (k := 7) (N := 16) (D := RX6) (T := TX6) (by decide +kernel) rfl i_X6 (by decide) (by decide) f_X6_23) <|
  nv_oc (n_bipush (z := 7) (by decide +kernel) (by decide)) <|
  nv_oc (n_iload_n (k := 1) (by decide +kernel)) <|
  nv_oc (n_iadd (by decide +kernel)) <|
  nv_oc (n_iaload (by decide +kernel)) <|
  nv_oc (n_iload_n (k := 2) (by decide +kernel)) <|
  nv_oc (n_iadd (by decide +kernel)) <|
  nv_oc (n_bipush (z := 9) (by decide +kernel) (by decide)) <|
  nv_oc (n_icmp_le (off := 8) (tgt := 70) (by decide +kernel) (by decide)) <|
  nv_oc (n_bipush (z := 9) (by decide +kernel) (by decide)) <|
  nv_oc (n_goto (off := 14) (tgt := 81) (by decide +kernel) (by decide)) <|
  nv_oc (n_aload_n (k := 0) (by decide +kernel)) <|
  nv_oc (n_getfield (idx := 23) (ci := 6) (k := 7) (N := 16) (D := RX6) (T := TX6) (by decide +kernel) rfl i_X6 (by decide) (by decide) f_X6_23) <|
  nv_oc (n_bipush (z := 7) (by decide +kernel) (by decide)) <|
  nv_oc (n_iload_n (k := 1) (by decide +kernel)) <|
  nv_oc (n_iadd (by decide +kernel)) <|
  nv_oc (n_iaload (by decide +kernel)) <|
  nv_oc (n_iload_n (k := 2) (by decide +kernel)) <|
  nv_oc (n_iadd (by decide +kernel)) <|
  nv_oc (n_iastore (by decide +kernel)) <|
  nv_oc (n_aload_n (k := 0) (by decide +kernel)) <|
  nv_oc (n_getfield (idx := 23) (ci := 6) (k := 7) (N := 16) (D := RX6) (T := TX6) (by decide +kernel) rfl i_X6 (by decide) (by decide) f_X6_23) <|
  nv_oc (n_bipush (z := 7) (by decide +kernel) (by decide)) <|
  nv_oc (n_iload_n (k := 1) (by decide +kernel)) <|
  nv_oc (n_iadd (by decide +kernel)) <|
  nv_oc (n_iaload (by decide +kernel)) <|
  nv_oc (n_iret (by decide +kernel) rfl) <|
  nv_on
def M_X6_soak : nv_MD := (RX6, yX6_soak, cX6_soak, 4, (some .int), 2, 45)
theorem fn_X6_soak : nv_fn M_X6_soak 2 := ⟨List.mem_of_getElem? (i := 938) (by decide +kernel), List.mem_of_getElem? (i := 50) (by decide +kernel), by decide +kernel⟩
theorem fv_X6_soak : nv_fnV M_X6_soak := ⟨List.mem_of_getElem? (i := 936) (by decide +kernel), List.mem_of_getElem? (i := 937) (by decide +kernel)⟩
def P_X6_soak : nv_Pg := [(0, s_al 0 1), (1, s_il 1 2), (2, s_cv 6 M_X6_isPlank 1 5), (5, s_if c_eq 18 8), (8, s_il 2 9), (9, s_ki (1) 10), (10, s_ki (99) 12), (12, s_cs M_X6_in 3 15), (15, s_if c_eq 18 20), (18, s_ki (-1) 19), (19, s_ir), (20, s_al 0 21), (21, s_gf 6 7 24), (24, s_ki (2) 25), (25, s_il 1 26), (26, s_add 27), (27, s_ia 28), (28, s_is 3 29), (29, s_il 3 30), (30, s_if c_eq 39 33), (33, s_il 3 34), (34, s_ki (99) 36), (36, s_ic c_eq 39 42), (39, s_ki (-2) 41), (41, s_ir), (42, s_al 0 43), (43, s_cv 6 M_X6_note 0 46), (46, s_al 0 47), (47, s_gf 6 7 50), (50, s_ki (2) 51), (51, s_il 1 52), (52, s_add 53), (53, s_il 3 54), (54, s_il 2 55), (55, s_add 56), (56, s_ki (99) 58), (58, s_ic c_le 66 61), (61, s_ki (99) 63), (63, s_go 69), (66, s_il 3 67), (67, s_il 2 68), (68, s_add 69), (69, s_iw 70), (70, s_al 0 71), (71, s_gf 6 7 74), (74, s_ki (2) 75), (75, s_il 1 76), (76, s_add 77), (77, s_ia 78), (78, s_ir)]
set_option maxRecDepth 100000 in
set_option maxHeartbeats 4000000 in
theorem ok_X6_soak : nv_ok_P M_X6_soak P_X6_soak :=
  nv_oc (n_aload_n (k := 0) (by decide +kernel)) <|
  nv_oc (n_iload_n (k := 1) (by decide +kernel)) <|
  nv_oc (n_virtual (M' := M_X6_isPlank) (idx := 56) (n := 1) (ci := 6) (N := 16) (D := RX6) (T := TX6) (by decide +kernel) fn_X6_isPlank fv_X6_isPlank rfl rfl l_X6_56 ⟨by decide, by decide⟩) <|
  nv_oc (n_if_eq (off := 13) (tgt := 18) (by decide +kernel) (by decide)) <|
  nv_oc (n_iload_n (k := 2) (by decide +kernel)) <|
  nv_oc (n_iconst (z := 1) (by decide +kernel)) <|
  nv_oc (n_bipush (z := 99) (by decide +kernel) (by decide)) <|
  nv_oc (n_static (M' := M_X6_in) (idx := 41) (n := 3) (by decide +kernel) fn_X6_in st_X6_in l_X6_41 ⟨by decide, by decide⟩) <|
  nv_oc (n_if_ne (off := 5) (tgt := 20) (by decide +kernel) (by decide)) <|
  nv_oc (n_iconst (z := -1) (by decide +kernel)) <|
  nv_oc (n_iret (by decide +kernel) rfl) <|
  nv_oc (n_aload_n (k := 0) (by decide +kernel)) <|
  nv_oc (n_getfield (idx := 23) (ci := 6) (k := 7) (N := 16) (D := RX6) (T := TX6) (by decide +kernel) rfl i_X6 (by decide) (by decide) f_X6_23) <|
  nv_oc (n_iconst (z := 2) (by decide +kernel)) <|
  nv_oc (n_iload_n (k := 1) (by decide +kernel)) <|
  nv_oc (n_iadd (by decide +kernel)) <|
  nv_oc (n_iaload (by decide +kernel)) <|
  nv_oc (n_istore_n (k := 3) (by decide +kernel) (by decide)) <|
  nv_oc (n_iload_n (k := 3) (by decide +kernel)) <|
  nv_oc (n_if_eq (off := 9) (tgt := 39) (by decide +kernel) (by decide)) <|
  nv_oc (n_iload_n (k := 3) (by decide +kernel)) <|
  nv_oc (n_bipush (z := 99) (by decide +kernel) (by decide)) <|
  nv_oc (n_icmp_ne (off := 6) (tgt := 42) (by decide +kernel) (by decide)) <|
  nv_oc (n_bipush (z := -2) (by decide +kernel) (by decide)) <|
  nv_oc (n_iret (by decide +kernel) rfl) <|
  nv_oc (n_aload_n (k := 0) (by decide +kernel)) <|
  nv_oc (n_virtual (M' := M_X6_note) (idx := 131) (n := 0) (ci := 6) (N := 16) (D := RX6) (T := TX6) (by decide +kernel) fn_X6_note fv_X6_note rfl rfl l_X6_131 ⟨by decide, by decide⟩) <|
  nv_oc (n_aload_n (k := 0) (by decide +kernel)) <|
  nv_oc (n_getfield (idx := 23) (ci := 6) (k := 7) (N := 16) (D := RX6) (T := TX6) (by decide +kernel) rfl i_X6 (by decide) (by decide) f_X6_23) <|
  nv_oc (n_iconst (z := 2) (by decide +kernel)) <|
  nv_oc (n_iload_n (k := 1) (by decide +kernel)) <|
  nv_oc (n_iadd (by decide +kernel)) <|
  nv_oc (n_iload_n (k := 3) (by decide +kernel)) <|
  nv_oc (n_iload_n (k := 2) (by decide +kernel)) <|
  nv_oc (n_iadd (by decide +kernel)) <|
  nv_oc (n_bipush (z := 99) (by decide +kernel) (by decide)) <|
  nv_oc (n_icmp_le (off := 8) (tgt := 66) (by decide +kernel) (by decide)) <|
  nv_oc (n_bipush (z := 99) (by decide +kernel) (by decide)) <|
  nv_oc (n_goto (off := 6) (tgt := 69) (by decide +kernel) (by decide)) <|
  nv_oc (n_iload_n (k := 3) (by decide +kernel)) <|
  nv_oc (n_iload_n (k := 2) (by decide +kernel)) <|
  nv_oc (n_iadd (by decide +kernel)) <|
  nv_oc (n_iastore (by decide +kernel)) <|
  nv_oc (n_aload_n (k := 0) (by decide +kernel)) <|
  nv_oc (n_getfield (idx := 23) (ci := 6) (k := 7) (N := 16) (D := RX6) (T := TX6) (by decide +kernel) rfl i_X6 (by decide) (by decide) f_X6_23) <|
  nv_oc (n_iconst (z := 2) (by decide +kernel)) <|
  nv_oc (n_iload_n (k := 1) (by decide +kernel)) <|
  nv_oc (n_iadd (by decide +kernel)) <|
  nv_oc (n_iaload (by decide +kernel)) <|
  nv_oc (n_iret (by decide +kernel) rfl) <|
  nv_on
def M_X6_drift : nv_MD := (RX6, yX6_drift, cX6_drift, 3, (some .int), 3, 66)
theorem fn_X6_drift : nv_fn M_X6_drift 1 := ⟨List.mem_of_getElem? (i := 942) (by decide +kernel), List.mem_of_getElem? (i := 50) (by decide +kernel), by decide +kernel⟩
theorem fv_X6_drift : nv_fnV M_X6_drift := ⟨List.mem_of_getElem? (i := 940) (by decide +kernel), List.mem_of_getElem? (i := 941) (by decide +kernel)⟩
def P_X6_drift : nv_Pg := [(0, s_il 1 1), (1, s_ki (1) 2), (2, s_ki (40) 4), (4, s_cs M_X6_in 3 7), (7, s_if c_eq 10 12), (10, s_ki (-1) 11), (11, s_ir), (12, s_al 0 13), (13, s_gf 6 7 16), (16, s_ki (0) 17), (17, s_ia 18), (18, s_il 1 19), (19, s_add 20), (20, s_ki (9999) 23), (23, s_ic c_le 29 26), (26, s_ki (-3) 28), (28, s_ir), (29, s_ki (0) 30), (30, s_is 2 31), (31, s_il 2 32), (32, s_il 1 33), (33, s_ic c_ge 144 36), (36, s_al 0 37), (37, s_cv 6 M_X6_note 0 40), (40, s_al 0 41), (41, s_gf 6 7 44), (44, s_ki (1) 45), (45, s_al 0 46), (46, s_gf 6 7 49), (49, s_ki (1) 50), (50, s_ia 51), (51, s_i2l 52), (52, s_kl 1103515245 55), (55, s_lmul 56), (56, s_kl 12345 59), (59, s_ladd 60), (60, s_kl 2147483648 63), (63, s_lrem 64), (64, s_l2i 65), (65, s_iw 66), (66, s_al 0 67), (67, s_gf 6 7 70), (70, s_ki (28) 72), (72, s_ia 73), (73, s_if c_le 129 76), (76, s_al 0 77), (77, s_gf 6 7 80), (80, s_ki (17) 82), (82, s_ia 83), (83, s_if c_le 129 86), (86, s_al 0 87), (87, s_gf 6 7 90), (90, s_ki (12) 92), (92, s_al 0 93), (93, s_gf 6 7 96), (96, s_ki (1) 97), (97, s_ia 98), (98, s_ki 65536 100), (100, s_div 101), (101, s_al 0 102), (102, s_gf 6 7 105), (105, s_ki (28) 107), (107, s_ia 108), (108, s_rem 109), (109, s_add 110), (110, s_al 0 111), (111, s_gf 6 7 114), (114, s_ki (1) 115), (115, s_ia 116), (116, s_ki (128) 119), (119, s_div 120), (120, s_al 0 121), (121, s_gf 6 7 124), (124, s_ki (17) 126), (126, s_ia 127), (127, s_rem 128), (128, s_iw 129), (129, s_al 0 130), (130, s_al 0 131), (131, s_gf 6 7 134), (134, s_ki (0) 135), (135, s_cv 6 M_X6_hourIn 2 138), (138, s_inc 2 (1) 141), (141, s_go 31), (144, s_al 0 145), (145, s_gf 6 7 148), (148, s_cs M_X6_fallen 1 151), (151, s_ir)]
set_option maxRecDepth 100000 in
set_option maxHeartbeats 4000000 in
theorem ok_X6_drift : nv_ok_P M_X6_drift P_X6_drift :=
  nv_oc (n_iload_n (k := 1) (by decide +kernel)) <|
  nv_oc (n_iconst (z := 1) (by decide +kernel)) <|
  nv_oc (n_bipush (z := 40) (by decide +kernel) (by decide)) <|
  nv_oc (n_static (M' := M_X6_in) (idx := 41) (n := 3) (by decide +kernel) fn_X6_in st_X6_in l_X6_41 ⟨by decide, by decide⟩) <|
  nv_oc (n_if_ne (off := 5) (tgt := 12) (by decide +kernel) (by decide)) <|
  nv_oc (n_iconst (z := -1) (by decide +kernel)) <|
  nv_oc (n_iret (by decide +kernel) rfl) <|
  nv_oc (n_aload_n (k := 0) (by decide +kernel)) <|
  nv_oc (n_getfield (idx := 23) (ci := 6) (k := 7) (N := 16) (D := RX6) (T := TX6) (by decide +kernel) rfl i_X6 (by decide) (by decide) f_X6_23) <|
  nv_oc (n_iconst (z := 0) (by decide +kernel)) <|
  nv_oc (n_iaload (by decide +kernel)) <|
  nv_oc (n_iload_n (k := 1) (by decide +kernel)) <|
  nv_oc (n_iadd (by decide +kernel)) <|
  nv_oc (n_sipush (z := 9999) (by decide +kernel) (by decide)) <|
  nv_oc (n_icmp_le (off := 6) (tgt := 29) (by decide +kernel) (by decide)) <|
  nv_oc (n_bipush (z := -3) (by decide +kernel) (by decide)) <|
  nv_oc (n_iret (by decide +kernel) rfl) <|
  nv_oc (n_iconst (z := 0) (by decide +kernel)) <|
  nv_oc (n_istore_n (k := 2) (by decide +kernel) (by decide)) <|
  nv_oc (n_iload_n (k := 2) (by decide +kernel)) <|
  nv_oc (n_iload_n (k := 1) (by decide +kernel)) <|
  nv_oc (n_icmp_ge (off := 111) (tgt := 144) (by decide +kernel) (by decide)) <|
  nv_oc (n_aload_n (k := 0) (by decide +kernel)) <|
  nv_oc (n_virtual (M' := M_X6_note) (idx := 131) (n := 0) (ci := 6) (N := 16) (D := RX6) (T := TX6) (by decide +kernel) fn_X6_note fv_X6_note rfl rfl l_X6_131 ⟨by decide, by decide⟩) <|
  nv_oc (n_aload_n (k := 0) (by decide +kernel)) <|
  nv_oc (n_getfield (idx := 23) (ci := 6) (k := 7) (N := 16) (D := RX6) (T := TX6) (by decide +kernel) rfl i_X6 (by decide) (by decide) f_X6_23) <|
  nv_oc (n_iconst (z := 1) (by decide +kernel)) <|
  nv_oc (n_aload_n (k := 0) (by decide +kernel)) <|
  nv_oc (n_getfield (idx := 23) (ci := 6) (k := 7) (N := 16) (D := RX6) (T := TX6) (by decide +kernel) rfl i_X6 (by decide) (by decide) f_X6_23) <|
  nv_oc (n_iconst (z := 1) (by decide +kernel)) <|
  nv_oc (n_iaload (by decide +kernel)) <|
  nv_oc (n_i2l (by decide +kernel)) <|
  nv_oc (n_ldc2 (i := 138) (z := 1103515245) (by decide +kernel) k_X6_138) <|
  nv_oc (n_lmul (by decide +kernel)) <|
  nv_oc (n_ldc2 (i := 140) (z := 12345) (by decide +kernel) k_X6_140) <|
  nv_oc (n_ladd (by decide +kernel)) <|
  nv_oc (n_ldc2 (i := 142) (z := 2147483648) (by decide +kernel) k_X6_142) <|
  nv_oc (n_lrem (by decide +kernel)) <|
  nv_oc (n_l2i (by decide +kernel)) <|
  nv_oc (n_iastore (by decide +kernel)) <|
  nv_oc (n_aload_n (k := 0) (by decide +kernel)) <|
  nv_oc (n_getfield (idx := 23) (ci := 6) (k := 7) (N := 16) (D := RX6) (T := TX6) (by decide +kernel) rfl i_X6 (by decide) (by decide) f_X6_23) <|
  nv_oc (n_bipush (z := 28) (by decide +kernel) (by decide)) <|
  nv_oc (n_iaload (by decide +kernel)) <|
  nv_oc (n_if_le (off := 56) (tgt := 129) (by decide +kernel) (by decide)) <|
  nv_oc (n_aload_n (k := 0) (by decide +kernel)) <|
  nv_oc (n_getfield (idx := 23) (ci := 6) (k := 7) (N := 16) (D := RX6) (T := TX6) (by decide +kernel) rfl i_X6 (by decide) (by decide) f_X6_23) <|
  nv_oc (n_bipush (z := 17) (by decide +kernel) (by decide)) <|
  nv_oc (n_iaload (by decide +kernel)) <|
  nv_oc (n_if_le (off := 46) (tgt := 129) (by decide +kernel) (by decide)) <|
  nv_oc (n_aload_n (k := 0) (by decide +kernel)) <|
  nv_oc (n_getfield (idx := 23) (ci := 6) (k := 7) (N := 16) (D := RX6) (T := TX6) (by decide +kernel) rfl i_X6 (by decide) (by decide) f_X6_23) <|
  nv_oc (n_bipush (z := 12) (by decide +kernel) (by decide)) <|
  nv_oc (n_aload_n (k := 0) (by decide +kernel)) <|
  nv_oc (n_getfield (idx := 23) (ci := 6) (k := 7) (N := 16) (D := RX6) (T := TX6) (by decide +kernel) rfl i_X6 (by decide) (by decide) f_X6_23) <|
  nv_oc (n_iconst (z := 1) (by decide +kernel)) <|
  nv_oc (n_iaload (by decide +kernel)) <|
  nv_oc (n_ldc (i := 144) (z := 65536) (by decide +kernel) k_X6_144) <|
  nv_oc (n_idiv (by decide +kernel)) <|
  nv_oc (n_aload_n (k := 0) (by decide +kernel)) <|
  nv_oc (n_getfield (idx := 23) (ci := 6) (k := 7) (N := 16) (D := RX6) (T := TX6) (by decide +kernel) rfl i_X6 (by decide) (by decide) f_X6_23) <|
  nv_oc (n_bipush (z := 28) (by decide +kernel) (by decide)) <|
  nv_oc (n_iaload (by decide +kernel)) <|
  nv_oc (n_irem (by decide +kernel)) <|
  nv_oc (n_iadd (by decide +kernel)) <|
  nv_oc (n_aload_n (k := 0) (by decide +kernel)) <|
  nv_oc (n_getfield (idx := 23) (ci := 6) (k := 7) (N := 16) (D := RX6) (T := TX6) (by decide +kernel) rfl i_X6 (by decide) (by decide) f_X6_23) <|
  nv_oc (n_iconst (z := 1) (by decide +kernel)) <|
  nv_oc (n_iaload (by decide +kernel)) <|
  nv_oc (n_sipush (z := 128) (by decide +kernel) (by decide)) <|
  nv_oc (n_idiv (by decide +kernel)) <|
  nv_oc (n_aload_n (k := 0) (by decide +kernel)) <|
  nv_oc (n_getfield (idx := 23) (ci := 6) (k := 7) (N := 16) (D := RX6) (T := TX6) (by decide +kernel) rfl i_X6 (by decide) (by decide) f_X6_23) <|
  nv_oc (n_bipush (z := 17) (by decide +kernel) (by decide)) <|
  nv_oc (n_iaload (by decide +kernel)) <|
  nv_oc (n_irem (by decide +kernel)) <|
  nv_oc (n_iastore (by decide +kernel)) <|
  nv_oc (n_aload_n (k := 0) (by decide +kernel)) <|
  nv_oc (n_aload_n (k := 0) (by decide +kernel)) <|
  nv_oc (n_getfield (idx := 23) (ci := 6) (k := 7) (N := 16) (D := RX6) (T := TX6) (by decide +kernel) rfl i_X6 (by decide) (by decide) f_X6_23) <|
  nv_oc (n_iconst (z := 0) (by decide +kernel)) <|
  nv_oc (n_virtual (M' := M_X6_hourIn) (idx := 134) (n := 2) (ci := 6) (N := 16) (D := RX6) (T := TX6) (by decide +kernel) fn_X6_hourIn fv_X6_hourIn rfl rfl l_X6_134 ⟨by decide, by decide⟩) <|
  nv_oc (n_iinc (k := 2) (d := 1) (by decide +kernel) (by decide)) <|
  nv_oc (n_goto (off := -110) (tgt := 31) (by decide +kernel) (by decide)) <|
  nv_oc (n_aload_n (k := 0) (by decide +kernel)) <|
  nv_oc (n_getfield (idx := 23) (ci := 6) (k := 7) (N := 16) (D := RX6) (T := TX6) (by decide +kernel) rfl i_X6 (by decide) (by decide) f_X6_23) <|
  nv_oc (n_static (M' := M_X6_fallen) (idx := 111) (n := 1) (by decide +kernel) fn_X6_fallen st_X6_fallen l_X6_111 ⟨by decide, by decide⟩) <|
  nv_oc (n_iret (by decide +kernel) rfl) <|
  nv_on
end
section
def M_X6_undo : nv_MD := (RX6, yX6_undo, cX6_undo, 1, (some .int), 1, 25)
theorem fn_X6_undo : nv_fn M_X6_undo 0 := ⟨List.mem_of_getElem? (i := 950) (by decide +kernel), List.mem_of_getElem? (i := 50) (by decide +kernel), by decide +kernel⟩
theorem fv_X6_undo : nv_fnV M_X6_undo := ⟨List.mem_of_getElem? (i := 948) (by decide +kernel), List.mem_of_getElem? (i := 949) (by decide +kernel)⟩
def P_X6_undo : nv_Pg := [(0, s_al 0 1), (1, s_gf 6 7 4), (4, s_ki (34) 6), (6, s_ia 7), (7, s_if c_eq 10 13), (10, s_ki (-4) 12), (12, s_ir), (13, s_al 0 14), (14, s_gf 6 7 17), (17, s_ki (34) 19), (19, s_dup2 20), (20, s_ia 21), (21, s_ki (1) 22), (22, s_sub 23), (23, s_iw 24), (24, s_al 0 25), (25, s_gf 6 7 28), (28, s_ki (35) 30), (30, s_ki (17) 32), (32, s_al 0 33), (33, s_gf 6 7 36), (36, s_ki (34) 38), (38, s_ia 39), (39, s_mul 40), (40, s_add 41), (41, s_al 0 42), (42, s_gf 6 7 45), (45, s_ki (0) 46), (46, s_ki (17) 48), (48, s_cs M_X6_bring 5 51), (51, s_al 0 52), (52, s_gf 6 7 55), (55, s_ki (34) 57), (57, s_ia 58), (58, s_ir)]
set_option maxRecDepth 100000 in
set_option maxHeartbeats 4000000 in
theorem ok_X6_undo : nv_ok_P M_X6_undo P_X6_undo :=
  nv_oc (n_aload_n (k := 0) (by decide +kernel)) <|
  nv_oc (n_getfield (idx := 23) (ci := 6) (k := 7) (N := 16) (D := RX6) (T := TX6) (by decide +kernel) rfl i_X6 (by decide) (by decide) f_X6_23) <|
  nv_oc (n_bipush (z := 34) (by decide +kernel) (by decide)) <|
  nv_oc (n_iaload (by decide +kernel)) <|
  nv_oc (n_if_ne (off := 6) (tgt := 13) (by decide +kernel) (by decide)) <|
  nv_oc (n_bipush (z := -4) (by decide +kernel) (by decide)) <|
  nv_oc (n_iret (by decide +kernel) rfl) <|
  nv_oc (n_aload_n (k := 0) (by decide +kernel)) <|
  nv_oc (n_getfield (idx := 23) (ci := 6) (k := 7) (N := 16) (D := RX6) (T := TX6) (by decide +kernel) rfl i_X6 (by decide) (by decide) f_X6_23) <|
  nv_oc (n_bipush (z := 34) (by decide +kernel) (by decide)) <|
  nv_oc (n_dup2 (by decide +kernel)) <|
  nv_oc (n_iaload (by decide +kernel)) <|
  nv_oc (n_iconst (z := 1) (by decide +kernel)) <|
  nv_oc (n_isub (by decide +kernel)) <|
  nv_oc (n_iastore (by decide +kernel)) <|
  nv_oc (n_aload_n (k := 0) (by decide +kernel)) <|
  nv_oc (n_getfield (idx := 23) (ci := 6) (k := 7) (N := 16) (D := RX6) (T := TX6) (by decide +kernel) rfl i_X6 (by decide) (by decide) f_X6_23) <|
  nv_oc (n_bipush (z := 35) (by decide +kernel) (by decide)) <|
  nv_oc (n_bipush (z := 17) (by decide +kernel) (by decide)) <|
  nv_oc (n_aload_n (k := 0) (by decide +kernel)) <|
  nv_oc (n_getfield (idx := 23) (ci := 6) (k := 7) (N := 16) (D := RX6) (T := TX6) (by decide +kernel) rfl i_X6 (by decide) (by decide) f_X6_23) <|
  nv_oc (n_bipush (z := 34) (by decide +kernel) (by decide)) <|
  nv_oc (n_iaload (by decide +kernel)) <|
  nv_oc (n_imul (by decide +kernel)) <|
  nv_oc (n_iadd (by decide +kernel)) <|
  nv_oc (n_aload_n (k := 0) (by decide +kernel)) <|
  nv_oc (n_getfield (idx := 23) (ci := 6) (k := 7) (N := 16) (D := RX6) (T := TX6) (by decide +kernel) rfl i_X6 (by decide) (by decide) f_X6_23) <|
  nv_oc (n_iconst (z := 0) (by decide +kernel)) <|
  nv_oc (n_bipush (z := 17) (by decide +kernel) (by decide)) <|
  nv_oc (n_static (M' := M_X6_bring) (idx := 107) (n := 5) (by decide +kernel) fn_X6_bring st_X6_bring l_X6_107 ⟨by decide, by decide⟩) <|
  nv_oc (n_aload_n (k := 0) (by decide +kernel)) <|
  nv_oc (n_getfield (idx := 23) (ci := 6) (k := 7) (N := 16) (D := RX6) (T := TX6) (by decide +kernel) rfl i_X6 (by decide) (by decide) f_X6_23) <|
  nv_oc (n_bipush (z := 34) (by decide +kernel) (by decide)) <|
  nv_oc (n_iaload (by decide +kernel)) <|
  nv_oc (n_iret (by decide +kernel) rfl) <|
  nv_on
def M_X6_seed : nv_MD := (RX6, yX6_seed, cX6_seed, 3, (some .int), 0, 0)
theorem fn_X6_seed : nv_fn M_X6_seed 1 := ⟨List.mem_of_getElem? (i := 954) (by decide +kernel), List.mem_of_getElem? (i := 50) (by decide +kernel), by decide +kernel⟩
theorem fv_X6_seed : nv_fnV M_X6_seed := ⟨List.mem_of_getElem? (i := 952) (by decide +kernel), List.mem_of_getElem? (i := 953) (by decide +kernel)⟩
def P_X6_seed : nv_Pg := [(0, s_il 1 1), (1, s_if c_ge 6 4), (4, s_ki (-1) 5), (5, s_ir), (6, s_al 0 7), (7, s_gf 6 7 10), (10, s_ki (1) 11), (11, s_ia 12), (12, s_is 2 13), (13, s_al 0 14), (14, s_gf 6 7 17), (17, s_ki (1) 18), (18, s_il 1 19), (19, s_iw 20), (20, s_il 2 21), (21, s_ir)]
set_option maxRecDepth 100000 in
set_option maxHeartbeats 4000000 in
theorem ok_X6_seed : nv_ok_P M_X6_seed P_X6_seed :=
  nv_oc (n_iload_n (k := 1) (by decide +kernel)) <|
  nv_oc (n_if_ge (off := 5) (tgt := 6) (by decide +kernel) (by decide)) <|
  nv_oc (n_iconst (z := -1) (by decide +kernel)) <|
  nv_oc (n_iret (by decide +kernel) rfl) <|
  nv_oc (n_aload_n (k := 0) (by decide +kernel)) <|
  nv_oc (n_getfield (idx := 23) (ci := 6) (k := 7) (N := 16) (D := RX6) (T := TX6) (by decide +kernel) rfl i_X6 (by decide) (by decide) f_X6_23) <|
  nv_oc (n_iconst (z := 1) (by decide +kernel)) <|
  nv_oc (n_iaload (by decide +kernel)) <|
  nv_oc (n_istore_n (k := 2) (by decide +kernel) (by decide)) <|
  nv_oc (n_aload_n (k := 0) (by decide +kernel)) <|
  nv_oc (n_getfield (idx := 23) (ci := 6) (k := 7) (N := 16) (D := RX6) (T := TX6) (by decide +kernel) rfl i_X6 (by decide) (by decide) f_X6_23) <|
  nv_oc (n_iconst (z := 1) (by decide +kernel)) <|
  nv_oc (n_iload_n (k := 1) (by decide +kernel)) <|
  nv_oc (n_iastore (by decide +kernel)) <|
  nv_oc (n_iload_n (k := 2) (by decide +kernel)) <|
  nv_oc (n_iret (by decide +kernel) rfl) <|
  nv_on
def M_X6_begin : nv_MD := (RX6, yX6_begin, cX6_begin, 1, none, 1, 25)
theorem fn_X6_begin : nv_fn M_X6_begin 0 := ⟨List.mem_of_getElem? (i := 962) (by decide +kernel), List.mem_of_getElem? (i := 50) (by decide +kernel), by decide +kernel⟩
theorem fv_X6_begin : nv_fnV M_X6_begin := ⟨List.mem_of_getElem? (i := 961) (by decide +kernel), List.mem_of_getElem? (i := 35) (by decide +kernel)⟩
def P_X6_begin : nv_Pg := [(0, s_al 0 1), (1, s_gf 6 7 4), (4, s_ki (0) 5), (5, s_al 0 6), (6, s_gf 6 8 9), (9, s_ki (0) 10), (10, s_ki (34) 12), (12, s_cs M_X6_bring 5 15), (15, s_vr)]
set_option maxRecDepth 100000 in
set_option maxHeartbeats 4000000 in
theorem ok_X6_begin : nv_ok_P M_X6_begin P_X6_begin :=
  nv_oc (n_aload_n (k := 0) (by decide +kernel)) <|
  nv_oc (n_getfield (idx := 23) (ci := 6) (k := 7) (N := 16) (D := RX6) (T := TX6) (by decide +kernel) rfl i_X6 (by decide) (by decide) f_X6_23) <|
  nv_oc (n_iconst (z := 0) (by decide +kernel)) <|
  nv_oc (n_aload_n (k := 0) (by decide +kernel)) <|
  nv_oc (n_getfield (idx := 26) (ci := 6) (k := 8) (N := 16) (D := RX6) (T := TX6) (by decide +kernel) rfl i_X6 (by decide) (by decide) f_X6_26) <|
  nv_oc (n_iconst (z := 0) (by decide +kernel)) <|
  nv_oc (n_bipush (z := 34) (by decide +kernel) (by decide)) <|
  nv_oc (n_static (M' := M_X6_bring) (idx := 107) (n := 5) (by decide +kernel) fn_X6_bring st_X6_bring l_X6_107 ⟨by decide, by decide⟩) <|
  nv_oc (n_vret (by decide +kernel) rfl) <|
  nv_on
def M_X6_goOn : nv_MD := (RX6, yX6_goOn, cX6_goOn, 3, none, 3, 66)
theorem fn_X6_goOn : nv_fn M_X6_goOn 1 := ⟨List.mem_of_getElem? (i := 966) (by decide +kernel), List.mem_of_getElem? (i := 50) (by decide +kernel), by decide +kernel⟩
theorem fv_X6_goOn : nv_fnV M_X6_goOn := ⟨List.mem_of_getElem? (i := 965) (by decide +kernel), List.mem_of_getElem? (i := 36) (by decide +kernel)⟩
def P_X6_goOn : nv_Pg := [(0, s_ki (0) 1), (1, s_is 2 2), (2, s_il 2 3), (3, s_il 1 4), (4, s_ic c_ge 22 7), (7, s_al 0 8), (8, s_al 0 9), (9, s_gf 6 8 12), (12, s_ki (0) 13), (13, s_cv 6 M_X6_hourIn 2 16), (16, s_inc 2 (1) 19), (19, s_go 2), (22, s_vr)]
set_option maxRecDepth 100000 in
set_option maxHeartbeats 4000000 in
theorem ok_X6_goOn : nv_ok_P M_X6_goOn P_X6_goOn :=
  nv_oc (n_iconst (z := 0) (by decide +kernel)) <|
  nv_oc (n_istore_n (k := 2) (by decide +kernel) (by decide)) <|
  nv_oc (n_iload_n (k := 2) (by decide +kernel)) <|
  nv_oc (n_iload_n (k := 1) (by decide +kernel)) <|
  nv_oc (n_icmp_ge (off := 18) (tgt := 22) (by decide +kernel) (by decide)) <|
  nv_oc (n_aload_n (k := 0) (by decide +kernel)) <|
  nv_oc (n_aload_n (k := 0) (by decide +kernel)) <|
  nv_oc (n_getfield (idx := 26) (ci := 6) (k := 8) (N := 16) (D := RX6) (T := TX6) (by decide +kernel) rfl i_X6 (by decide) (by decide) f_X6_26) <|
  nv_oc (n_iconst (z := 0) (by decide +kernel)) <|
  nv_oc (n_virtual (M' := M_X6_hourIn) (idx := 134) (n := 2) (ci := 6) (N := 16) (D := RX6) (T := TX6) (by decide +kernel) fn_X6_hourIn fv_X6_hourIn rfl rfl l_X6_134 ⟨by decide, by decide⟩) <|
  nv_oc (n_iinc (k := 2) (d := 1) (by decide +kernel) (by decide)) <|
  nv_oc (n_goto (off := -17) (tgt := 2) (by decide +kernel) (by decide)) <|
  nv_oc (n_vret (by decide +kernel) rfl) <|
  nv_on
def M_X6_left : nv_MD := (RX6, yX6_left, cX6_left, 3, (some .int), 4, 88)
theorem fn_X6_left : nv_fn M_X6_left 2 := ⟨List.mem_of_getElem? (i := 958) (by decide +kernel), List.mem_of_getElem? (i := 50) (by decide +kernel), by decide +kernel⟩
theorem fv_X6_left : nv_fnV M_X6_left := ⟨List.mem_of_getElem? (i := 956) (by decide +kernel), List.mem_of_getElem? (i := 957) (by decide +kernel)⟩
def P_X6_left : nv_Pg := [(0, s_al 0 1), (1, s_il 1 2), (2, s_cv 6 M_X6_isPlank 1 5), (5, s_if c_eq 18 8), (8, s_il 2 9), (9, s_ki (0) 10), (10, s_ki (60) 12), (12, s_cs M_X6_in 3 15), (15, s_if c_eq 18 20), (18, s_ki (-1) 19), (19, s_ir), (20, s_al 0 21), (21, s_cv 6 M_X6_begin 0 24), (24, s_al 0 25), (25, s_il 2 26), (26, s_cv 6 M_X6_goOn 1 29), (29, s_al 0 30), (30, s_gf 6 8 33), (33, s_ki (2) 34), (34, s_il 1 35), (35, s_add 36), (36, s_ia 37), (37, s_ir)]
set_option maxRecDepth 100000 in
set_option maxHeartbeats 4000000 in
theorem ok_X6_left : nv_ok_P M_X6_left P_X6_left :=
  nv_oc (n_aload_n (k := 0) (by decide +kernel)) <|
  nv_oc (n_iload_n (k := 1) (by decide +kernel)) <|
  nv_oc (n_virtual (M' := M_X6_isPlank) (idx := 56) (n := 1) (ci := 6) (N := 16) (D := RX6) (T := TX6) (by decide +kernel) fn_X6_isPlank fv_X6_isPlank rfl rfl l_X6_56 ⟨by decide, by decide⟩) <|
  nv_oc (n_if_eq (off := 13) (tgt := 18) (by decide +kernel) (by decide)) <|
  nv_oc (n_iload_n (k := 2) (by decide +kernel)) <|
  nv_oc (n_iconst (z := 0) (by decide +kernel)) <|
  nv_oc (n_bipush (z := 60) (by decide +kernel) (by decide)) <|
  nv_oc (n_static (M' := M_X6_in) (idx := 41) (n := 3) (by decide +kernel) fn_X6_in st_X6_in l_X6_41 ⟨by decide, by decide⟩) <|
  nv_oc (n_if_ne (off := 5) (tgt := 20) (by decide +kernel) (by decide)) <|
  nv_oc (n_iconst (z := -1) (by decide +kernel)) <|
  nv_oc (n_iret (by decide +kernel) rfl) <|
  nv_oc (n_aload_n (k := 0) (by decide +kernel)) <|
  nv_oc (n_virtual (M' := M_X6_begin) (idx := 145) (n := 0) (ci := 6) (N := 16) (D := RX6) (T := TX6) (by decide +kernel) fn_X6_begin fv_X6_begin rfl rfl l_X6_145 ⟨by decide, by decide⟩) <|
  nv_oc (n_aload_n (k := 0) (by decide +kernel)) <|
  nv_oc (n_iload_n (k := 2) (by decide +kernel)) <|
  nv_oc (n_virtual (M' := M_X6_goOn) (idx := 148) (n := 1) (ci := 6) (N := 16) (D := RX6) (T := TX6) (by decide +kernel) fn_X6_goOn fv_X6_goOn rfl rfl l_X6_148 ⟨by decide, by decide⟩) <|
  nv_oc (n_aload_n (k := 0) (by decide +kernel)) <|
  nv_oc (n_getfield (idx := 26) (ci := 6) (k := 8) (N := 16) (D := RX6) (T := TX6) (by decide +kernel) rfl i_X6 (by decide) (by decide) f_X6_26) <|
  nv_oc (n_iconst (z := 2) (by decide +kernel)) <|
  nv_oc (n_iload_n (k := 1) (by decide +kernel)) <|
  nv_oc (n_iadd (by decide +kernel)) <|
  nv_oc (n_iaload (by decide +kernel)) <|
  nv_oc (n_iret (by decide +kernel) rfl) <|
  nv_on
def M_X6_ahead : nv_MD := (RX6, yX6_ahead, cX6_ahead, 4, (some .int), 4, 88)
theorem fn_X6_ahead : nv_fn M_X6_ahead 3 := ⟨List.mem_of_getElem? (i := 970) (by decide +kernel), List.mem_of_getElem? (i := 50) (by decide +kernel), by decide +kernel⟩
theorem fv_X6_ahead : nv_fnV M_X6_ahead := ⟨List.mem_of_getElem? (i := 968) (by decide +kernel), List.mem_of_getElem? (i := 969) (by decide +kernel)⟩
def P_X6_ahead : nv_Pg := [(0, s_al 0 1), (1, s_il 1 2), (2, s_cv 6 M_X6_isSawyer 1 5), (5, s_if c_eq 27 8), (8, s_il 2 9), (9, s_ki (0) 10), (10, s_ki (60) 12), (12, s_cs M_X6_in 3 15), (15, s_if c_eq 27 18), (18, s_il 3 19), (19, s_ki (0) 20), (20, s_ki (1) 21), (21, s_cs M_X6_in 3 24), (24, s_if c_eq 27 29), (27, s_ki (-1) 28), (28, s_ir), (29, s_al 0 30), (30, s_cv 6 M_X6_begin 0 33), (33, s_al 0 34), (34, s_il 2 35), (35, s_cv 6 M_X6_goOn 1 38), (38, s_il 3 39), (39, s_if c_eq 42 54), (42, s_al 0 43), (43, s_gf 6 8 46), (46, s_ki (7) 48), (48, s_il 1 49), (49, s_add 50), (50, s_ia 51), (51, s_go 63), (54, s_al 0 55), (55, s_gf 6 8 58), (58, s_ki (12) 60), (60, s_il 1 61), (61, s_add 62), (62, s_ia 63), (63, s_ir)]
set_option maxRecDepth 100000 in
set_option maxHeartbeats 4000000 in
theorem ok_X6_ahead : nv_ok_P M_X6_ahead P_X6_ahead :=
  nv_oc (n_aload_n (k := 0) (by decide +kernel)) <|
  nv_oc (n_iload_n (k := 1) (by decide +kernel)) <|
  nv_oc (n_virtual (M' := M_X6_isSawyer) (idx := 67) (n := 1) (ci := 6) (N := 16) (D := RX6) (T := TX6) (by decide +kernel) fn_X6_isSawyer fv_X6_isSawyer rfl rfl l_X6_67 ⟨by decide, by decide⟩) <|
  nv_oc (n_if_eq (off := 22) (tgt := 27) (by decide +kernel) (by decide)) <|
  nv_oc (n_iload_n (k := 2) (by decide +kernel)) <|
  nv_oc (n_iconst (z := 0) (by decide +kernel)) <|
  nv_oc (n_bipush (z := 60) (by decide +kernel) (by decide)) <|
  nv_oc (n_static (M' := M_X6_in) (idx := 41) (n := 3) (by decide +kernel) fn_X6_in st_X6_in l_X6_41 ⟨by decide, by decide⟩) <|
  nv_oc (n_if_eq (off := 12) (tgt := 27) (by decide +kernel) (by decide)) <|
  nv_oc (n_iload_n (k := 3) (by decide +kernel)) <|
  nv_oc (n_iconst (z := 0) (by decide +kernel)) <|
  nv_oc (n_iconst (z := 1) (by decide +kernel)) <|
  nv_oc (n_static (M' := M_X6_in) (idx := 41) (n := 3) (by decide +kernel) fn_X6_in st_X6_in l_X6_41 ⟨by decide, by decide⟩) <|
  nv_oc (n_if_ne (off := 5) (tgt := 29) (by decide +kernel) (by decide)) <|
  nv_oc (n_iconst (z := -1) (by decide +kernel)) <|
  nv_oc (n_iret (by decide +kernel) rfl) <|
  nv_oc (n_aload_n (k := 0) (by decide +kernel)) <|
  nv_oc (n_virtual (M' := M_X6_begin) (idx := 145) (n := 0) (ci := 6) (N := 16) (D := RX6) (T := TX6) (by decide +kernel) fn_X6_begin fv_X6_begin rfl rfl l_X6_145 ⟨by decide, by decide⟩) <|
  nv_oc (n_aload_n (k := 0) (by decide +kernel)) <|
  nv_oc (n_iload_n (k := 2) (by decide +kernel)) <|
  nv_oc (n_virtual (M' := M_X6_goOn) (idx := 148) (n := 1) (ci := 6) (N := 16) (D := RX6) (T := TX6) (by decide +kernel) fn_X6_goOn fv_X6_goOn rfl rfl l_X6_148 ⟨by decide, by decide⟩) <|
  nv_oc (n_iload_n (k := 3) (by decide +kernel)) <|
  nv_oc (n_if_ne (off := 15) (tgt := 54) (by decide +kernel) (by decide)) <|
  nv_oc (n_aload_n (k := 0) (by decide +kernel)) <|
  nv_oc (n_getfield (idx := 26) (ci := 6) (k := 8) (N := 16) (D := RX6) (T := TX6) (by decide +kernel) rfl i_X6 (by decide) (by decide) f_X6_26) <|
  nv_oc (n_bipush (z := 7) (by decide +kernel) (by decide)) <|
  nv_oc (n_iload_n (k := 1) (by decide +kernel)) <|
  nv_oc (n_iadd (by decide +kernel)) <|
  nv_oc (n_iaload (by decide +kernel)) <|
  nv_oc (n_goto (off := 12) (tgt := 63) (by decide +kernel) (by decide)) <|
  nv_oc (n_aload_n (k := 0) (by decide +kernel)) <|
  nv_oc (n_getfield (idx := 26) (ci := 6) (k := 8) (N := 16) (D := RX6) (T := TX6) (by decide +kernel) rfl i_X6 (by decide) (by decide) f_X6_26) <|
  nv_oc (n_bipush (z := 12) (by decide +kernel) (by decide)) <|
  nv_oc (n_iload_n (k := 1) (by decide +kernel)) <|
  nv_oc (n_iadd (by decide +kernel)) <|
  nv_oc (n_iaload (by decide +kernel)) <|
  nv_oc (n_iret (by decide +kernel) rfl) <|
  nv_on
def M_X6_then : nv_MD := (RX6, yX6_then, cX6_then, 2, (some .int), 4, 88)
theorem fn_X6_then : nv_fn M_X6_then 1 := ⟨List.mem_of_getElem? (i := 974) (by decide +kernel), List.mem_of_getElem? (i := 50) (by decide +kernel), by decide +kernel⟩
theorem fv_X6_then : nv_fnV M_X6_then := ⟨List.mem_of_getElem? (i := 972) (by decide +kernel), List.mem_of_getElem? (i := 973) (by decide +kernel)⟩
def P_X6_then : nv_Pg := [(0, s_il 1 1), (1, s_ki (0) 2), (2, s_ki (60) 4), (4, s_cs M_X6_in 3 7), (7, s_if c_eq 10 12), (10, s_ki (-1) 11), (11, s_ir), (12, s_al 0 13), (13, s_cv 6 M_X6_begin 0 16), (16, s_al 0 17), (17, s_il 1 18), (18, s_cv 6 M_X6_goOn 1 21), (21, s_al 0 22), (22, s_gf 6 8 25), (25, s_cs M_X6_fallen 1 28), (28, s_ir)]
set_option maxRecDepth 100000 in
set_option maxHeartbeats 4000000 in
theorem ok_X6_then : nv_ok_P M_X6_then P_X6_then :=
  nv_oc (n_iload_n (k := 1) (by decide +kernel)) <|
  nv_oc (n_iconst (z := 0) (by decide +kernel)) <|
  nv_oc (n_bipush (z := 60) (by decide +kernel) (by decide)) <|
  nv_oc (n_static (M' := M_X6_in) (idx := 41) (n := 3) (by decide +kernel) fn_X6_in st_X6_in l_X6_41 ⟨by decide, by decide⟩) <|
  nv_oc (n_if_ne (off := 5) (tgt := 12) (by decide +kernel) (by decide)) <|
  nv_oc (n_iconst (z := -1) (by decide +kernel)) <|
  nv_oc (n_iret (by decide +kernel) rfl) <|
  nv_oc (n_aload_n (k := 0) (by decide +kernel)) <|
  nv_oc (n_virtual (M' := M_X6_begin) (idx := 145) (n := 0) (ci := 6) (N := 16) (D := RX6) (T := TX6) (by decide +kernel) fn_X6_begin fv_X6_begin rfl rfl l_X6_145 ⟨by decide, by decide⟩) <|
  nv_oc (n_aload_n (k := 0) (by decide +kernel)) <|
  nv_oc (n_iload_n (k := 1) (by decide +kernel)) <|
  nv_oc (n_virtual (M' := M_X6_goOn) (idx := 148) (n := 1) (ci := 6) (N := 16) (D := RX6) (T := TX6) (by decide +kernel) fn_X6_goOn fv_X6_goOn rfl rfl l_X6_148 ⟨by decide, by decide⟩) <|
  nv_oc (n_aload_n (k := 0) (by decide +kernel)) <|
  nv_oc (n_getfield (idx := 26) (ci := 6) (k := 8) (N := 16) (D := RX6) (T := TX6) (by decide +kernel) rfl i_X6 (by decide) (by decide) f_X6_26) <|
  nv_oc (n_static (M' := M_X6_fallen) (idx := 111) (n := 1) (by decide +kernel) fn_X6_fallen st_X6_fallen l_X6_111 ⟨by decide, by decide⟩) <|
  nv_oc (n_iret (by decide +kernel) rfl) <|
  nv_on
def M_X6_falls : nv_MD := (RX6, yX6_falls, cX6_falls, 3, (some .int), 3, 66)
theorem fn_X6_falls : nv_fn M_X6_falls 1 := ⟨List.mem_of_getElem? (i := 978) (by decide +kernel), List.mem_of_getElem? (i := 50) (by decide +kernel), by decide +kernel⟩
theorem fv_X6_falls : nv_fnV M_X6_falls := ⟨List.mem_of_getElem? (i := 976) (by decide +kernel), List.mem_of_getElem? (i := 977) (by decide +kernel)⟩
def P_X6_falls : nv_Pg := [(0, s_al 0 1), (1, s_il 1 2), (2, s_cv 6 M_X6_isPlank 1 5), (5, s_if c_eq 8 10), (8, s_ki (-1) 9), (9, s_ir), (10, s_al 0 11), (11, s_cv 6 M_X6_begin 0 14), (14, s_ki (0) 15), (15, s_is 2 16), (16, s_il 2 17), (17, s_ki (60) 19), (19, s_ic c_gt 50 22), (22, s_al 0 23), (23, s_gf 6 8 26), (26, s_ki (2) 27), (27, s_il 1 28), (28, s_add 29), (29, s_ia 30), (30, s_if c_eq 33 35), (33, s_il 2 34), (34, s_ir), (35, s_al 0 36), (36, s_al 0 37), (37, s_gf 6 8 40), (40, s_ki (0) 41), (41, s_cv 6 M_X6_hourIn 2 44), (44, s_inc 2 (1) 47), (47, s_go 16), (50, s_ki (-4) 52), (52, s_ir)]
set_option maxRecDepth 100000 in
set_option maxHeartbeats 4000000 in
theorem ok_X6_falls : nv_ok_P M_X6_falls P_X6_falls :=
  nv_oc (n_aload_n (k := 0) (by decide +kernel)) <|
  nv_oc (n_iload_n (k := 1) (by decide +kernel)) <|
  nv_oc (n_virtual (M' := M_X6_isPlank) (idx := 56) (n := 1) (ci := 6) (N := 16) (D := RX6) (T := TX6) (by decide +kernel) fn_X6_isPlank fv_X6_isPlank rfl rfl l_X6_56 ⟨by decide, by decide⟩) <|
  nv_oc (n_if_ne (off := 5) (tgt := 10) (by decide +kernel) (by decide)) <|
  nv_oc (n_iconst (z := -1) (by decide +kernel)) <|
  nv_oc (n_iret (by decide +kernel) rfl) <|
  nv_oc (n_aload_n (k := 0) (by decide +kernel)) <|
  nv_oc (n_virtual (M' := M_X6_begin) (idx := 145) (n := 0) (ci := 6) (N := 16) (D := RX6) (T := TX6) (by decide +kernel) fn_X6_begin fv_X6_begin rfl rfl l_X6_145 ⟨by decide, by decide⟩) <|
  nv_oc (n_iconst (z := 0) (by decide +kernel)) <|
  nv_oc (n_istore_n (k := 2) (by decide +kernel) (by decide)) <|
  nv_oc (n_iload_n (k := 2) (by decide +kernel)) <|
  nv_oc (n_bipush (z := 60) (by decide +kernel) (by decide)) <|
  nv_oc (n_icmp_gt (off := 31) (tgt := 50) (by decide +kernel) (by decide)) <|
  nv_oc (n_aload_n (k := 0) (by decide +kernel)) <|
  nv_oc (n_getfield (idx := 26) (ci := 6) (k := 8) (N := 16) (D := RX6) (T := TX6) (by decide +kernel) rfl i_X6 (by decide) (by decide) f_X6_26) <|
  nv_oc (n_iconst (z := 2) (by decide +kernel)) <|
  nv_oc (n_iload_n (k := 1) (by decide +kernel)) <|
  nv_oc (n_iadd (by decide +kernel)) <|
  nv_oc (n_iaload (by decide +kernel)) <|
  nv_oc (n_if_ne (off := 5) (tgt := 35) (by decide +kernel) (by decide)) <|
  nv_oc (n_iload_n (k := 2) (by decide +kernel)) <|
  nv_oc (n_iret (by decide +kernel) rfl) <|
  nv_oc (n_aload_n (k := 0) (by decide +kernel)) <|
  nv_oc (n_aload_n (k := 0) (by decide +kernel)) <|
  nv_oc (n_getfield (idx := 26) (ci := 6) (k := 8) (N := 16) (D := RX6) (T := TX6) (by decide +kernel) rfl i_X6 (by decide) (by decide) f_X6_26) <|
  nv_oc (n_iconst (z := 0) (by decide +kernel)) <|
  nv_oc (n_virtual (M' := M_X6_hourIn) (idx := 134) (n := 2) (ci := 6) (N := 16) (D := RX6) (T := TX6) (by decide +kernel) fn_X6_hourIn fv_X6_hourIn rfl rfl l_X6_134 ⟨by decide, by decide⟩) <|
  nv_oc (n_iinc (k := 2) (d := 1) (by decide +kernel) (by decide)) <|
  nv_oc (n_goto (off := -31) (tgt := 16) (by decide +kernel) (by decide)) <|
  nv_oc (n_bipush (z := -4) (by decide +kernel) (by decide)) <|
  nv_oc (n_iret (by decide +kernel) rfl) <|
  nv_on
def M_X6_noonOf : nv_MD := (RX6, yX6_noonOf, cX6_noonOf, 2, (some .int), 3, 66)
theorem fn_X6_noonOf : nv_fn M_X6_noonOf 0 := ⟨List.mem_of_getElem? (i := 986) (by decide +kernel), List.mem_of_getElem? (i := 50) (by decide +kernel), by decide +kernel⟩
theorem fv_X6_noonOf : nv_fnV M_X6_noonOf := ⟨List.mem_of_getElem? (i := 985) (by decide +kernel), List.mem_of_getElem? (i := 37) (by decide +kernel)⟩
def P_X6_noonOf : nv_Pg := [(0, s_ki (0) 1), (1, s_is 1 2), (2, s_il 1 3), (3, s_ki (60) 5), (5, s_ic c_gt 35 8), (8, s_al 0 9), (9, s_gf 6 8 12), (12, s_cs M_X6_isAll 1 15), (15, s_if c_eq 20 18), (18, s_il 1 19), (19, s_ir), (20, s_al 0 21), (21, s_al 0 22), (22, s_gf 6 8 25), (25, s_ki (0) 26), (26, s_cv 6 M_X6_hourIn 2 29), (29, s_inc 1 (1) 32), (32, s_go 2), (35, s_ki (-4) 37), (37, s_ir)]
set_option maxRecDepth 100000 in
set_option maxHeartbeats 4000000 in
theorem ok_X6_noonOf : nv_ok_P M_X6_noonOf P_X6_noonOf :=
  nv_oc (n_iconst (z := 0) (by decide +kernel)) <|
  nv_oc (n_istore_n (k := 1) (by decide +kernel) (by decide)) <|
  nv_oc (n_iload_n (k := 1) (by decide +kernel)) <|
  nv_oc (n_bipush (z := 60) (by decide +kernel) (by decide)) <|
  nv_oc (n_icmp_gt (off := 30) (tgt := 35) (by decide +kernel) (by decide)) <|
  nv_oc (n_aload_n (k := 0) (by decide +kernel)) <|
  nv_oc (n_getfield (idx := 26) (ci := 6) (k := 8) (N := 16) (D := RX6) (T := TX6) (by decide +kernel) rfl i_X6 (by decide) (by decide) f_X6_26) <|
  nv_oc (n_static (M' := M_X6_isAll) (idx := 124) (n := 1) (by decide +kernel) fn_X6_isAll st_X6_isAll l_X6_124 ⟨by decide, by decide⟩) <|
  nv_oc (n_if_eq (off := 5) (tgt := 20) (by decide +kernel) (by decide)) <|
  nv_oc (n_iload_n (k := 1) (by decide +kernel)) <|
  nv_oc (n_iret (by decide +kernel) rfl) <|
  nv_oc (n_aload_n (k := 0) (by decide +kernel)) <|
  nv_oc (n_aload_n (k := 0) (by decide +kernel)) <|
  nv_oc (n_getfield (idx := 26) (ci := 6) (k := 8) (N := 16) (D := RX6) (T := TX6) (by decide +kernel) rfl i_X6 (by decide) (by decide) f_X6_26) <|
  nv_oc (n_iconst (z := 0) (by decide +kernel)) <|
  nv_oc (n_virtual (M' := M_X6_hourIn) (idx := 134) (n := 2) (ci := 6) (N := 16) (D := RX6) (T := TX6) (by decide +kernel) fn_X6_hourIn fv_X6_hourIn rfl rfl l_X6_134 ⟨by decide, by decide⟩) <|
  nv_oc (n_iinc (k := 1) (d := 1) (by decide +kernel) (by decide)) <|
  nv_oc (n_goto (off := -30) (tgt := 2) (by decide +kernel) (by decide)) <|
  nv_oc (n_bipush (z := -4) (by decide +kernel) (by decide)) <|
  nv_oc (n_iret (by decide +kernel) rfl) <|
  nv_on
def M_X6_noon : nv_MD := (RX6, yX6_noon, cX6_noon, 1, (some .int), 4, 87)
theorem fn_X6_noon : nv_fn M_X6_noon 0 := ⟨List.mem_of_getElem? (i := 982) (by decide +kernel), List.mem_of_getElem? (i := 50) (by decide +kernel), by decide +kernel⟩
theorem fv_X6_noon : nv_fnV M_X6_noon := ⟨List.mem_of_getElem? (i := 980) (by decide +kernel), List.mem_of_getElem? (i := 981) (by decide +kernel)⟩
def P_X6_noon : nv_Pg := [(0, s_al 0 1), (1, s_cv 6 M_X6_begin 0 4), (4, s_al 0 5), (5, s_cv 6 M_X6_noonOf 0 8), (8, s_ir)]
set_option maxRecDepth 100000 in
set_option maxHeartbeats 4000000 in
theorem ok_X6_noon : nv_ok_P M_X6_noon P_X6_noon :=
  nv_oc (n_aload_n (k := 0) (by decide +kernel)) <|
  nv_oc (n_virtual (M' := M_X6_begin) (idx := 145) (n := 0) (ci := 6) (N := 16) (D := RX6) (T := TX6) (by decide +kernel) fn_X6_begin fv_X6_begin rfl rfl l_X6_145 ⟨by decide, by decide⟩) <|
  nv_oc (n_aload_n (k := 0) (by decide +kernel)) <|
  nv_oc (n_virtual (M' := M_X6_noonOf) (idx := 152) (n := 0) (ci := 6) (N := 16) (D := RX6) (T := TX6) (by decide +kernel) fn_X6_noonOf fv_X6_noonOf rfl rfl l_X6_152 ⟨by decide, by decide⟩) <|
  nv_oc (n_iret (by decide +kernel) rfl) <|
  nv_on
def M_X6_setBy : nv_MD := (RX6, yX6_setBy, cX6_setBy, 5, (some .int), 2, 45)
theorem fn_X6_setBy : nv_fn M_X6_setBy 1 := ⟨List.mem_of_getElem? (i := 1002) (by decide +kernel), List.mem_of_getElem? (i := 50) (by decide +kernel), by decide +kernel⟩
theorem fv_X6_setBy : nv_fnV M_X6_setBy := ⟨List.mem_of_getElem? (i := 1001) (by decide +kernel), List.mem_of_getElem? (i := 40) (by decide +kernel)⟩
def P_X6_setBy : nv_Pg := [(0, s_al 0 1), (1, s_cv 6 M_X6_begin 0 4), (4, s_il 1 5), (5, s_is 2 6), (6, s_ki (0) 7), (7, s_is 3 8), (8, s_al 0 9), (9, s_gf 6 7 12), (12, s_ki (28) 14), (14, s_ia 15), (15, s_ki (1) 16), (16, s_sub 17), (17, s_is 4 19), (19, s_il 4 21), (21, s_if c_lt 90 24), (24, s_al 0 25), (25, s_gf 6 8 28), (28, s_ki (12) 30), (30, s_il 4 32), (32, s_add 33), (33, s_il 2 34), (34, s_al 0 35), (35, s_gf 6 7 38), (38, s_ki (17) 40), (40, s_ia 41), (41, s_rem 42), (42, s_iw 43), (43, s_il 2 44), (44, s_al 0 45), (45, s_gf 6 7 48), (48, s_ki (17) 50), (50, s_ia 51), (51, s_div 52), (52, s_is 2 53), (53, s_il 3 54), (54, s_al 0 55), (55, s_gf 6 8 58), (58, s_ki (12) 60), (60, s_il 4 62), (62, s_add 63), (63, s_ia 64), (64, s_al 0 65), (65, s_gf 6 7 68), (68, s_ki (12) 70), (70, s_il 4 72), (72, s_add 73), (73, s_ia 74), (74, s_ic c_eq 77 81), (77, s_ki (0) 78), (78, s_go 82), (81, s_ki (1) 82), (82, s_add 83), (83, s_is 3 84), (84, s_inc 4 (-1) 87), (87, s_go 19), (90, s_il 3 91), (91, s_ir)]
set_option maxRecDepth 100000 in
set_option maxHeartbeats 4000000 in
theorem ok_X6_setBy : nv_ok_P M_X6_setBy P_X6_setBy :=
  nv_oc (n_aload_n (k := 0) (by decide +kernel)) <|
  nv_oc (n_virtual (M' := M_X6_begin) (idx := 145) (n := 0) (ci := 6) (N := 16) (D := RX6) (T := TX6) (by decide +kernel) fn_X6_begin fv_X6_begin rfl rfl l_X6_145 ⟨by decide, by decide⟩) <|
  nv_oc (n_iload_n (k := 1) (by decide +kernel)) <|
  nv_oc (n_istore_n (k := 2) (by decide +kernel) (by decide)) <|
  nv_oc (n_iconst (z := 0) (by decide +kernel)) <|
  nv_oc (n_istore_n (k := 3) (by decide +kernel) (by decide)) <|
  nv_oc (n_aload_n (k := 0) (by decide +kernel)) <|
  nv_oc (n_getfield (idx := 23) (ci := 6) (k := 7) (N := 16) (D := RX6) (T := TX6) (by decide +kernel) rfl i_X6 (by decide) (by decide) f_X6_23) <|
  nv_oc (n_bipush (z := 28) (by decide +kernel) (by decide)) <|
  nv_oc (n_iaload (by decide +kernel)) <|
  nv_oc (n_iconst (z := 1) (by decide +kernel)) <|
  nv_oc (n_isub (by decide +kernel)) <|
  nv_oc (n_istore (k := 4) (by decide +kernel) (by decide)) <|
  nv_oc (n_iload (k := 4) (by decide +kernel)) <|
  nv_oc (n_if_lt (off := 69) (tgt := 90) (by decide +kernel) (by decide)) <|
  nv_oc (n_aload_n (k := 0) (by decide +kernel)) <|
  nv_oc (n_getfield (idx := 26) (ci := 6) (k := 8) (N := 16) (D := RX6) (T := TX6) (by decide +kernel) rfl i_X6 (by decide) (by decide) f_X6_26) <|
  nv_oc (n_bipush (z := 12) (by decide +kernel) (by decide)) <|
  nv_oc (n_iload (k := 4) (by decide +kernel)) <|
  nv_oc (n_iadd (by decide +kernel)) <|
  nv_oc (n_iload_n (k := 2) (by decide +kernel)) <|
  nv_oc (n_aload_n (k := 0) (by decide +kernel)) <|
  nv_oc (n_getfield (idx := 23) (ci := 6) (k := 7) (N := 16) (D := RX6) (T := TX6) (by decide +kernel) rfl i_X6 (by decide) (by decide) f_X6_23) <|
  nv_oc (n_bipush (z := 17) (by decide +kernel) (by decide)) <|
  nv_oc (n_iaload (by decide +kernel)) <|
  nv_oc (n_irem (by decide +kernel)) <|
  nv_oc (n_iastore (by decide +kernel)) <|
  nv_oc (n_iload_n (k := 2) (by decide +kernel)) <|
  nv_oc (n_aload_n (k := 0) (by decide +kernel)) <|
  nv_oc (n_getfield (idx := 23) (ci := 6) (k := 7) (N := 16) (D := RX6) (T := TX6) (by decide +kernel) rfl i_X6 (by decide) (by decide) f_X6_23) <|
  nv_oc (n_bipush (z := 17) (by decide +kernel) (by decide)) <|
  nv_oc (n_iaload (by decide +kernel)) <|
  nv_oc (n_idiv (by decide +kernel)) <|
  nv_oc (n_istore_n (k := 2) (by decide +kernel) (by decide)) <|
  nv_oc (n_iload_n (k := 3) (by decide +kernel)) <|
  nv_oc (n_aload_n (k := 0) (by decide +kernel)) <|
  nv_oc (n_getfield (idx := 26) (ci := 6) (k := 8) (N := 16) (D := RX6) (T := TX6) (by decide +kernel) rfl i_X6 (by decide) (by decide) f_X6_26) <|
  nv_oc (n_bipush (z := 12) (by decide +kernel) (by decide)) <|
  nv_oc (n_iload (k := 4) (by decide +kernel)) <|
  nv_oc (n_iadd (by decide +kernel)) <|
  nv_oc (n_iaload (by decide +kernel)) <|
  nv_oc (n_aload_n (k := 0) (by decide +kernel)) <|
  nv_oc (n_getfield (idx := 23) (ci := 6) (k := 7) (N := 16) (D := RX6) (T := TX6) (by decide +kernel) rfl i_X6 (by decide) (by decide) f_X6_23) <|
  nv_oc (n_bipush (z := 12) (by decide +kernel) (by decide)) <|
  nv_oc (n_iload (k := 4) (by decide +kernel)) <|
  nv_oc (n_iadd (by decide +kernel)) <|
  nv_oc (n_iaload (by decide +kernel)) <|
  nv_oc (n_icmp_ne (off := 7) (tgt := 81) (by decide +kernel) (by decide)) <|
  nv_oc (n_iconst (z := 0) (by decide +kernel)) <|
  nv_oc (n_goto (off := 4) (tgt := 82) (by decide +kernel) (by decide)) <|
  nv_oc (n_iconst (z := 1) (by decide +kernel)) <|
  nv_oc (n_iadd (by decide +kernel)) <|
  nv_oc (n_istore_n (k := 3) (by decide +kernel) (by decide)) <|
  nv_oc (n_iinc (k := 4) (d := -1) (by decide +kernel) (by decide)) <|
  nv_oc (n_goto (off := -68) (tgt := 19) (by decide +kernel) (by decide)) <|
  nv_oc (n_iload_n (k := 3) (by decide +kernel)) <|
  nv_oc (n_iret (by decide +kernel) rfl) <|
  nv_on
def M_X6_layBest : nv_MD := (RX6, yX6_layBest, cX6_layBest, 7, none, 4, 88)
theorem fn_X6_layBest : nv_fn M_X6_layBest 1 := ⟨List.mem_of_getElem? (i := 998) (by decide +kernel), List.mem_of_getElem? (i := 50) (by decide +kernel), by decide +kernel⟩
theorem fv_X6_layBest : nv_fnV M_X6_layBest := ⟨List.mem_of_getElem? (i := 997) (by decide +kernel), List.mem_of_getElem? (i := 39) (by decide +kernel)⟩
def P_X6_layBest : nv_Pg := [(0, s_ki (1) 1), (1, s_is 2 2), (2, s_ki (0) 3), (3, s_is 3 4), (4, s_il 3 5), (5, s_al 0 6), (6, s_gf 6 7 9), (9, s_ki (28) 11), (11, s_ia 12), (12, s_ic c_ge 31 15), (15, s_il 2 16), (16, s_al 0 17), (17, s_gf 6 7 20), (20, s_ki (17) 22), (22, s_ia 23), (23, s_mul 24), (24, s_is 2 25), (25, s_inc 3 (1) 28), (28, s_go 4), (31, s_al 0 32), (32, s_ki (100) 34), (34, s_pf 6 14 37), (37, s_ki (0) 38), (38, s_is 3 39), (39, s_il 3 40), (40, s_il 2 41), (41, s_ic c_ge 174 44), (44, s_al 0 45), (45, s_il 3 46), (46, s_cv 6 M_X6_setBy 1 49), (49, s_is 4 51), (51, s_ki (0) 52), (52, s_is 5 54), (54, s_il 1 55), (55, s_if c_eq 58 83), (58, s_al 0 59), (59, s_cv 6 M_X6_noonOf 0 62), (62, s_is 6 64), (64, s_il 6 66), (66, s_ki (-4) 68), (68, s_ic c_eq 71 76), (71, s_ki (99) 73), (73, s_go 78), (76, s_il 6 78), (78, s_is 5 80), (80, s_go 108), (83, s_al 0 84), (84, s_il 1 85), (85, s_cv 6 M_X6_goOn 1 88), (88, s_al 0 89), (89, s_gf 6 7 92), (92, s_ki (17) 94), (94, s_ia 95), (95, s_al 0 96), (96, s_gf 6 8 99), (99, s_cs M_X6_fallen 1 102), (102, s_cs M_X6_bits 1 105), (105, s_sub 106), (106, s_is 5 108), (108, s_il 5 110), (110, s_al 0 111), (111, s_gf 6 14 114), (114, s_ic c_lt 135 117), (117, s_il 5 119), (119, s_al 0 120), (120, s_gf 6 14 123), (123, s_ic c_eq 126 168), (126, s_il 4 128), (128, s_al 0 129), (129, s_gf 6 15 132), (132, s_ic c_ge 168 135), (135, s_al 0 136), (136, s_il 5 138), (138, s_pf 6 14 141), (141, s_al 0 142), (142, s_il 4 144), (144, s_pf 6 15 147), (147, s_al 0 148), (148, s_il 3 149), (149, s_cv 6 M_X6_setBy 1 152), (152, s_pop 153), (153, s_al 0 154), (154, s_gf 6 8 157), (157, s_ki (12) 159), (159, s_al 0 160), (160, s_gf 6 13 163), (163, s_ki (0) 164), (164, s_ki (5) 165), (165, s_cs M_X6_bring 5 168), (168, s_inc 3 (1) 171), (171, s_go 39), (174, s_vr)]
set_option maxRecDepth 100000 in
set_option maxHeartbeats 4000000 in
theorem ok_X6_layBest : nv_ok_P M_X6_layBest P_X6_layBest :=
  nv_oc (n_iconst (z := 1) (by decide +kernel)) <|
  nv_oc (n_istore_n (k := 2) (by decide +kernel) (by decide)) <|
  nv_oc (n_iconst (z := 0) (by decide +kernel)) <|
  nv_oc (n_istore_n (k := 3) (by decide +kernel) (by decide)) <|
  nv_oc (n_iload_n (k := 3) (by decide +kernel)) <|
  nv_oc (n_aload_n (k := 0) (by decide +kernel)) <|
  nv_oc (n_getfield (idx := 23) (ci := 6) (k := 7) (N := 16) (D := RX6) (T := TX6) (by decide +kernel) rfl i_X6 (by decide) (by decide) f_X6_23) <|
  nv_oc (n_bipush (z := 28) (by decide +kernel) (by decide)) <|
  nv_oc (n_iaload (by decide +kernel)) <|
  nv_oc (n_icmp_ge (off := 19) (tgt := 31) (by decide +kernel) (by decide)) <|
  nv_oc (n_iload_n (k := 2) (by decide +kernel)) <|
  nv_oc (n_aload_n (k := 0) (by decide +kernel)) <|
  nv_oc (n_getfield (idx := 23) (ci := 6) (k := 7) (N := 16) (D := RX6) (T := TX6) (by decide +kernel) rfl i_X6 (by decide) (by decide) f_X6_23) <|
  nv_oc (n_bipush (z := 17) (by decide +kernel) (by decide)) <|
  nv_oc (n_iaload (by decide +kernel)) <|
  nv_oc (n_imul (by decide +kernel)) <|
  nv_oc (n_istore_n (k := 2) (by decide +kernel) (by decide)) <|
  nv_oc (n_iinc (k := 3) (d := 1) (by decide +kernel) (by decide)) <|
  nv_oc (n_goto (off := -24) (tgt := 4) (by decide +kernel) (by decide)) <|
  nv_oc (n_aload_n (k := 0) (by decide +kernel)) <|
  nv_oc (n_bipush (z := 100) (by decide +kernel) (by decide)) <|
  nv_oc (n_putfield (idx := 155) (ci := 6) (k := 14) (N := 16) (D := RX6) (T := TX6) tyX6 tyX6_ok nmX6 (by decide +kernel) rfl i_X6 (by decide) (by decide) rfl f_X6_155 rfl) <|
  nv_oc (n_iconst (z := 0) (by decide +kernel)) <|
  nv_oc (n_istore_n (k := 3) (by decide +kernel) (by decide)) <|
  nv_oc (n_iload_n (k := 3) (by decide +kernel)) <|
  nv_oc (n_iload_n (k := 2) (by decide +kernel)) <|
  nv_oc (n_icmp_ge (off := 133) (tgt := 174) (by decide +kernel) (by decide)) <|
  nv_oc (n_aload_n (k := 0) (by decide +kernel)) <|
  nv_oc (n_iload_n (k := 3) (by decide +kernel)) <|
  nv_oc (n_virtual (M' := M_X6_setBy) (idx := 158) (n := 1) (ci := 6) (N := 16) (D := RX6) (T := TX6) (by decide +kernel) fn_X6_setBy fv_X6_setBy rfl rfl l_X6_158 ⟨by decide, by decide⟩) <|
  nv_oc (n_istore (k := 4) (by decide +kernel) (by decide)) <|
  nv_oc (n_iconst (z := 0) (by decide +kernel)) <|
  nv_oc (n_istore (k := 5) (by decide +kernel) (by decide)) <|
  nv_oc (n_iload_n (k := 1) (by decide +kernel)) <|
  nv_oc (n_if_ne (off := 28) (tgt := 83) (by decide +kernel) (by decide)) <|
  nv_oc (n_aload_n (k := 0) (by decide +kernel)) <|
  nv_oc (n_virtual (M' := M_X6_noonOf) (idx := 152) (n := 0) (ci := 6) (N := 16) (D := RX6) (T := TX6) (by decide +kernel) fn_X6_noonOf fv_X6_noonOf rfl rfl l_X6_152 ⟨by decide, by decide⟩) <|
  nv_oc (n_istore (k := 6) (by decide +kernel) (by decide)) <|
  nv_oc (n_iload (k := 6) (by decide +kernel)) <|
  nv_oc (n_bipush (z := -4) (by decide +kernel) (by decide)) <|
  nv_oc (n_icmp_ne (off := 8) (tgt := 76) (by decide +kernel) (by decide)) <|
  nv_oc (n_bipush (z := 99) (by decide +kernel) (by decide)) <|
  nv_oc (n_goto (off := 5) (tgt := 78) (by decide +kernel) (by decide)) <|
  nv_oc (n_iload (k := 6) (by decide +kernel)) <|
  nv_oc (n_istore (k := 5) (by decide +kernel) (by decide)) <|
  nv_oc (n_goto (off := 28) (tgt := 108) (by decide +kernel) (by decide)) <|
  nv_oc (n_aload_n (k := 0) (by decide +kernel)) <|
  nv_oc (n_iload_n (k := 1) (by decide +kernel)) <|
  nv_oc (n_virtual (M' := M_X6_goOn) (idx := 148) (n := 1) (ci := 6) (N := 16) (D := RX6) (T := TX6) (by decide +kernel) fn_X6_goOn fv_X6_goOn rfl rfl l_X6_148 ⟨by decide, by decide⟩) <|
  nv_oc (n_aload_n (k := 0) (by decide +kernel)) <|
  nv_oc (n_getfield (idx := 23) (ci := 6) (k := 7) (N := 16) (D := RX6) (T := TX6) (by decide +kernel) rfl i_X6 (by decide) (by decide) f_X6_23) <|
  nv_oc (n_bipush (z := 17) (by decide +kernel) (by decide)) <|
  nv_oc (n_iaload (by decide +kernel)) <|
  nv_oc (n_aload_n (k := 0) (by decide +kernel)) <|
  nv_oc (n_getfield (idx := 26) (ci := 6) (k := 8) (N := 16) (D := RX6) (T := TX6) (by decide +kernel) rfl i_X6 (by decide) (by decide) f_X6_26) <|
  nv_oc (n_static (M' := M_X6_fallen) (idx := 111) (n := 1) (by decide +kernel) fn_X6_fallen st_X6_fallen l_X6_111 ⟨by decide, by decide⟩) <|
  nv_oc (n_static (M' := M_X6_bits) (idx := 161) (n := 1) (by decide +kernel) fn_X6_bits st_X6_bits l_X6_161 ⟨by decide, by decide⟩) <|
  nv_oc (n_isub (by decide +kernel)) <|
  nv_oc (n_istore (k := 5) (by decide +kernel) (by decide)) <|
  nv_oc (n_iload (k := 5) (by decide +kernel)) <|
  nv_oc (n_aload_n (k := 0) (by decide +kernel)) <|
  nv_oc (n_getfield (idx := 155) (ci := 6) (k := 14) (N := 16) (D := RX6) (T := TX6) (by decide +kernel) rfl i_X6 (by decide) (by decide) f_X6_155) <|
  nv_oc (n_icmp_lt (off := 21) (tgt := 135) (by decide +kernel) (by decide)) <|
  nv_oc (n_iload (k := 5) (by decide +kernel)) <|
  nv_oc (n_aload_n (k := 0) (by decide +kernel)) <|
  nv_oc (n_getfield (idx := 155) (ci := 6) (k := 14) (N := 16) (D := RX6) (T := TX6) (by decide +kernel) rfl i_X6 (by decide) (by decide) f_X6_155) <|
  nv_oc (n_icmp_ne (off := 45) (tgt := 168) (by decide +kernel) (by decide)) <|
  nv_oc (n_iload (k := 4) (by decide +kernel)) <|
  nv_oc (n_aload_n (k := 0) (by decide +kernel)) <|
  nv_oc (n_getfield (idx := 164) (ci := 6) (k := 15) (N := 16) (D := RX6) (T := TX6) (by decide +kernel) rfl i_X6 (by decide) (by decide) f_X6_164) <|
  nv_oc (n_icmp_ge (off := 36) (tgt := 168) (by decide +kernel) (by decide)) <|
  nv_oc (n_aload_n (k := 0) (by decide +kernel)) <|
  nv_oc (n_iload (k := 5) (by decide +kernel)) <|
  nv_oc (n_putfield (idx := 155) (ci := 6) (k := 14) (N := 16) (D := RX6) (T := TX6) tyX6 tyX6_ok nmX6 (by decide +kernel) rfl i_X6 (by decide) (by decide) rfl f_X6_155 rfl) <|
  nv_oc (n_aload_n (k := 0) (by decide +kernel)) <|
  nv_oc (n_iload (k := 4) (by decide +kernel)) <|
  nv_oc (n_putfield (idx := 164) (ci := 6) (k := 15) (N := 16) (D := RX6) (T := TX6) tyX6 tyX6_ok nmX6 (by decide +kernel) rfl i_X6 (by decide) (by decide) rfl f_X6_164 rfl) <|
  nv_oc (n_aload_n (k := 0) (by decide +kernel)) <|
  nv_oc (n_iload_n (k := 3) (by decide +kernel)) <|
  nv_oc (n_virtual (M' := M_X6_setBy) (idx := 158) (n := 1) (ci := 6) (N := 16) (D := RX6) (T := TX6) (by decide +kernel) fn_X6_setBy fv_X6_setBy rfl rfl l_X6_158 ⟨by decide, by decide⟩) <|
  nv_oc (n_pop (by decide +kernel)) <|
  nv_oc (n_aload_n (k := 0) (by decide +kernel)) <|
  nv_oc (n_getfield (idx := 26) (ci := 6) (k := 8) (N := 16) (D := RX6) (T := TX6) (by decide +kernel) rfl i_X6 (by decide) (by decide) f_X6_26) <|
  nv_oc (n_bipush (z := 12) (by decide +kernel) (by decide)) <|
  nv_oc (n_aload_n (k := 0) (by decide +kernel)) <|
  nv_oc (n_getfield (idx := 38) (ci := 6) (k := 13) (N := 16) (D := RX6) (T := TX6) (by decide +kernel) rfl i_X6 (by decide) (by decide) f_X6_38) <|
  nv_oc (n_iconst (z := 0) (by decide +kernel)) <|
  nv_oc (n_iconst (z := 5) (by decide +kernel)) <|
  nv_oc (n_static (M' := M_X6_bring) (idx := 107) (n := 5) (by decide +kernel) fn_X6_bring st_X6_bring l_X6_107 ⟨by decide, by decide⟩) <|
  nv_oc (n_iinc (k := 3) (d := 1) (by decide +kernel) (by decide)) <|
  nv_oc (n_goto (off := -132) (tgt := 39) (by decide +kernel) (by decide)) <|
  nv_oc (n_vret (by decide +kernel) rfl) <|
  nv_on
def M_X6_noBest : nv_MD := (RX6, yX6_noBest, cX6_noBest, 2, (some .int), 2, 43)
theorem fn_X6_noBest : nv_fn M_X6_noBest 1 := ⟨List.mem_of_getElem? (i := 994) (by decide +kernel), List.mem_of_getElem? (i := 50) (by decide +kernel), by decide +kernel⟩
theorem fv_X6_noBest : nv_fnV M_X6_noBest := ⟨List.mem_of_getElem? (i := 993) (by decide +kernel), List.mem_of_getElem? (i := 38) (by decide +kernel)⟩
def P_X6_noBest : nv_Pg := [(0, s_il 1 1), (1, s_ki (-1) 2), (2, s_ic c_eq 21 5), (5, s_il 1 6), (6, s_ki (-2) 8), (8, s_ic c_eq 21 11), (11, s_al 0 12), (12, s_il 1 13), (13, s_cv 6 M_X6_isSawyer 1 16), (16, s_if c_eq 19 21), (19, s_ki (-1) 20), (20, s_ir), (21, s_al 0 22), (22, s_gf 6 7 25), (25, s_ki (28) 27), (27, s_ia 28), (28, s_if c_eq 41 31), (31, s_al 0 32), (32, s_gf 6 7 35), (35, s_ki (17) 37), (37, s_ia 38), (38, s_if c_eq 41 46), (41, s_ki (-4) 43), (43, s_go 47), (46, s_ki (0) 47), (47, s_ir)]
set_option maxRecDepth 100000 in
set_option maxHeartbeats 4000000 in
theorem ok_X6_noBest : nv_ok_P M_X6_noBest P_X6_noBest :=
  nv_oc (n_iload_n (k := 1) (by decide +kernel)) <|
  nv_oc (n_iconst (z := -1) (by decide +kernel)) <|
  nv_oc (n_icmp_eq (off := 19) (tgt := 21) (by decide +kernel) (by decide)) <|
  nv_oc (n_iload_n (k := 1) (by decide +kernel)) <|
  nv_oc (n_bipush (z := -2) (by decide +kernel) (by decide)) <|
  nv_oc (n_icmp_eq (off := 13) (tgt := 21) (by decide +kernel) (by decide)) <|
  nv_oc (n_aload_n (k := 0) (by decide +kernel)) <|
  nv_oc (n_iload_n (k := 1) (by decide +kernel)) <|
  nv_oc (n_virtual (M' := M_X6_isSawyer) (idx := 67) (n := 1) (ci := 6) (N := 16) (D := RX6) (T := TX6) (by decide +kernel) fn_X6_isSawyer fv_X6_isSawyer rfl rfl l_X6_67 ⟨by decide, by decide⟩) <|
  nv_oc (n_if_ne (off := 5) (tgt := 21) (by decide +kernel) (by decide)) <|
  nv_oc (n_iconst (z := -1) (by decide +kernel)) <|
  nv_oc (n_iret (by decide +kernel) rfl) <|
  nv_oc (n_aload_n (k := 0) (by decide +kernel)) <|
  nv_oc (n_getfield (idx := 23) (ci := 6) (k := 7) (N := 16) (D := RX6) (T := TX6) (by decide +kernel) rfl i_X6 (by decide) (by decide) f_X6_23) <|
  nv_oc (n_bipush (z := 28) (by decide +kernel) (by decide)) <|
  nv_oc (n_iaload (by decide +kernel)) <|
  nv_oc (n_if_eq (off := 13) (tgt := 41) (by decide +kernel) (by decide)) <|
  nv_oc (n_aload_n (k := 0) (by decide +kernel)) <|
  nv_oc (n_getfield (idx := 23) (ci := 6) (k := 7) (N := 16) (D := RX6) (T := TX6) (by decide +kernel) rfl i_X6 (by decide) (by decide) f_X6_23) <|
  nv_oc (n_bipush (z := 17) (by decide +kernel) (by decide)) <|
  nv_oc (n_iaload (by decide +kernel)) <|
  nv_oc (n_if_ne (off := 8) (tgt := 46) (by decide +kernel) (by decide)) <|
  nv_oc (n_bipush (z := -4) (by decide +kernel) (by decide)) <|
  nv_oc (n_goto (off := 4) (tgt := 47) (by decide +kernel) (by decide)) <|
  nv_oc (n_iconst (z := 0) (by decide +kernel)) <|
  nv_oc (n_iret (by decide +kernel) rfl) <|
  nv_on
def M_X6_best : nv_MD := (RX6, yX6_best, cX6_best, 3, (some .int), 5, 114)
theorem fn_X6_best : nv_fn M_X6_best 1 := ⟨List.mem_of_getElem? (i := 990) (by decide +kernel), List.mem_of_getElem? (i := 50) (by decide +kernel), by decide +kernel⟩
theorem fv_X6_best : nv_fnV M_X6_best := ⟨List.mem_of_getElem? (i := 988) (by decide +kernel), List.mem_of_getElem? (i := 989) (by decide +kernel)⟩
def P_X6_best : nv_Pg := [(0, s_al 0 1), (1, s_il 1 2), (2, s_cv 6 M_X6_noBest 1 5), (5, s_is 2 6), (6, s_il 2 7), (7, s_if c_eq 12 10), (10, s_il 2 11), (11, s_ir), (12, s_al 0 13), (13, s_ki (0) 14), (14, s_cv 6 M_X6_layBest 1 17), (17, s_il 1 18), (18, s_ki (-1) 19), (19, s_ic c_eq 22 43), (22, s_al 0 23), (23, s_gf 6 14 26), (26, s_ki (99) 28), (28, s_ic c_eq 31 36), (31, s_ki (-4) 33), (33, s_go 62), (36, s_al 0 37), (37, s_gf 6 14 40), (40, s_go 62), (43, s_il 1 44), (44, s_ki (-2) 46), (46, s_ic c_eq 49 56), (49, s_al 0 50), (50, s_gf 6 15 53), (53, s_go 62), (56, s_al 0 57), (57, s_gf 6 13 60), (60, s_il 1 61), (61, s_ia 62), (62, s_ir)]
set_option maxRecDepth 100000 in
set_option maxHeartbeats 4000000 in
theorem ok_X6_best : nv_ok_P M_X6_best P_X6_best :=
  nv_oc (n_aload_n (k := 0) (by decide +kernel)) <|
  nv_oc (n_iload_n (k := 1) (by decide +kernel)) <|
  nv_oc (n_virtual (M' := M_X6_noBest) (idx := 167) (n := 1) (ci := 6) (N := 16) (D := RX6) (T := TX6) (by decide +kernel) fn_X6_noBest fv_X6_noBest rfl rfl l_X6_167 ⟨by decide, by decide⟩) <|
  nv_oc (n_istore_n (k := 2) (by decide +kernel) (by decide)) <|
  nv_oc (n_iload_n (k := 2) (by decide +kernel)) <|
  nv_oc (n_if_eq (off := 5) (tgt := 12) (by decide +kernel) (by decide)) <|
  nv_oc (n_iload_n (k := 2) (by decide +kernel)) <|
  nv_oc (n_iret (by decide +kernel) rfl) <|
  nv_oc (n_aload_n (k := 0) (by decide +kernel)) <|
  nv_oc (n_iconst (z := 0) (by decide +kernel)) <|
  nv_oc (n_virtual (M' := M_X6_layBest) (idx := 170) (n := 1) (ci := 6) (N := 16) (D := RX6) (T := TX6) (by decide +kernel) fn_X6_layBest fv_X6_layBest rfl rfl l_X6_170 ⟨by decide, by decide⟩) <|
  nv_oc (n_iload_n (k := 1) (by decide +kernel)) <|
  nv_oc (n_iconst (z := -1) (by decide +kernel)) <|
  nv_oc (n_icmp_ne (off := 24) (tgt := 43) (by decide +kernel) (by decide)) <|
  nv_oc (n_aload_n (k := 0) (by decide +kernel)) <|
  nv_oc (n_getfield (idx := 155) (ci := 6) (k := 14) (N := 16) (D := RX6) (T := TX6) (by decide +kernel) rfl i_X6 (by decide) (by decide) f_X6_155) <|
  nv_oc (n_bipush (z := 99) (by decide +kernel) (by decide)) <|
  nv_oc (n_icmp_ne (off := 8) (tgt := 36) (by decide +kernel) (by decide)) <|
  nv_oc (n_bipush (z := -4) (by decide +kernel) (by decide)) <|
  nv_oc (n_goto (off := 29) (tgt := 62) (by decide +kernel) (by decide)) <|
  nv_oc (n_aload_n (k := 0) (by decide +kernel)) <|
  nv_oc (n_getfield (idx := 155) (ci := 6) (k := 14) (N := 16) (D := RX6) (T := TX6) (by decide +kernel) rfl i_X6 (by decide) (by decide) f_X6_155) <|
  nv_oc (n_goto (off := 22) (tgt := 62) (by decide +kernel) (by decide)) <|
  nv_oc (n_iload_n (k := 1) (by decide +kernel)) <|
  nv_oc (n_bipush (z := -2) (by decide +kernel) (by decide)) <|
  nv_oc (n_icmp_ne (off := 10) (tgt := 56) (by decide +kernel) (by decide)) <|
  nv_oc (n_aload_n (k := 0) (by decide +kernel)) <|
  nv_oc (n_getfield (idx := 164) (ci := 6) (k := 15) (N := 16) (D := RX6) (T := TX6) (by decide +kernel) rfl i_X6 (by decide) (by decide) f_X6_164) <|
  nv_oc (n_goto (off := 9) (tgt := 62) (by decide +kernel) (by decide)) <|
  nv_oc (n_aload_n (k := 0) (by decide +kernel)) <|
  nv_oc (n_getfield (idx := 38) (ci := 6) (k := 13) (N := 16) (D := RX6) (T := TX6) (by decide +kernel) rfl i_X6 (by decide) (by decide) f_X6_38) <|
  nv_oc (n_iload_n (k := 1) (by decide +kernel)) <|
  nv_oc (n_iaload (by decide +kernel)) <|
  nv_oc (n_iret (by decide +kernel) rfl) <|
  nv_on
def M_X6_most : nv_MD := (RX6, yX6_most, cX6_most, 4, (some .int), 5, 114)
theorem fn_X6_most : nv_fn M_X6_most 2 := ⟨List.mem_of_getElem? (i := 1009) (by decide +kernel), List.mem_of_getElem? (i := 50) (by decide +kernel), by decide +kernel⟩
theorem fv_X6_most : nv_fnV M_X6_most := ⟨List.mem_of_getElem? (i := 1007) (by decide +kernel), List.mem_of_getElem? (i := 1008) (by decide +kernel)⟩
def P_X6_most : nv_Pg := [(0, s_il 1 1), (1, s_ki (1) 2), (2, s_ki (30) 4), (4, s_cs M_X6_in 3 7), (7, s_if c_eq 10 12), (10, s_ki (-1) 11), (11, s_ir), (12, s_al 0 13), (13, s_il 2 14), (14, s_cv 6 M_X6_noBest 1 17), (17, s_is 3 18), (18, s_il 3 19), (19, s_if c_eq 24 22), (22, s_il 3 23), (23, s_ir), (24, s_al 0 25), (25, s_il 1 26), (26, s_cv 6 M_X6_layBest 1 29), (29, s_il 2 30), (30, s_ki (-1) 31), (31, s_ic c_eq 34 49), (34, s_al 0 35), (35, s_gf 6 7 38), (38, s_ki (17) 40), (40, s_ia 41), (41, s_al 0 42), (42, s_gf 6 14 45), (45, s_sub 46), (46, s_go 68), (49, s_il 2 50), (50, s_ki (-2) 52), (52, s_ic c_eq 55 62), (55, s_al 0 56), (56, s_gf 6 15 59), (59, s_go 68), (62, s_al 0 63), (63, s_gf 6 13 66), (66, s_il 2 67), (67, s_ia 68), (68, s_ir)]
set_option maxRecDepth 100000 in
set_option maxHeartbeats 4000000 in
theorem ok_X6_most : nv_ok_P M_X6_most P_X6_most :=
  nv_oc (n_iload_n (k := 1) (by decide +kernel)) <|
  nv_oc (n_iconst (z := 1) (by decide +kernel)) <|
  nv_oc (n_bipush (z := 30) (by decide +kernel) (by decide)) <|
  nv_oc (n_static (M' := M_X6_in) (idx := 41) (n := 3) (by decide +kernel) fn_X6_in st_X6_in l_X6_41 ⟨by decide, by decide⟩) <|
  nv_oc (n_if_ne (off := 5) (tgt := 12) (by decide +kernel) (by decide)) <|
  nv_oc (n_iconst (z := -1) (by decide +kernel)) <|
  nv_oc (n_iret (by decide +kernel) rfl) <|
  nv_oc (n_aload_n (k := 0) (by decide +kernel)) <|
  nv_oc (n_iload_n (k := 2) (by decide +kernel)) <|
  nv_oc (n_virtual (M' := M_X6_noBest) (idx := 167) (n := 1) (ci := 6) (N := 16) (D := RX6) (T := TX6) (by decide +kernel) fn_X6_noBest fv_X6_noBest rfl rfl l_X6_167 ⟨by decide, by decide⟩) <|
  nv_oc (n_istore_n (k := 3) (by decide +kernel) (by decide)) <|
  nv_oc (n_iload_n (k := 3) (by decide +kernel)) <|
  nv_oc (n_if_eq (off := 5) (tgt := 24) (by decide +kernel) (by decide)) <|
  nv_oc (n_iload_n (k := 3) (by decide +kernel)) <|
  nv_oc (n_iret (by decide +kernel) rfl) <|
  nv_oc (n_aload_n (k := 0) (by decide +kernel)) <|
  nv_oc (n_iload_n (k := 1) (by decide +kernel)) <|
  nv_oc (n_virtual (M' := M_X6_layBest) (idx := 170) (n := 1) (ci := 6) (N := 16) (D := RX6) (T := TX6) (by decide +kernel) fn_X6_layBest fv_X6_layBest rfl rfl l_X6_170 ⟨by decide, by decide⟩) <|
  nv_oc (n_iload_n (k := 2) (by decide +kernel)) <|
  nv_oc (n_iconst (z := -1) (by decide +kernel)) <|
  nv_oc (n_icmp_ne (off := 18) (tgt := 49) (by decide +kernel) (by decide)) <|
  nv_oc (n_aload_n (k := 0) (by decide +kernel)) <|
  nv_oc (n_getfield (idx := 23) (ci := 6) (k := 7) (N := 16) (D := RX6) (T := TX6) (by decide +kernel) rfl i_X6 (by decide) (by decide) f_X6_23) <|
  nv_oc (n_bipush (z := 17) (by decide +kernel) (by decide)) <|
  nv_oc (n_iaload (by decide +kernel)) <|
  nv_oc (n_aload_n (k := 0) (by decide +kernel)) <|
  nv_oc (n_getfield (idx := 155) (ci := 6) (k := 14) (N := 16) (D := RX6) (T := TX6) (by decide +kernel) rfl i_X6 (by decide) (by decide) f_X6_155) <|
  nv_oc (n_isub (by decide +kernel)) <|
  nv_oc (n_goto (off := 22) (tgt := 68) (by decide +kernel) (by decide)) <|
  nv_oc (n_iload_n (k := 2) (by decide +kernel)) <|
  nv_oc (n_bipush (z := -2) (by decide +kernel) (by decide)) <|
  nv_oc (n_icmp_ne (off := 10) (tgt := 62) (by decide +kernel) (by decide)) <|
  nv_oc (n_aload_n (k := 0) (by decide +kernel)) <|
  nv_oc (n_getfield (idx := 164) (ci := 6) (k := 15) (N := 16) (D := RX6) (T := TX6) (by decide +kernel) rfl i_X6 (by decide) (by decide) f_X6_164) <|
  nv_oc (n_goto (off := 9) (tgt := 68) (by decide +kernel) (by decide)) <|
  nv_oc (n_aload_n (k := 0) (by decide +kernel)) <|
  nv_oc (n_getfield (idx := 38) (ci := 6) (k := 13) (N := 16) (D := RX6) (T := TX6) (by decide +kernel) rfl i_X6 (by decide) (by decide) f_X6_38) <|
  nv_oc (n_iload_n (k := 2) (by decide +kernel)) <|
  nv_oc (n_iaload (by decide +kernel)) <|
  nv_oc (n_iret (by decide +kernel) rfl) <|
  nv_on
def M_X6_sharp : nv_MD := (RX6, yX6_sharp, cX6_sharp, 6, (some .int), 4, 88)
theorem fn_X6_sharp : nv_fn M_X6_sharp 2 := ⟨List.mem_of_getElem? (i := 1013) (by decide +kernel), List.mem_of_getElem? (i := 50) (by decide +kernel), by decide +kernel⟩
theorem fv_X6_sharp : nv_fnV M_X6_sharp := ⟨List.mem_of_getElem? (i := 1011) (by decide +kernel), List.mem_of_getElem? (i := 1012) (by decide +kernel)⟩
def P_X6_sharp : nv_Pg := [(0, s_il 1 1), (1, s_ki (1) 2), (2, s_ki (40) 4), (4, s_cs M_X6_in 3 7), (7, s_if c_eq 19 10), (10, s_il 2 11), (11, s_ki (0) 12), (12, s_ki (1) 13), (13, s_cs M_X6_in 3 16), (16, s_if c_eq 19 21), (19, s_ki (-1) 20), (20, s_ir), (21, s_ki (-4) 23), (23, s_is 3 24), (24, s_ki (-4) 26), (26, s_is 4 28), (28, s_ki (0) 29), (29, s_is 5 31), (31, s_il 5 33), (33, s_al 0 34), (34, s_gf 6 7 37), (37, s_ki (28) 39), (39, s_ia 40), (40, s_ic c_ge 132 43), (43, s_al 0 44), (44, s_cv 6 M_X6_begin 0 47), (47, s_al 0 48), (48, s_gf 6 8 51), (51, s_ki (7) 53), (53, s_il 5 55), (55, s_add 56), (56, s_al 0 57), (57, s_gf 6 8 60), (60, s_ki (7) 62), (62, s_il 5 64), (64, s_add 65), (65, s_ia 66), (66, s_ki (3) 67), (67, s_add 68), (68, s_ki (9) 70), (70, s_ic c_le 78 73), (73, s_ki (9) 75), (75, s_go 90), (78, s_al 0 79), (79, s_gf 6 8 82), (82, s_ki (7) 84), (84, s_il 5 86), (86, s_add 87), (87, s_ia 88), (88, s_ki (3) 89), (89, s_add 90), (90, s_iw 91), (91, s_al 0 92), (92, s_il 1 93), (93, s_cv 6 M_X6_goOn 1 96), (96, s_il 3 97), (97, s_ki (-4) 99), (99, s_ic c_eq 114 102), (102, s_al 0 103), (103, s_gf 6 8 106), (106, s_cs M_X6_leftOf 1 109), (109, s_il 4 111), (111, s_ic c_ge 126 114), (114, s_il 5 116), (116, s_is 3 117), (117, s_al 0 118), (118, s_gf 6 8 121), (121, s_cs M_X6_leftOf 1 124), (124, s_is 4 126), (126, s_inc 5 (1) 129), (129, s_go 31), (132, s_il 2 133), (133, s_if c_eq 136 140), (136, s_il 3 137), (137, s_go 142), (140, s_il 4 142), (142, s_ir)]
set_option maxRecDepth 100000 in
set_option maxHeartbeats 4000000 in
theorem ok_X6_sharp : nv_ok_P M_X6_sharp P_X6_sharp :=
  nv_oc (n_iload_n (k := 1) (by decide +kernel)) <|
  nv_oc (n_iconst (z := 1) (by decide +kernel)) <|
  nv_oc (n_bipush (z := 40) (by decide +kernel) (by decide)) <|
  nv_oc (n_static (M' := M_X6_in) (idx := 41) (n := 3) (by decide +kernel) fn_X6_in st_X6_in l_X6_41 ⟨by decide, by decide⟩) <|
  nv_oc (n_if_eq (off := 12) (tgt := 19) (by decide +kernel) (by decide)) <|
  nv_oc (n_iload_n (k := 2) (by decide +kernel)) <|
  nv_oc (n_iconst (z := 0) (by decide +kernel)) <|
  nv_oc (n_iconst (z := 1) (by decide +kernel)) <|
  nv_oc (n_static (M' := M_X6_in) (idx := 41) (n := 3) (by decide +kernel) fn_X6_in st_X6_in l_X6_41 ⟨by decide, by decide⟩) <|
  nv_oc (n_if_ne (off := 5) (tgt := 21) (by decide +kernel) (by decide)) <|
  nv_oc (n_iconst (z := -1) (by decide +kernel)) <|
  nv_oc (n_iret (by decide +kernel) rfl) <|
  nv_oc (n_bipush (z := -4) (by decide +kernel) (by decide)) <|
  nv_oc (n_istore_n (k := 3) (by decide +kernel) (by decide)) <|
  nv_oc (n_bipush (z := -4) (by decide +kernel) (by decide)) <|
  nv_oc (n_istore (k := 4) (by decide +kernel) (by decide)) <|
  nv_oc (n_iconst (z := 0) (by decide +kernel)) <|
  nv_oc (n_istore (k := 5) (by decide +kernel) (by decide)) <|
  nv_oc (n_iload (k := 5) (by decide +kernel)) <|
  nv_oc (n_aload_n (k := 0) (by decide +kernel)) <|
  nv_oc (n_getfield (idx := 23) (ci := 6) (k := 7) (N := 16) (D := RX6) (T := TX6) (by decide +kernel) rfl i_X6 (by decide) (by decide) f_X6_23) <|
  nv_oc (n_bipush (z := 28) (by decide +kernel) (by decide)) <|
  nv_oc (n_iaload (by decide +kernel)) <|
  nv_oc (n_icmp_ge (off := 92) (tgt := 132) (by decide +kernel) (by decide)) <|
  nv_oc (n_aload_n (k := 0) (by decide +kernel)) <|
  nv_oc (n_virtual (M' := M_X6_begin) (idx := 145) (n := 0) (ci := 6) (N := 16) (D := RX6) (T := TX6) (by decide +kernel) fn_X6_begin fv_X6_begin rfl rfl l_X6_145 ⟨by decide, by decide⟩) <|
  nv_oc (n_aload_n (k := 0) (by decide +kernel)) <|
  nv_oc (n_getfield (idx := 26) (ci := 6) (k := 8) (N := 16) (D := RX6) (T := TX6) (by decide +kernel) rfl i_X6 (by decide) (by decide) f_X6_26) <|
  nv_oc (n_bipush (z := 7) (by decide +kernel) (by decide)) <|
  nv_oc (n_iload (k := 5) (by decide +kernel)) <|
  nv_oc (n_iadd (by decide +kernel)) <|
  nv_oc (n_aload_n (k := 0) (by decide +kernel)) <|
  nv_oc (n_getfield (idx := 26) (ci := 6) (k := 8) (N := 16) (D := RX6) (T := TX6) (by decide +kernel) rfl i_X6 (by decide) (by decide) f_X6_26) <|
  nv_oc (n_bipush (z := 7) (by decide +kernel) (by decide)) <|
  nv_oc (n_iload (k := 5) (by decide +kernel)) <|
  nv_oc (n_iadd (by decide +kernel)) <|
  nv_oc (n_iaload (by decide +kernel)) <|
  nv_oc (n_iconst (z := 3) (by decide +kernel)) <|
  nv_oc (n_iadd (by decide +kernel)) <|
  nv_oc (n_bipush (z := 9) (by decide +kernel) (by decide)) <|
  nv_oc (n_icmp_le (off := 8) (tgt := 78) (by decide +kernel) (by decide)) <|
  nv_oc (n_bipush (z := 9) (by decide +kernel) (by decide)) <|
  nv_oc (n_goto (off := 15) (tgt := 90) (by decide +kernel) (by decide)) <|
  nv_oc (n_aload_n (k := 0) (by decide +kernel)) <|
  nv_oc (n_getfield (idx := 26) (ci := 6) (k := 8) (N := 16) (D := RX6) (T := TX6) (by decide +kernel) rfl i_X6 (by decide) (by decide) f_X6_26) <|
  nv_oc (n_bipush (z := 7) (by decide +kernel) (by decide)) <|
  nv_oc (n_iload (k := 5) (by decide +kernel)) <|
  nv_oc (n_iadd (by decide +kernel)) <|
  nv_oc (n_iaload (by decide +kernel)) <|
  nv_oc (n_iconst (z := 3) (by decide +kernel)) <|
  nv_oc (n_iadd (by decide +kernel)) <|
  nv_oc (n_iastore (by decide +kernel)) <|
  nv_oc (n_aload_n (k := 0) (by decide +kernel)) <|
  nv_oc (n_iload_n (k := 1) (by decide +kernel)) <|
  nv_oc (n_virtual (M' := M_X6_goOn) (idx := 148) (n := 1) (ci := 6) (N := 16) (D := RX6) (T := TX6) (by decide +kernel) fn_X6_goOn fv_X6_goOn rfl rfl l_X6_148 ⟨by decide, by decide⟩) <|
  nv_oc (n_iload_n (k := 3) (by decide +kernel)) <|
  nv_oc (n_bipush (z := -4) (by decide +kernel) (by decide)) <|
  nv_oc (n_icmp_eq (off := 15) (tgt := 114) (by decide +kernel) (by decide)) <|
  nv_oc (n_aload_n (k := 0) (by decide +kernel)) <|
  nv_oc (n_getfield (idx := 26) (ci := 6) (k := 8) (N := 16) (D := RX6) (T := TX6) (by decide +kernel) rfl i_X6 (by decide) (by decide) f_X6_26) <|
  nv_oc (n_static (M' := M_X6_leftOf) (idx := 115) (n := 1) (by decide +kernel) fn_X6_leftOf st_X6_leftOf l_X6_115 ⟨by decide, by decide⟩) <|
  nv_oc (n_iload (k := 4) (by decide +kernel)) <|
  nv_oc (n_icmp_ge (off := 15) (tgt := 126) (by decide +kernel) (by decide)) <|
  nv_oc (n_iload (k := 5) (by decide +kernel)) <|
  nv_oc (n_istore_n (k := 3) (by decide +kernel) (by decide)) <|
  nv_oc (n_aload_n (k := 0) (by decide +kernel)) <|
  nv_oc (n_getfield (idx := 26) (ci := 6) (k := 8) (N := 16) (D := RX6) (T := TX6) (by decide +kernel) rfl i_X6 (by decide) (by decide) f_X6_26) <|
  nv_oc (n_static (M' := M_X6_leftOf) (idx := 115) (n := 1) (by decide +kernel) fn_X6_leftOf st_X6_leftOf l_X6_115 ⟨by decide, by decide⟩) <|
  nv_oc (n_istore (k := 4) (by decide +kernel) (by decide)) <|
  nv_oc (n_iinc (k := 5) (d := 1) (by decide +kernel) (by decide)) <|
  nv_oc (n_goto (off := -98) (tgt := 31) (by decide +kernel) (by decide)) <|
  nv_oc (n_iload_n (k := 2) (by decide +kernel)) <|
  nv_oc (n_if_ne (off := 7) (tgt := 140) (by decide +kernel) (by decide)) <|
  nv_oc (n_iload_n (k := 3) (by decide +kernel)) <|
  nv_oc (n_goto (off := 5) (tgt := 142) (by decide +kernel) (by decide)) <|
  nv_oc (n_iload (k := 4) (by decide +kernel)) <|
  nv_oc (n_iret (by decide +kernel) rfl) <|
  nv_on
def M_X6_without : nv_MD := (RX6, yX6_without, cX6_without, 2, (some .int), 4, 87)
theorem fn_X6_without : nv_fn M_X6_without 1 := ⟨List.mem_of_getElem? (i := 1017) (by decide +kernel), List.mem_of_getElem? (i := 50) (by decide +kernel), by decide +kernel⟩
theorem fv_X6_without : nv_fnV M_X6_without := ⟨List.mem_of_getElem? (i := 1015) (by decide +kernel), List.mem_of_getElem? (i := 1016) (by decide +kernel)⟩
def P_X6_without : nv_Pg := [(0, s_al 0 1), (1, s_il 1 2), (2, s_cv 6 M_X6_isSawyer 1 5), (5, s_if c_eq 8 10), (8, s_ki (-1) 9), (9, s_ir), (10, s_al 0 11), (11, s_cv 6 M_X6_begin 0 14), (14, s_al 0 15), (15, s_gf 6 8 18), (18, s_ki (12) 20), (20, s_il 1 21), (21, s_add 22), (22, s_ki (-4) 24), (24, s_iw 25), (25, s_al 0 26), (26, s_cv 6 M_X6_noonOf 0 29), (29, s_ir)]
set_option maxRecDepth 100000 in
set_option maxHeartbeats 4000000 in
theorem ok_X6_without : nv_ok_P M_X6_without P_X6_without :=
  nv_oc (n_aload_n (k := 0) (by decide +kernel)) <|
  nv_oc (n_iload_n (k := 1) (by decide +kernel)) <|
  nv_oc (n_virtual (M' := M_X6_isSawyer) (idx := 67) (n := 1) (ci := 6) (N := 16) (D := RX6) (T := TX6) (by decide +kernel) fn_X6_isSawyer fv_X6_isSawyer rfl rfl l_X6_67 ⟨by decide, by decide⟩) <|
  nv_oc (n_if_ne (off := 5) (tgt := 10) (by decide +kernel) (by decide)) <|
  nv_oc (n_iconst (z := -1) (by decide +kernel)) <|
  nv_oc (n_iret (by decide +kernel) rfl) <|
  nv_oc (n_aload_n (k := 0) (by decide +kernel)) <|
  nv_oc (n_virtual (M' := M_X6_begin) (idx := 145) (n := 0) (ci := 6) (N := 16) (D := RX6) (T := TX6) (by decide +kernel) fn_X6_begin fv_X6_begin rfl rfl l_X6_145 ⟨by decide, by decide⟩) <|
  nv_oc (n_aload_n (k := 0) (by decide +kernel)) <|
  nv_oc (n_getfield (idx := 26) (ci := 6) (k := 8) (N := 16) (D := RX6) (T := TX6) (by decide +kernel) rfl i_X6 (by decide) (by decide) f_X6_26) <|
  nv_oc (n_bipush (z := 12) (by decide +kernel) (by decide)) <|
  nv_oc (n_iload_n (k := 1) (by decide +kernel)) <|
  nv_oc (n_iadd (by decide +kernel)) <|
  nv_oc (n_bipush (z := -4) (by decide +kernel) (by decide)) <|
  nv_oc (n_iastore (by decide +kernel)) <|
  nv_oc (n_aload_n (k := 0) (by decide +kernel)) <|
  nv_oc (n_virtual (M' := M_X6_noonOf) (idx := 152) (n := 0) (ci := 6) (N := 16) (D := RX6) (T := TX6) (by decide +kernel) fn_X6_noonOf fv_X6_noonOf rfl rfl l_X6_152 ⟨by decide, by decide⟩) <|
  nv_oc (n_iret (by decide +kernel) rfl) <|
  nv_on
def M_X6_thickest : nv_MD := (RX6, yX6_thickest, cX6_thickest, 5, (some .int), 4, 88)
theorem fn_X6_thickest : nv_fn M_X6_thickest 2 := ⟨List.mem_of_getElem? (i := 1021) (by decide +kernel), List.mem_of_getElem? (i := 50) (by decide +kernel), by decide +kernel⟩
theorem fv_X6_thickest : nv_fnV M_X6_thickest := ⟨List.mem_of_getElem? (i := 1019) (by decide +kernel), List.mem_of_getElem? (i := 1020) (by decide +kernel)⟩
def P_X6_thickest : nv_Pg := [(0, s_al 0 1), (1, s_il 1 2), (2, s_cv 6 M_X6_isPlank 1 5), (5, s_if c_eq 18 8), (8, s_il 2 9), (9, s_ki (1) 10), (10, s_ki (40) 12), (12, s_cs M_X6_in 3 15), (15, s_if c_eq 18 20), (18, s_ki (-1) 19), (19, s_ir), (20, s_ki (99) 22), (22, s_is 3 23), (23, s_ki (0) 24), (24, s_is 4 26), (26, s_il 4 28), (28, s_if c_eq 31 73), (31, s_al 0 32), (32, s_cv 6 M_X6_begin 0 35), (35, s_al 0 36), (36, s_gf 6 8 39), (39, s_ki (2) 40), (40, s_il 1 41), (41, s_add 42), (42, s_il 3 43), (43, s_iw 44), (44, s_al 0 45), (45, s_il 2 46), (46, s_cv 6 M_X6_goOn 1 49), (49, s_al 0 50), (50, s_gf 6 8 53), (53, s_ki (2) 54), (54, s_il 1 55), (55, s_add 56), (56, s_ia 57), (57, s_if c_eq 60 64), (60, s_ki (1) 61), (61, s_go 65), (64, s_ki (0) 65), (65, s_is 4 67), (67, s_inc 3 (-1) 70), (70, s_go 26), (73, s_il 3 74), (74, s_ki (1) 75), (75, s_add 76), (76, s_ir)]
set_option maxRecDepth 100000 in
set_option maxHeartbeats 4000000 in
theorem ok_X6_thickest : nv_ok_P M_X6_thickest P_X6_thickest :=
  nv_oc (n_aload_n (k := 0) (by decide +kernel)) <|
  nv_oc (n_iload_n (k := 1) (by decide +kernel)) <|
  nv_oc (n_virtual (M' := M_X6_isPlank) (idx := 56) (n := 1) (ci := 6) (N := 16) (D := RX6) (T := TX6) (by decide +kernel) fn_X6_isPlank fv_X6_isPlank rfl rfl l_X6_56 ⟨by decide, by decide⟩) <|
  nv_oc (n_if_eq (off := 13) (tgt := 18) (by decide +kernel) (by decide)) <|
  nv_oc (n_iload_n (k := 2) (by decide +kernel)) <|
  nv_oc (n_iconst (z := 1) (by decide +kernel)) <|
  nv_oc (n_bipush (z := 40) (by decide +kernel) (by decide)) <|
  nv_oc (n_static (M' := M_X6_in) (idx := 41) (n := 3) (by decide +kernel) fn_X6_in st_X6_in l_X6_41 ⟨by decide, by decide⟩) <|
  nv_oc (n_if_ne (off := 5) (tgt := 20) (by decide +kernel) (by decide)) <|
  nv_oc (n_iconst (z := -1) (by decide +kernel)) <|
  nv_oc (n_iret (by decide +kernel) rfl) <|
  nv_oc (n_bipush (z := 99) (by decide +kernel) (by decide)) <|
  nv_oc (n_istore_n (k := 3) (by decide +kernel) (by decide)) <|
  nv_oc (n_iconst (z := 0) (by decide +kernel)) <|
  nv_oc (n_istore (k := 4) (by decide +kernel) (by decide)) <|
  nv_oc (n_iload (k := 4) (by decide +kernel)) <|
  nv_oc (n_if_ne (off := 45) (tgt := 73) (by decide +kernel) (by decide)) <|
  nv_oc (n_aload_n (k := 0) (by decide +kernel)) <|
  nv_oc (n_virtual (M' := M_X6_begin) (idx := 145) (n := 0) (ci := 6) (N := 16) (D := RX6) (T := TX6) (by decide +kernel) fn_X6_begin fv_X6_begin rfl rfl l_X6_145 ⟨by decide, by decide⟩) <|
  nv_oc (n_aload_n (k := 0) (by decide +kernel)) <|
  nv_oc (n_getfield (idx := 26) (ci := 6) (k := 8) (N := 16) (D := RX6) (T := TX6) (by decide +kernel) rfl i_X6 (by decide) (by decide) f_X6_26) <|
  nv_oc (n_iconst (z := 2) (by decide +kernel)) <|
  nv_oc (n_iload_n (k := 1) (by decide +kernel)) <|
  nv_oc (n_iadd (by decide +kernel)) <|
  nv_oc (n_iload_n (k := 3) (by decide +kernel)) <|
  nv_oc (n_iastore (by decide +kernel)) <|
  nv_oc (n_aload_n (k := 0) (by decide +kernel)) <|
  nv_oc (n_iload_n (k := 2) (by decide +kernel)) <|
  nv_oc (n_virtual (M' := M_X6_goOn) (idx := 148) (n := 1) (ci := 6) (N := 16) (D := RX6) (T := TX6) (by decide +kernel) fn_X6_goOn fv_X6_goOn rfl rfl l_X6_148 ⟨by decide, by decide⟩) <|
  nv_oc (n_aload_n (k := 0) (by decide +kernel)) <|
  nv_oc (n_getfield (idx := 26) (ci := 6) (k := 8) (N := 16) (D := RX6) (T := TX6) (by decide +kernel) rfl i_X6 (by decide) (by decide) f_X6_26) <|
  nv_oc (n_iconst (z := 2) (by decide +kernel)) <|
  nv_oc (n_iload_n (k := 1) (by decide +kernel)) <|
  nv_oc (n_iadd (by decide +kernel)) <|
  nv_oc (n_iaload (by decide +kernel)) <|
  nv_oc (n_if_ne (off := 7) (tgt := 64) (by decide +kernel) (by decide)) <|
  nv_oc (n_iconst (z := 1) (by decide +kernel)) <|
  nv_oc (n_goto (off := 4) (tgt := 65) (by decide +kernel) (by decide)) <|
  nv_oc (n_iconst (z := 0) (by decide +kernel)) <|
  nv_oc (n_istore (k := 4) (by decide +kernel) (by decide)) <|
  nv_oc (n_iinc (k := 3) (d := -1) (by decide +kernel) (by decide)) <|
  nv_oc (n_goto (off := -44) (tgt := 26) (by decide +kernel) (by decide)) <|
  nv_oc (n_iload_n (k := 3) (by decide +kernel)) <|
  nv_oc (n_iconst (z := 1) (by decide +kernel)) <|
  nv_oc (n_iadd (by decide +kernel)) <|
  nv_oc (n_iret (by decide +kernel) rfl) <|
  nv_on
def M_X6_hops : nv_MD := (RX6, yX6_hops, cX6_hops, 9, (some .int), 3, 66)
theorem fn_X6_hops : nv_fn M_X6_hops 3 := ⟨List.mem_of_getElem? (i := 1025) (by decide +kernel), List.mem_of_getElem? (i := 50) (by decide +kernel), by decide +kernel⟩
theorem fv_X6_hops : nv_fnV M_X6_hops := ⟨List.mem_of_getElem? (i := 1023) (by decide +kernel), List.mem_of_getElem? (i := 1024) (by decide +kernel)⟩
def P_X6_hops : nv_Pg := [(0, s_al 0 1), (1, s_il 1 2), (2, s_cv 6 M_X6_isPlank 1 5), (5, s_if c_eq 27 8), (8, s_il 2 9), (9, s_ki (0) 10), (10, s_ki (10) 12), (12, s_cs M_X6_in 3 15), (15, s_if c_eq 27 18), (18, s_il 3 19), (19, s_ki (0) 20), (20, s_ki (1) 21), (21, s_cs M_X6_in 3 24), (24, s_if c_eq 27 29), (27, s_ki (-1) 28), (28, s_ir), (29, s_ki (0) 30), (30, s_is 4 32), (32, s_ki (1) 33), (33, s_is 5 35), (35, s_ki (0) 36), (36, s_is 6 38), (38, s_il 6 40), (40, s_al 0 41), (41, s_gf 6 7 44), (44, s_ki (28) 46), (46, s_ia 47), (47, s_ic c_ge 63 50), (50, s_il 5 52), (52, s_ki (10) 54), (54, s_mul 55), (55, s_is 5 57), (57, s_inc 6 (1) 60), (60, s_go 38), (63, s_ki (0) 64), (64, s_is 6 66), (66, s_il 6 68), (68, s_ki (1) 69), (69, s_al 0 70), (70, s_gf 6 7 73), (73, s_ki (28) 75), (75, s_ia 76), (76, s_sl 77), (77, s_ic c_ge 169 80), (80, s_ki (1) 81), (81, s_is 7 83), (83, s_ki (0) 84), (84, s_is 8 86), (86, s_il 8 88), (88, s_al 0 89), (89, s_gf 6 7 92), (92, s_ki (28) 94), (94, s_ia 95), (95, s_ic c_ge 127 98), (98, s_il 7 100), (100, s_il 6 102), (102, s_il 8 104), (104, s_cs M_X6_has 2 107), (107, s_if c_eq 114 110), (110, s_il 2 111), (111, s_go 118), (114, s_ki (10) 116), (116, s_il 2 117), (117, s_sub 118), (118, s_mul 119), (119, s_is 7 121), (121, s_inc 8 (1) 124), (124, s_go 86), (127, s_al 0 128), (128, s_cv 6 M_X6_begin 0 131), (131, s_al 0 132), (132, s_al 0 133), (133, s_gf 6 8 136), (136, s_il 6 138), (138, s_cv 6 M_X6_hourIn 2 141), (141, s_il 4 143), (143, s_al 0 144), (144, s_gf 6 8 147), (147, s_ki (2) 148), (148, s_il 1 149), (149, s_add 150), (150, s_ia 151), (151, s_if c_eq 154 159), (154, s_il 7 156), (156, s_go 160), (159, s_ki (0) 160), (160, s_add 161), (161, s_is 4 163), (163, s_inc 6 (1) 166), (166, s_go 66), (169, s_il 4 171), (171, s_is 6 173), (173, s_il 5 175), (175, s_is 7 177), (177, s_il 7 179), (179, s_if c_le 200 182), (182, s_il 6 184), (184, s_il 7 186), (186, s_rem 187), (187, s_is 8 189), (189, s_il 7 191), (191, s_is 6 193), (193, s_il 8 195), (195, s_is 7 197), (197, s_go 177), (200, s_il 3 201), (201, s_if c_eq 204 209), (204, s_il 4 206), (206, s_go 211), (209, s_il 5 211), (211, s_il 6 213), (213, s_div 214), (214, s_ir)]
set_option maxRecDepth 100000 in
set_option maxHeartbeats 4000000 in
theorem ok_X6_hops : nv_ok_P M_X6_hops P_X6_hops :=
  nv_oc (n_aload_n (k := 0) (by decide +kernel)) <|
  nv_oc (n_iload_n (k := 1) (by decide +kernel)) <|
  nv_oc (n_virtual (M' := M_X6_isPlank) (idx := 56) (n := 1) (ci := 6) (N := 16) (D := RX6) (T := TX6) (by decide +kernel) fn_X6_isPlank fv_X6_isPlank rfl rfl l_X6_56 ⟨by decide, by decide⟩) <|
  nv_oc (n_if_eq (off := 22) (tgt := 27) (by decide +kernel) (by decide)) <|
  nv_oc (n_iload_n (k := 2) (by decide +kernel)) <|
  nv_oc (n_iconst (z := 0) (by decide +kernel)) <|
  nv_oc (n_bipush (z := 10) (by decide +kernel) (by decide)) <|
  nv_oc (n_static (M' := M_X6_in) (idx := 41) (n := 3) (by decide +kernel) fn_X6_in st_X6_in l_X6_41 ⟨by decide, by decide⟩) <|
  nv_oc (n_if_eq (off := 12) (tgt := 27) (by decide +kernel) (by decide)) <|
  nv_oc (n_iload_n (k := 3) (by decide +kernel)) <|
  nv_oc (n_iconst (z := 0) (by decide +kernel)) <|
  nv_oc (n_iconst (z := 1) (by decide +kernel)) <|
  nv_oc (n_static (M' := M_X6_in) (idx := 41) (n := 3) (by decide +kernel) fn_X6_in st_X6_in l_X6_41 ⟨by decide, by decide⟩) <|
  nv_oc (n_if_ne (off := 5) (tgt := 29) (by decide +kernel) (by decide)) <|
  nv_oc (n_iconst (z := -1) (by decide +kernel)) <|
  nv_oc (n_iret (by decide +kernel) rfl) <|
  nv_oc (n_iconst (z := 0) (by decide +kernel)) <|
  nv_oc (n_istore (k := 4) (by decide +kernel) (by decide)) <|
  nv_oc (n_iconst (z := 1) (by decide +kernel)) <|
  nv_oc (n_istore (k := 5) (by decide +kernel) (by decide)) <|
  nv_oc (n_iconst (z := 0) (by decide +kernel)) <|
  nv_oc (n_istore (k := 6) (by decide +kernel) (by decide)) <|
  nv_oc (n_iload (k := 6) (by decide +kernel)) <|
  nv_oc (n_aload_n (k := 0) (by decide +kernel)) <|
  nv_oc (n_getfield (idx := 23) (ci := 6) (k := 7) (N := 16) (D := RX6) (T := TX6) (by decide +kernel) rfl i_X6 (by decide) (by decide) f_X6_23) <|
  nv_oc (n_bipush (z := 28) (by decide +kernel) (by decide)) <|
  nv_oc (n_iaload (by decide +kernel)) <|
  nv_oc (n_icmp_ge (off := 16) (tgt := 63) (by decide +kernel) (by decide)) <|
  nv_oc (n_iload (k := 5) (by decide +kernel)) <|
  nv_oc (n_bipush (z := 10) (by decide +kernel) (by decide)) <|
  nv_oc (n_imul (by decide +kernel)) <|
  nv_oc (n_istore (k := 5) (by decide +kernel) (by decide)) <|
  nv_oc (n_iinc (k := 6) (d := 1) (by decide +kernel) (by decide)) <|
  nv_oc (n_goto (off := -22) (tgt := 38) (by decide +kernel) (by decide)) <|
  nv_oc (n_iconst (z := 0) (by decide +kernel)) <|
  nv_oc (n_istore (k := 6) (by decide +kernel) (by decide)) <|
  nv_oc (n_iload (k := 6) (by decide +kernel)) <|
  nv_oc (n_iconst (z := 1) (by decide +kernel)) <|
  nv_oc (n_aload_n (k := 0) (by decide +kernel)) <|
  nv_oc (n_getfield (idx := 23) (ci := 6) (k := 7) (N := 16) (D := RX6) (T := TX6) (by decide +kernel) rfl i_X6 (by decide) (by decide) f_X6_23) <|
  nv_oc (n_bipush (z := 28) (by decide +kernel) (by decide)) <|
  nv_oc (n_iaload (by decide +kernel)) <|
  nv_oc (n_ishl (by decide +kernel)) <|
  nv_oc (n_icmp_ge (off := 92) (tgt := 169) (by decide +kernel) (by decide)) <|
  nv_oc (n_iconst (z := 1) (by decide +kernel)) <|
  nv_oc (n_istore (k := 7) (by decide +kernel) (by decide)) <|
  nv_oc (n_iconst (z := 0) (by decide +kernel)) <|
  nv_oc (n_istore (k := 8) (by decide +kernel) (by decide)) <|
  nv_oc (n_iload (k := 8) (by decide +kernel)) <|
  nv_oc (n_aload_n (k := 0) (by decide +kernel)) <|
  nv_oc (n_getfield (idx := 23) (ci := 6) (k := 7) (N := 16) (D := RX6) (T := TX6) (by decide +kernel) rfl i_X6 (by decide) (by decide) f_X6_23) <|
  nv_oc (n_bipush (z := 28) (by decide +kernel) (by decide)) <|
  nv_oc (n_iaload (by decide +kernel)) <|
  nv_oc (n_icmp_ge (off := 32) (tgt := 127) (by decide +kernel) (by decide)) <|
  nv_oc (n_iload (k := 7) (by decide +kernel)) <|
  nv_oc (n_iload (k := 6) (by decide +kernel)) <|
  nv_oc (n_iload (k := 8) (by decide +kernel)) <|
  nv_oc (n_static (M' := M_X6_has) (idx := 121) (n := 2) (by decide +kernel) fn_X6_has st_X6_has l_X6_121 ⟨by decide, by decide⟩) <|
  nv_oc (n_if_eq (off := 7) (tgt := 114) (by decide +kernel) (by decide)) <|
  nv_oc (n_iload_n (k := 2) (by decide +kernel)) <|
  nv_oc (n_goto (off := 7) (tgt := 118) (by decide +kernel) (by decide)) <|
  nv_oc (n_bipush (z := 10) (by decide +kernel) (by decide)) <|
  nv_oc (n_iload_n (k := 2) (by decide +kernel)) <|
  nv_oc (n_isub (by decide +kernel)) <|
  nv_oc (n_imul (by decide +kernel)) <|
  nv_oc (n_istore (k := 7) (by decide +kernel) (by decide)) <|
  nv_oc (n_iinc (k := 8) (d := 1) (by decide +kernel) (by decide)) <|
  nv_oc (n_goto (off := -38) (tgt := 86) (by decide +kernel) (by decide)) <|
  nv_oc (n_aload_n (k := 0) (by decide +kernel)) <|
  nv_oc (n_virtual (M' := M_X6_begin) (idx := 145) (n := 0) (ci := 6) (N := 16) (D := RX6) (T := TX6) (by decide +kernel) fn_X6_begin fv_X6_begin rfl rfl l_X6_145 ⟨by decide, by decide⟩) <|
  nv_oc (n_aload_n (k := 0) (by decide +kernel)) <|
  nv_oc (n_aload_n (k := 0) (by decide +kernel)) <|
  nv_oc (n_getfield (idx := 26) (ci := 6) (k := 8) (N := 16) (D := RX6) (T := TX6) (by decide +kernel) rfl i_X6 (by decide) (by decide) f_X6_26) <|
  nv_oc (n_iload (k := 6) (by decide +kernel)) <|
  nv_oc (n_virtual (M' := M_X6_hourIn) (idx := 134) (n := 2) (ci := 6) (N := 16) (D := RX6) (T := TX6) (by decide +kernel) fn_X6_hourIn fv_X6_hourIn rfl rfl l_X6_134 ⟨by decide, by decide⟩) <|
  nv_oc (n_iload (k := 4) (by decide +kernel)) <|
  nv_oc (n_aload_n (k := 0) (by decide +kernel)) <|
  nv_oc (n_getfield (idx := 26) (ci := 6) (k := 8) (N := 16) (D := RX6) (T := TX6) (by decide +kernel) rfl i_X6 (by decide) (by decide) f_X6_26) <|
  nv_oc (n_iconst (z := 2) (by decide +kernel)) <|
  nv_oc (n_iload_n (k := 1) (by decide +kernel)) <|
  nv_oc (n_iadd (by decide +kernel)) <|
  nv_oc (n_iaload (by decide +kernel)) <|
  nv_oc (n_if_ne (off := 8) (tgt := 159) (by decide +kernel) (by decide)) <|
  nv_oc (n_iload (k := 7) (by decide +kernel)) <|
  nv_oc (n_goto (off := 4) (tgt := 160) (by decide +kernel) (by decide)) <|
  nv_oc (n_iconst (z := 0) (by decide +kernel)) <|
  nv_oc (n_iadd (by decide +kernel)) <|
  nv_oc (n_istore (k := 4) (by decide +kernel) (by decide)) <|
  nv_oc (n_iinc (k := 6) (d := 1) (by decide +kernel) (by decide)) <|
  nv_oc (n_goto (off := -100) (tgt := 66) (by decide +kernel) (by decide)) <|
  nv_oc (n_iload (k := 4) (by decide +kernel)) <|
  nv_oc (n_istore (k := 6) (by decide +kernel) (by decide)) <|
  nv_oc (n_iload (k := 5) (by decide +kernel)) <|
  nv_oc (n_istore (k := 7) (by decide +kernel) (by decide)) <|
  nv_oc (n_iload (k := 7) (by decide +kernel)) <|
  nv_oc (n_if_le (off := 21) (tgt := 200) (by decide +kernel) (by decide)) <|
  nv_oc (n_iload (k := 6) (by decide +kernel)) <|
  nv_oc (n_iload (k := 7) (by decide +kernel)) <|
  nv_oc (n_irem (by decide +kernel)) <|
  nv_oc (n_istore (k := 8) (by decide +kernel) (by decide)) <|
  nv_oc (n_iload (k := 7) (by decide +kernel)) <|
  nv_oc (n_istore (k := 6) (by decide +kernel) (by decide)) <|
  nv_oc (n_iload (k := 8) (by decide +kernel)) <|
  nv_oc (n_istore (k := 7) (by decide +kernel) (by decide)) <|
  nv_oc (n_goto (off := -20) (tgt := 177) (by decide +kernel) (by decide)) <|
  nv_oc (n_iload_n (k := 3) (by decide +kernel)) <|
  nv_oc (n_if_ne (off := 8) (tgt := 209) (by decide +kernel) (by decide)) <|
  nv_oc (n_iload (k := 4) (by decide +kernel)) <|
  nv_oc (n_goto (off := 5) (tgt := 211) (by decide +kernel) (by decide)) <|
  nv_oc (n_iload (k := 5) (by decide +kernel)) <|
  nv_oc (n_iload (k := 6) (by decide +kernel)) <|
  nv_oc (n_idiv (by decide +kernel)) <|
  nv_oc (n_iret (by decide +kernel) rfl) <|
  nv_on
end
section
def M_X6_image : nv_MD := (RX6, yX6_image, cX6_image, 1, (some .int), 1, 25)
theorem fn_X6_image : nv_fn M_X6_image 0 := ⟨List.mem_of_getElem? (i := 1029) (by decide +kernel), List.mem_of_getElem? (i := 50) (by decide +kernel), by decide +kernel⟩
theorem fv_X6_image : nv_fnV M_X6_image := ⟨List.mem_of_getElem? (i := 1027) (by decide +kernel), List.mem_of_getElem? (i := 1028) (by decide +kernel)⟩
def P_X6_image : nv_Pg := [(0, s_al 0 1), (1, s_gf 6 7 4), (4, s_ki (0) 5), (5, s_al 0 6), (6, s_gf 6 10 9), (9, s_ki (0) 10), (10, s_ki (171) 13), (13, s_cs M_X6_bring 5 16), (16, s_al 0 17), (17, s_ki (1) 18), (18, s_pz 6 11 21), (21, s_ki (1) 22), (22, s_ir)]
set_option maxRecDepth 100000 in
set_option maxHeartbeats 4000000 in
theorem ok_X6_image : nv_ok_P M_X6_image P_X6_image :=
  nv_oc (n_aload_n (k := 0) (by decide +kernel)) <|
  nv_oc (n_getfield (idx := 23) (ci := 6) (k := 7) (N := 16) (D := RX6) (T := TX6) (by decide +kernel) rfl i_X6 (by decide) (by decide) f_X6_23) <|
  nv_oc (n_iconst (z := 0) (by decide +kernel)) <|
  nv_oc (n_aload_n (k := 0) (by decide +kernel)) <|
  nv_oc (n_getfield (idx := 32) (ci := 6) (k := 10) (N := 16) (D := RX6) (T := TX6) (by decide +kernel) rfl i_X6 (by decide) (by decide) f_X6_32) <|
  nv_oc (n_iconst (z := 0) (by decide +kernel)) <|
  nv_oc (n_sipush (z := 171) (by decide +kernel) (by decide)) <|
  nv_oc (n_static (M' := M_X6_bring) (idx := 107) (n := 5) (by decide +kernel) fn_X6_bring st_X6_bring l_X6_107 ⟨by decide, by decide⟩) <|
  nv_oc (n_aload_n (k := 0) (by decide +kernel)) <|
  nv_oc (n_iconst (z := 1) (by decide +kernel)) <|
  nv_oc (n_putbool (idx := 173) (ci := 6) (k := 11) (N := 16) (D := RX6) (T := TX6) tyX6 tyX6_ok nmX6 (by decide +kernel) rfl i_X6 (by decide) (by decide) rfl f_X6_173 rfl) <|
  nv_oc (n_iconst (z := 1) (by decide +kernel)) <|
  nv_oc (n_iret (by decide +kernel) rfl) <|
  nv_on
def M_X6_restore : nv_MD := (RX6, yX6_restore, cX6_restore, 1, (some .int), 1, 25)
theorem fn_X6_restore : nv_fn M_X6_restore 0 := ⟨List.mem_of_getElem? (i := 1033) (by decide +kernel), List.mem_of_getElem? (i := 50) (by decide +kernel), by decide +kernel⟩
theorem fv_X6_restore : nv_fnV M_X6_restore := ⟨List.mem_of_getElem? (i := 1031) (by decide +kernel), List.mem_of_getElem? (i := 1032) (by decide +kernel)⟩
def P_X6_restore : nv_Pg := [(0, s_al 0 1), (1, s_gf 6 11 4), (4, s_if c_eq 7 10), (7, s_ki (-4) 9), (9, s_ir), (10, s_al 0 11), (11, s_gf 6 10 14), (14, s_ki (0) 15), (15, s_al 0 16), (16, s_gf 6 7 19), (19, s_ki (0) 20), (20, s_ki (171) 23), (23, s_cs M_X6_bring 5 26), (26, s_ki (1) 27), (27, s_ir)]
set_option maxRecDepth 100000 in
set_option maxHeartbeats 4000000 in
theorem ok_X6_restore : nv_ok_P M_X6_restore P_X6_restore :=
  nv_oc (n_aload_n (k := 0) (by decide +kernel)) <|
  nv_oc (n_getfield (idx := 173) (ci := 6) (k := 11) (N := 16) (D := RX6) (T := TX6) (by decide +kernel) rfl i_X6 (by decide) (by decide) f_X6_173) <|
  nv_oc (n_if_ne (off := 6) (tgt := 10) (by decide +kernel) (by decide)) <|
  nv_oc (n_bipush (z := -4) (by decide +kernel) (by decide)) <|
  nv_oc (n_iret (by decide +kernel) rfl) <|
  nv_oc (n_aload_n (k := 0) (by decide +kernel)) <|
  nv_oc (n_getfield (idx := 32) (ci := 6) (k := 10) (N := 16) (D := RX6) (T := TX6) (by decide +kernel) rfl i_X6 (by decide) (by decide) f_X6_32) <|
  nv_oc (n_iconst (z := 0) (by decide +kernel)) <|
  nv_oc (n_aload_n (k := 0) (by decide +kernel)) <|
  nv_oc (n_getfield (idx := 23) (ci := 6) (k := 7) (N := 16) (D := RX6) (T := TX6) (by decide +kernel) rfl i_X6 (by decide) (by decide) f_X6_23) <|
  nv_oc (n_iconst (z := 0) (by decide +kernel)) <|
  nv_oc (n_sipush (z := 171) (by decide +kernel) (by decide)) <|
  nv_oc (n_static (M' := M_X6_bring) (idx := 107) (n := 5) (by decide +kernel) fn_X6_bring st_X6_bring l_X6_107 ⟨by decide, by decide⟩) <|
  nv_oc (n_iconst (z := 1) (by decide +kernel)) <|
  nv_oc (n_iret (by decide +kernel) rfl) <|
  nv_on
def M_X6_isSheet : nv_MD := (RX6, yX6_isSheet, cX6_isSheet, 1, (some .boolean), 1, 22)
theorem fn_X6_isSheet : nv_fn M_X6_isSheet 1 := ⟨List.mem_of_getElem? (i := 1040) (by decide +kernel), List.mem_of_getElem? (i := 50) (by decide +kernel), by decide +kernel⟩
theorem st_X6_isSheet : Cond.static (nv_y M_X6_isSheet) ∈ lw_tbl := List.mem_of_getElem? (i := 1039) (by decide +kernel)
def P_X6_isSheet : nv_Pg := [(0, s_il 0 1), (1, s_ki (0) 2), (2, s_ki (3) 3), (3, s_cs M_X6_in 3 6), (6, s_zr)]
set_option maxRecDepth 100000 in
set_option maxHeartbeats 4000000 in
theorem ok_X6_isSheet : nv_ok_P M_X6_isSheet P_X6_isSheet :=
  nv_oc (n_iload_n (k := 0) (by decide +kernel)) <|
  nv_oc (n_iconst (z := 0) (by decide +kernel)) <|
  nv_oc (n_iconst (z := 3) (by decide +kernel)) <|
  nv_oc (n_static (M' := M_X6_in) (idx := 41) (n := 3) (by decide +kernel) fn_X6_in st_X6_in l_X6_41 ⟨by decide, by decide⟩) <|
  nv_oc (n_zret (by decide +kernel) rfl) <|
  nv_on
def M_X6_isPart : nv_MD := (RX6, yX6_isPart, cX6_isPart, 3, (some .boolean), 0, 0)
theorem fn_X6_isPart : nv_fn M_X6_isPart 3 := ⟨List.mem_of_getElem? (i := 1047) (by decide +kernel), List.mem_of_getElem? (i := 50) (by decide +kernel), by decide +kernel⟩
theorem st_X6_isPart : Cond.static (nv_y M_X6_isPart) ∈ lw_tbl := List.mem_of_getElem? (i := 1046) (by decide +kernel)
def P_X6_isPart : nv_Pg := [(0, s_il 1 1), (1, s_if c_lt 24 4), (4, s_il 0 5), (5, s_if c_lt 24 8), (8, s_il 1 9), (9, s_il 2 10), (10, s_ic c_gt 24 13), (13, s_il 0 14), (14, s_il 2 15), (15, s_il 1 16), (16, s_sub 17), (17, s_ic c_gt 24 20), (20, s_ki (1) 21), (21, s_go 25), (24, s_ki (0) 25), (25, s_zr)]
set_option maxRecDepth 100000 in
set_option maxHeartbeats 4000000 in
theorem ok_X6_isPart : nv_ok_P M_X6_isPart P_X6_isPart :=
  nv_oc (n_iload_n (k := 1) (by decide +kernel)) <|
  nv_oc (n_if_lt (off := 23) (tgt := 24) (by decide +kernel) (by decide)) <|
  nv_oc (n_iload_n (k := 0) (by decide +kernel)) <|
  nv_oc (n_if_lt (off := 19) (tgt := 24) (by decide +kernel) (by decide)) <|
  nv_oc (n_iload_n (k := 1) (by decide +kernel)) <|
  nv_oc (n_iload_n (k := 2) (by decide +kernel)) <|
  nv_oc (n_icmp_gt (off := 14) (tgt := 24) (by decide +kernel) (by decide)) <|
  nv_oc (n_iload_n (k := 0) (by decide +kernel)) <|
  nv_oc (n_iload_n (k := 2) (by decide +kernel)) <|
  nv_oc (n_iload_n (k := 1) (by decide +kernel)) <|
  nv_oc (n_isub (by decide +kernel)) <|
  nv_oc (n_icmp_gt (off := 7) (tgt := 24) (by decide +kernel) (by decide)) <|
  nv_oc (n_iconst (z := 1) (by decide +kernel)) <|
  nv_oc (n_goto (off := 4) (tgt := 25) (by decide +kernel) (by decide)) <|
  nv_oc (n_iconst (z := 0) (by decide +kernel)) <|
  nv_oc (n_zret (by decide +kernel) rfl) <|
  nv_on
def M_X6_wrong : nv_MD := (RX6, yX6_wrong, cX6_wrong, 5, (some .int), 1, 22)
theorem fn_X6_wrong : nv_fn M_X6_wrong 4 := ⟨List.mem_of_getElem? (i := 1044) (by decide +kernel), List.mem_of_getElem? (i := 50) (by decide +kernel), by decide +kernel⟩
theorem fv_X6_wrong : nv_fnV M_X6_wrong := ⟨List.mem_of_getElem? (i := 1043) (by decide +kernel), List.mem_of_getElem? (i := 41) (by decide +kernel)⟩
def P_X6_wrong : nv_Pg := [(0, s_al 0 1), (1, s_gf 6 0 4), (4, s_il 1 5), (5, s_ia 6), (6, s_if c_ge 14 9), (9, s_ki (-11) 11), (11, s_go 50), (14, s_al 0 15), (15, s_gf 6 0 18), (18, s_il 1 19), (19, s_ia 20), (20, s_il 2 21), (21, s_ic c_eq 29 24), (24, s_ki (-12) 26), (26, s_go 50), (29, s_il 3 30), (30, s_il 4 32), (32, s_al 0 33), (33, s_gf 6 1 36), (36, s_il 1 37), (37, s_ia 38), (38, s_cs M_X6_isPart 3 41), (41, s_if c_eq 48 44), (44, s_ki (0) 45), (45, s_go 50), (48, s_ki (-13) 50), (50, s_ir)]
set_option maxRecDepth 100000 in
set_option maxHeartbeats 4000000 in
theorem ok_X6_wrong : nv_ok_P M_X6_wrong P_X6_wrong :=
  nv_oc (n_aload_n (k := 0) (by decide +kernel)) <|
  nv_oc (n_getfield (idx := 7) (ci := 6) (k := 0) (N := 16) (D := RX6) (T := TX6) (by decide +kernel) rfl i_X6 (by decide) (by decide) f_X6_7) <|
  nv_oc (n_iload_n (k := 1) (by decide +kernel)) <|
  nv_oc (n_iaload (by decide +kernel)) <|
  nv_oc (n_if_ge (off := 8) (tgt := 14) (by decide +kernel) (by decide)) <|
  nv_oc (n_bipush (z := -11) (by decide +kernel) (by decide)) <|
  nv_oc (n_goto (off := 39) (tgt := 50) (by decide +kernel) (by decide)) <|
  nv_oc (n_aload_n (k := 0) (by decide +kernel)) <|
  nv_oc (n_getfield (idx := 7) (ci := 6) (k := 0) (N := 16) (D := RX6) (T := TX6) (by decide +kernel) rfl i_X6 (by decide) (by decide) f_X6_7) <|
  nv_oc (n_iload_n (k := 1) (by decide +kernel)) <|
  nv_oc (n_iaload (by decide +kernel)) <|
  nv_oc (n_iload_n (k := 2) (by decide +kernel)) <|
  nv_oc (n_icmp_eq (off := 8) (tgt := 29) (by decide +kernel) (by decide)) <|
  nv_oc (n_bipush (z := -12) (by decide +kernel) (by decide)) <|
  nv_oc (n_goto (off := 24) (tgt := 50) (by decide +kernel) (by decide)) <|
  nv_oc (n_iload_n (k := 3) (by decide +kernel)) <|
  nv_oc (n_iload (k := 4) (by decide +kernel)) <|
  nv_oc (n_aload_n (k := 0) (by decide +kernel)) <|
  nv_oc (n_getfield (idx := 13) (ci := 6) (k := 1) (N := 16) (D := RX6) (T := TX6) (by decide +kernel) rfl i_X6 (by decide) (by decide) f_X6_13) <|
  nv_oc (n_iload_n (k := 1) (by decide +kernel)) <|
  nv_oc (n_iaload (by decide +kernel)) <|
  nv_oc (n_static (M' := M_X6_isPart) (idx := 177) (n := 3) (by decide +kernel) fn_X6_isPart st_X6_isPart l_X6_177 ⟨by decide, by decide⟩) <|
  nv_oc (n_if_eq (off := 7) (tgt := 48) (by decide +kernel) (by decide)) <|
  nv_oc (n_iconst (z := 0) (by decide +kernel)) <|
  nv_oc (n_goto (off := 5) (tgt := 50) (by decide +kernel) (by decide)) <|
  nv_oc (n_bipush (z := -13) (by decide +kernel) (by decide)) <|
  nv_oc (n_iret (by decide +kernel) rfl) <|
  nv_on
def M_X6_isDust : nv_MD := (RX6, yX6_isDust, cX6_isDust, 7, (some .boolean), 3, 66)
theorem fn_X6_isDust : nv_fn M_X6_isDust 4 := ⟨List.mem_of_getElem? (i := 1051) (by decide +kernel), List.mem_of_getElem? (i := 50) (by decide +kernel), by decide +kernel⟩
theorem fv_X6_isDust : nv_fnV M_X6_isDust := ⟨List.mem_of_getElem? (i := 1050) (by decide +kernel), List.mem_of_getElem? (i := 42) (by decide +kernel)⟩
def P_X6_isDust : nv_Pg := [(0, s_ki (1) 1), (1, s_is 5 3), (3, s_ki (0) 4), (4, s_is 6 6), (6, s_il 6 8), (8, s_il 4 10), (10, s_ic c_ge 67 13), (13, s_il 5 15), (15, s_if c_eq 67 18), (18, s_al 0 19), (19, s_al 0 20), (20, s_gf 6 8 23), (23, s_ki (0) 24), (24, s_cv 6 M_X6_hourIn 2 27), (27, s_al 0 28), (28, s_gf 6 8 31), (31, s_ki (2) 32), (32, s_il 1 33), (33, s_add 34), (34, s_ia 35), (35, s_i2l 36), (36, s_al 0 37), (37, s_gf 6 2 40), (40, s_ki (24) 42), (42, s_il 2 43), (43, s_mul 44), (44, s_il 3 45), (45, s_add 46), (46, s_il 6 48), (48, s_add 49), (49, s_la 50), (50, s_lcmp 51), (51, s_if c_eq 54 58), (54, s_ki (1) 55), (55, s_go 59), (58, s_ki (0) 59), (59, s_is 5 61), (61, s_inc 6 (1) 64), (64, s_go 6), (67, s_il 5 69), (69, s_zr)]
set_option maxRecDepth 100000 in
set_option maxHeartbeats 4000000 in
theorem ok_X6_isDust : nv_ok_P M_X6_isDust P_X6_isDust :=
  nv_oc (n_iconst (z := 1) (by decide +kernel)) <|
  nv_oc (n_istore (k := 5) (by decide +kernel) (by decide)) <|
  nv_oc (n_iconst (z := 0) (by decide +kernel)) <|
  nv_oc (n_istore (k := 6) (by decide +kernel) (by decide)) <|
  nv_oc (n_iload (k := 6) (by decide +kernel)) <|
  nv_oc (n_iload (k := 4) (by decide +kernel)) <|
  nv_oc (n_icmp_ge (off := 57) (tgt := 67) (by decide +kernel) (by decide)) <|
  nv_oc (n_iload (k := 5) (by decide +kernel)) <|
  nv_oc (n_if_eq (off := 52) (tgt := 67) (by decide +kernel) (by decide)) <|
  nv_oc (n_aload_n (k := 0) (by decide +kernel)) <|
  nv_oc (n_aload_n (k := 0) (by decide +kernel)) <|
  nv_oc (n_getfield (idx := 26) (ci := 6) (k := 8) (N := 16) (D := RX6) (T := TX6) (by decide +kernel) rfl i_X6 (by decide) (by decide) f_X6_26) <|
  nv_oc (n_iconst (z := 0) (by decide +kernel)) <|
  nv_oc (n_virtual (M' := M_X6_hourIn) (idx := 134) (n := 2) (ci := 6) (N := 16) (D := RX6) (T := TX6) (by decide +kernel) fn_X6_hourIn fv_X6_hourIn rfl rfl l_X6_134 ⟨by decide, by decide⟩) <|
  nv_oc (n_aload_n (k := 0) (by decide +kernel)) <|
  nv_oc (n_getfield (idx := 26) (ci := 6) (k := 8) (N := 16) (D := RX6) (T := TX6) (by decide +kernel) rfl i_X6 (by decide) (by decide) f_X6_26) <|
  nv_oc (n_iconst (z := 2) (by decide +kernel)) <|
  nv_oc (n_iload_n (k := 1) (by decide +kernel)) <|
  nv_oc (n_iadd (by decide +kernel)) <|
  nv_oc (n_iaload (by decide +kernel)) <|
  nv_oc (n_i2l (by decide +kernel)) <|
  nv_oc (n_aload_n (k := 0) (by decide +kernel)) <|
  nv_oc (n_getfield (idx := 16) (ci := 6) (k := 2) (N := 16) (D := RX6) (T := TX6) (by decide +kernel) rfl i_X6 (by decide) (by decide) f_X6_16) <|
  nv_oc (n_bipush (z := 24) (by decide +kernel) (by decide)) <|
  nv_oc (n_iload_n (k := 2) (by decide +kernel)) <|
  nv_oc (n_imul (by decide +kernel)) <|
  nv_oc (n_iload_n (k := 3) (by decide +kernel)) <|
  nv_oc (n_iadd (by decide +kernel)) <|
  nv_oc (n_iload (k := 6) (by decide +kernel)) <|
  nv_oc (n_iadd (by decide +kernel)) <|
  nv_oc (n_laload (by decide +kernel)) <|
  nv_oc (n_lcmp (by decide +kernel)) <|
  nv_oc (n_if_ne (off := 7) (tgt := 58) (by decide +kernel) (by decide)) <|
  nv_oc (n_iconst (z := 1) (by decide +kernel)) <|
  nv_oc (n_goto (off := 4) (tgt := 59) (by decide +kernel) (by decide)) <|
  nv_oc (n_iconst (z := 0) (by decide +kernel)) <|
  nv_oc (n_istore (k := 5) (by decide +kernel) (by decide)) <|
  nv_oc (n_iinc (k := 6) (d := 1) (by decide +kernel) (by decide)) <|
  nv_oc (n_goto (off := -58) (tgt := 6) (by decide +kernel) (by decide)) <|
  nv_oc (n_iload (k := 5) (by decide +kernel)) <|
  nv_oc (n_zret (by decide +kernel) rfl) <|
  nv_on
def M_X6_dust : nv_MD := (RX6, yX6_dust, cX6_dust, 11, (some .int), 4, 92)
theorem fn_X6_dust : nv_fn M_X6_dust 7 := ⟨List.mem_of_getElem? (i := 1037) (by decide +kernel), List.mem_of_getElem? (i := 50) (by decide +kernel), by decide +kernel⟩
theorem fv_X6_dust : nv_fnV M_X6_dust := ⟨List.mem_of_getElem? (i := 1035) (by decide +kernel), List.mem_of_getElem? (i := 1036) (by decide +kernel)⟩
def P_X6_dust : nv_Pg := [(0, s_al 0 1), (1, s_il 1 2), (2, s_cv 6 M_X6_isPlank 1 5), (5, s_if c_eq 54 8), (8, s_al 0 9), (9, s_il 2 10), (10, s_cv 6 M_X6_isSawyer 1 13), (13, s_if c_eq 54 16), (16, s_il 3 17), (17, s_cs M_X6_isSheet 1 20), (20, s_if c_eq 54 23), (23, s_il 4 25), (25, s_ki (0) 26), (26, s_ki (3) 27), (27, s_cs M_X6_in 3 30), (30, s_if c_eq 54 33), (33, s_il 6 35), (35, s_ki (1) 36), (36, s_ki (8) 38), (38, s_cs M_X6_in 3 41), (41, s_if c_eq 54 44), (44, s_il 7 46), (46, s_ki (0) 47), (47, s_ki (2) 48), (48, s_cs M_X6_in 3 51), (51, s_if c_eq 54 56), (54, s_ki (-1) 55), (55, s_ir), (56, s_al 0 57), (57, s_il 3 58), (58, s_il 4 60), (60, s_il 5 62), (62, s_il 6 64), (64, s_cv 6 M_X6_wrong 4 67), (67, s_is 8 69), (69, s_il 8 71), (71, s_if c_eq 77 74), (74, s_il 8 76), (76, s_ir), (77, s_ki (0) 78), (78, s_is 9 80), (80, s_ki (0) 81), (81, s_is 10 83), (83, s_il 10 85), (85, s_il 7 87), (87, s_if c_eq 90 94), (90, s_ki (4) 91), (91, s_go 114), (94, s_il 7 96), (96, s_ki (1) 97), (97, s_ic c_eq 100 105), (100, s_ki (9) 102), (102, s_go 114), (105, s_al 0 106), (106, s_gf 6 7 109), (109, s_ki (17) 111), (111, s_ia 112), (112, s_ki (1) 113), (113, s_sub 114), (114, s_ic c_gt 185 117), (117, s_al 0 118), (118, s_cv 6 M_X6_begin 0 121), (121, s_al 0 122), (122, s_gf 6 8 125), (125, s_il 7 127), (127, s_if c_eq 130 135), (130, s_ki (29) 132), (132, s_go 148), (135, s_il 7 137), (137, s_ki (1) 138), (138, s_ic c_eq 141 146), (141, s_ki (7) 143), (143, s_go 148), (146, s_ki (12) 148), (148, s_il 2 149), (149, s_add 150), (150, s_il 10 152), (152, s_iw 153), (153, s_il 9 155), (155, s_al 0 156), (156, s_il 1 157), (157, s_il 3 158), (158, s_il 5 160), (160, s_il 6 162), (162, s_cv 6 M_X6_isDust 4 165), (165, s_if c_eq 175 168), (168, s_ki (1) 169), (169, s_il 10 171), (171, s_sl 172), (172, s_go 176), (175, s_ki (0) 176), (176, s_b nv_or 177), (177, s_is 9 179), (179, s_inc 10 (1) 182), (182, s_go 83), (185, s_il 9 187), (187, s_ir)]
set_option maxRecDepth 100000 in
set_option maxHeartbeats 4000000 in
theorem ok_X6_dust : nv_ok_P M_X6_dust P_X6_dust :=
  nv_oc (n_aload_n (k := 0) (by decide +kernel)) <|
  nv_oc (n_iload_n (k := 1) (by decide +kernel)) <|
  nv_oc (n_virtual (M' := M_X6_isPlank) (idx := 56) (n := 1) (ci := 6) (N := 16) (D := RX6) (T := TX6) (by decide +kernel) fn_X6_isPlank fv_X6_isPlank rfl rfl l_X6_56 ⟨by decide, by decide⟩) <|
  nv_oc (n_if_eq (off := 49) (tgt := 54) (by decide +kernel) (by decide)) <|
  nv_oc (n_aload_n (k := 0) (by decide +kernel)) <|
  nv_oc (n_iload_n (k := 2) (by decide +kernel)) <|
  nv_oc (n_virtual (M' := M_X6_isSawyer) (idx := 67) (n := 1) (ci := 6) (N := 16) (D := RX6) (T := TX6) (by decide +kernel) fn_X6_isSawyer fv_X6_isSawyer rfl rfl l_X6_67 ⟨by decide, by decide⟩) <|
  nv_oc (n_if_eq (off := 41) (tgt := 54) (by decide +kernel) (by decide)) <|
  nv_oc (n_iload_n (k := 3) (by decide +kernel)) <|
  nv_oc (n_static (M' := M_X6_isSheet) (idx := 180) (n := 1) (by decide +kernel) fn_X6_isSheet st_X6_isSheet l_X6_180 ⟨by decide, by decide⟩) <|
  nv_oc (n_if_eq (off := 34) (tgt := 54) (by decide +kernel) (by decide)) <|
  nv_oc (n_iload (k := 4) (by decide +kernel)) <|
  nv_oc (n_iconst (z := 0) (by decide +kernel)) <|
  nv_oc (n_iconst (z := 3) (by decide +kernel)) <|
  nv_oc (n_static (M' := M_X6_in) (idx := 41) (n := 3) (by decide +kernel) fn_X6_in st_X6_in l_X6_41 ⟨by decide, by decide⟩) <|
  nv_oc (n_if_eq (off := 24) (tgt := 54) (by decide +kernel) (by decide)) <|
  nv_oc (n_iload (k := 6) (by decide +kernel)) <|
  nv_oc (n_iconst (z := 1) (by decide +kernel)) <|
  nv_oc (n_bipush (z := 8) (by decide +kernel) (by decide)) <|
  nv_oc (n_static (M' := M_X6_in) (idx := 41) (n := 3) (by decide +kernel) fn_X6_in st_X6_in l_X6_41 ⟨by decide, by decide⟩) <|
  nv_oc (n_if_eq (off := 13) (tgt := 54) (by decide +kernel) (by decide)) <|
  nv_oc (n_iload (k := 7) (by decide +kernel)) <|
  nv_oc (n_iconst (z := 0) (by decide +kernel)) <|
  nv_oc (n_iconst (z := 2) (by decide +kernel)) <|
  nv_oc (n_static (M' := M_X6_in) (idx := 41) (n := 3) (by decide +kernel) fn_X6_in st_X6_in l_X6_41 ⟨by decide, by decide⟩) <|
  nv_oc (n_if_ne (off := 5) (tgt := 56) (by decide +kernel) (by decide)) <|
  nv_oc (n_iconst (z := -1) (by decide +kernel)) <|
  nv_oc (n_iret (by decide +kernel) rfl) <|
  nv_oc (n_aload_n (k := 0) (by decide +kernel)) <|
  nv_oc (n_iload_n (k := 3) (by decide +kernel)) <|
  nv_oc (n_iload (k := 4) (by decide +kernel)) <|
  nv_oc (n_iload (k := 5) (by decide +kernel)) <|
  nv_oc (n_iload (k := 6) (by decide +kernel)) <|
  nv_oc (n_virtual (M' := M_X6_wrong) (idx := 183) (n := 4) (ci := 6) (N := 16) (D := RX6) (T := TX6) (by decide +kernel) fn_X6_wrong fv_X6_wrong rfl rfl l_X6_183 ⟨by decide, by decide⟩) <|
  nv_oc (n_istore (k := 8) (by decide +kernel) (by decide)) <|
  nv_oc (n_iload (k := 8) (by decide +kernel)) <|
  nv_oc (n_if_eq (off := 6) (tgt := 77) (by decide +kernel) (by decide)) <|
  nv_oc (n_iload (k := 8) (by decide +kernel)) <|
  nv_oc (n_iret (by decide +kernel) rfl) <|
  nv_oc (n_iconst (z := 0) (by decide +kernel)) <|
  nv_oc (n_istore (k := 9) (by decide +kernel) (by decide)) <|
  nv_oc (n_iconst (z := 0) (by decide +kernel)) <|
  nv_oc (n_istore (k := 10) (by decide +kernel) (by decide)) <|
  nv_oc (n_iload (k := 10) (by decide +kernel)) <|
  nv_oc (n_iload (k := 7) (by decide +kernel)) <|
  nv_oc (n_if_ne (off := 7) (tgt := 94) (by decide +kernel) (by decide)) <|
  nv_oc (n_iconst (z := 4) (by decide +kernel)) <|
  nv_oc (n_goto (off := 23) (tgt := 114) (by decide +kernel) (by decide)) <|
  nv_oc (n_iload (k := 7) (by decide +kernel)) <|
  nv_oc (n_iconst (z := 1) (by decide +kernel)) <|
  nv_oc (n_icmp_ne (off := 8) (tgt := 105) (by decide +kernel) (by decide)) <|
  nv_oc (n_bipush (z := 9) (by decide +kernel) (by decide)) <|
  nv_oc (n_goto (off := 12) (tgt := 114) (by decide +kernel) (by decide)) <|
  nv_oc (n_aload_n (k := 0) (by decide +kernel)) <|
  nv_oc (n_getfield (idx := 23) (ci := 6) (k := 7) (N := 16) (D := RX6) (T := TX6) (by decide +kernel) rfl i_X6 (by decide) (by decide) f_X6_23) <|
  nv_oc (n_bipush (z := 17) (by decide +kernel) (by decide)) <|
  nv_oc (n_iaload (by decide +kernel)) <|
  nv_oc (n_iconst (z := 1) (by decide +kernel)) <|
  nv_oc (n_isub (by decide +kernel)) <|
  nv_oc (n_icmp_gt (off := 71) (tgt := 185) (by decide +kernel) (by decide)) <|
  nv_oc (n_aload_n (k := 0) (by decide +kernel)) <|
  nv_oc (n_virtual (M' := M_X6_begin) (idx := 145) (n := 0) (ci := 6) (N := 16) (D := RX6) (T := TX6) (by decide +kernel) fn_X6_begin fv_X6_begin rfl rfl l_X6_145 ⟨by decide, by decide⟩) <|
  nv_oc (n_aload_n (k := 0) (by decide +kernel)) <|
  nv_oc (n_getfield (idx := 26) (ci := 6) (k := 8) (N := 16) (D := RX6) (T := TX6) (by decide +kernel) rfl i_X6 (by decide) (by decide) f_X6_26) <|
  nv_oc (n_iload (k := 7) (by decide +kernel)) <|
  nv_oc (n_if_ne (off := 8) (tgt := 135) (by decide +kernel) (by decide)) <|
  nv_oc (n_bipush (z := 29) (by decide +kernel) (by decide)) <|
  nv_oc (n_goto (off := 16) (tgt := 148) (by decide +kernel) (by decide)) <|
  nv_oc (n_iload (k := 7) (by decide +kernel)) <|
  nv_oc (n_iconst (z := 1) (by decide +kernel)) <|
  nv_oc (n_icmp_ne (off := 8) (tgt := 146) (by decide +kernel) (by decide)) <|
  nv_oc (n_bipush (z := 7) (by decide +kernel) (by decide)) <|
  nv_oc (n_goto (off := 5) (tgt := 148) (by decide +kernel) (by decide)) <|
  nv_oc (n_bipush (z := 12) (by decide +kernel) (by decide)) <|
  nv_oc (n_iload_n (k := 2) (by decide +kernel)) <|
  nv_oc (n_iadd (by decide +kernel)) <|
  nv_oc (n_iload (k := 10) (by decide +kernel)) <|
  nv_oc (n_iastore (by decide +kernel)) <|
  nv_oc (n_iload (k := 9) (by decide +kernel)) <|
  nv_oc (n_aload_n (k := 0) (by decide +kernel)) <|
  nv_oc (n_iload_n (k := 1) (by decide +kernel)) <|
  nv_oc (n_iload_n (k := 3) (by decide +kernel)) <|
  nv_oc (n_iload (k := 5) (by decide +kernel)) <|
  nv_oc (n_iload (k := 6) (by decide +kernel)) <|
  nv_oc (n_virtual (M' := M_X6_isDust) (idx := 187) (n := 4) (ci := 6) (N := 16) (D := RX6) (T := TX6) (by decide +kernel) fn_X6_isDust fv_X6_isDust rfl rfl l_X6_187 ⟨by decide, by decide⟩) <|
  nv_oc (n_if_eq (off := 10) (tgt := 175) (by decide +kernel) (by decide)) <|
  nv_oc (n_iconst (z := 1) (by decide +kernel)) <|
  nv_oc (n_iload (k := 10) (by decide +kernel)) <|
  nv_oc (n_ishl (by decide +kernel)) <|
  nv_oc (n_goto (off := 4) (tgt := 176) (by decide +kernel) (by decide)) <|
  nv_oc (n_iconst (z := 0) (by decide +kernel)) <|
  nv_oc (n_ior (by decide +kernel)) <|
  nv_oc (n_istore (k := 9) (by decide +kernel) (by decide)) <|
  nv_oc (n_iinc (k := 10) (d := 1) (by decide +kernel) (by decide)) <|
  nv_oc (n_goto (off := -99) (tgt := 83) (by decide +kernel) (by decide)) <|
  nv_oc (n_iload (k := 9) (by decide +kernel)) <|
  nv_oc (n_iret (by decide +kernel) rfl) <|
  nv_on
def M_X6_cutTo : nv_MD := (RX6, yX6_cutTo, cX6_cutTo, 3, (some .long), 0, 0)
theorem fn_X6_cutTo : nv_fn M_X6_cutTo 2 := ⟨List.mem_of_getElem? (i := 1058) (by decide +kernel), List.mem_of_getElem? (i := 50) (by decide +kernel), by decide +kernel⟩
theorem st_X6_cutTo : Cond.static (nv_y M_X6_cutTo) ∈ lw_tbl := List.mem_of_getElem? (i := 1057) (by decide +kernel)
def P_X6_cutTo : nv_Pg := [(0, s_il 0 1), (1, s_if c_eq 4 11), (4, s_ll 1 5), (5, s_l2i 6), (6, s_u1 nv_b8 7), (7, s_i2l 8), (8, s_go 35), (11, s_il 0 12), (12, s_ki (1) 13), (13, s_ic c_eq 16 23), (16, s_ll 1 17), (17, s_l2i 18), (18, s_u1 nv_s16 19), (19, s_i2l 20), (20, s_go 35), (23, s_il 0 24), (24, s_ki (2) 25), (25, s_ic c_eq 28 34), (28, s_ll 1 29), (29, s_l2i 30), (30, s_i2l 31), (31, s_go 35), (34, s_ll 1 35), (35, s_lret)]
set_option maxRecDepth 100000 in
set_option maxHeartbeats 4000000 in
theorem ok_X6_cutTo : nv_ok_P M_X6_cutTo P_X6_cutTo :=
  nv_oc (n_iload_n (k := 0) (by decide +kernel)) <|
  nv_oc (n_if_ne (off := 10) (tgt := 11) (by decide +kernel) (by decide)) <|
  nv_oc (n_lload_n (k := 1) (by decide +kernel)) <|
  nv_oc (n_l2i (by decide +kernel)) <|
  nv_oc (n_i2b (by decide +kernel)) <|
  nv_oc (n_i2l (by decide +kernel)) <|
  nv_oc (n_goto (off := 27) (tgt := 35) (by decide +kernel) (by decide)) <|
  nv_oc (n_iload_n (k := 0) (by decide +kernel)) <|
  nv_oc (n_iconst (z := 1) (by decide +kernel)) <|
  nv_oc (n_icmp_ne (off := 10) (tgt := 23) (by decide +kernel) (by decide)) <|
  nv_oc (n_lload_n (k := 1) (by decide +kernel)) <|
  nv_oc (n_l2i (by decide +kernel)) <|
  nv_oc (n_i2s (by decide +kernel)) <|
  nv_oc (n_i2l (by decide +kernel)) <|
  nv_oc (n_goto (off := 15) (tgt := 35) (by decide +kernel) (by decide)) <|
  nv_oc (n_iload_n (k := 0) (by decide +kernel)) <|
  nv_oc (n_iconst (z := 2) (by decide +kernel)) <|
  nv_oc (n_icmp_ne (off := 9) (tgt := 34) (by decide +kernel) (by decide)) <|
  nv_oc (n_lload_n (k := 1) (by decide +kernel)) <|
  nv_oc (n_l2i (by decide +kernel)) <|
  nv_oc (n_i2l (by decide +kernel)) <|
  nv_oc (n_goto (off := 4) (tgt := 35) (by decide +kernel) (by decide)) <|
  nv_oc (n_lload_n (k := 1) (by decide +kernel)) <|
  nv_oc (n_lret (by decide +kernel) rfl) <|
  nv_on
def M_X6_film : nv_MD := (RX6, yX6_film, cX6_film, 8, (some .int), 3, 66)
theorem fn_X6_film : nv_fn M_X6_film 5 := ⟨List.mem_of_getElem? (i := 1055) (by decide +kernel), List.mem_of_getElem? (i := 50) (by decide +kernel), by decide +kernel⟩
theorem fv_X6_film : nv_fnV M_X6_film := ⟨List.mem_of_getElem? (i := 1053) (by decide +kernel), List.mem_of_getElem? (i := 1054) (by decide +kernel)⟩
def P_X6_film : nv_Pg := [(0, s_al 0 1), (1, s_il 1 2), (2, s_cv 6 M_X6_isPlank 1 5), (5, s_if c_eq 35 8), (8, s_il 2 9), (9, s_ki (1) 10), (10, s_ki (24) 12), (12, s_cs M_X6_in 3 15), (15, s_if c_eq 35 18), (18, s_il 3 19), (19, s_cs M_X6_isSheet 1 22), (22, s_if c_eq 35 25), (25, s_il 4 27), (27, s_ki (0) 28), (28, s_ki (3) 29), (29, s_cs M_X6_in 3 32), (32, s_if c_eq 35 37), (35, s_ki (-1) 36), (36, s_ir), (37, s_al 0 38), (38, s_il 3 39), (39, s_il 4 41), (41, s_il 5 43), (43, s_il 2 44), (44, s_cv 6 M_X6_wrong 4 47), (47, s_is 6 49), (49, s_il 6 51), (51, s_if c_eq 57 54), (54, s_il 6 56), (56, s_ir), (57, s_al 0 58), (58, s_cv 6 M_X6_begin 0 61), (61, s_ki (0) 62), (62, s_is 7 64), (64, s_il 7 66), (66, s_il 2 67), (67, s_ic c_ge 114 70), (70, s_al 0 71), (71, s_al 0 72), (72, s_gf 6 8 75), (75, s_ki (0) 76), (76, s_cv 6 M_X6_hourIn 2 79), (79, s_al 0 80), (80, s_gf 6 2 83), (83, s_ki (24) 85), (85, s_il 3 86), (86, s_mul 87), (87, s_il 5 89), (89, s_add 90), (90, s_il 7 92), (92, s_add 93), (93, s_il 4 95), (95, s_al 0 96), (96, s_gf 6 8 99), (99, s_ki (2) 100), (100, s_il 1 101), (101, s_add 102), (102, s_ia 103), (103, s_i2l 104), (104, s_cs M_X6_cutTo 2 107), (107, s_lw 108), (108, s_inc 7 (1) 111), (111, s_go 64), (114, s_il 2 115), (115, s_ir)]
set_option maxRecDepth 100000 in
set_option maxHeartbeats 4000000 in
theorem ok_X6_film : nv_ok_P M_X6_film P_X6_film :=
  nv_oc (n_aload_n (k := 0) (by decide +kernel)) <|
  nv_oc (n_iload_n (k := 1) (by decide +kernel)) <|
  nv_oc (n_virtual (M' := M_X6_isPlank) (idx := 56) (n := 1) (ci := 6) (N := 16) (D := RX6) (T := TX6) (by decide +kernel) fn_X6_isPlank fv_X6_isPlank rfl rfl l_X6_56 ⟨by decide, by decide⟩) <|
  nv_oc (n_if_eq (off := 30) (tgt := 35) (by decide +kernel) (by decide)) <|
  nv_oc (n_iload_n (k := 2) (by decide +kernel)) <|
  nv_oc (n_iconst (z := 1) (by decide +kernel)) <|
  nv_oc (n_bipush (z := 24) (by decide +kernel) (by decide)) <|
  nv_oc (n_static (M' := M_X6_in) (idx := 41) (n := 3) (by decide +kernel) fn_X6_in st_X6_in l_X6_41 ⟨by decide, by decide⟩) <|
  nv_oc (n_if_eq (off := 20) (tgt := 35) (by decide +kernel) (by decide)) <|
  nv_oc (n_iload_n (k := 3) (by decide +kernel)) <|
  nv_oc (n_static (M' := M_X6_isSheet) (idx := 180) (n := 1) (by decide +kernel) fn_X6_isSheet st_X6_isSheet l_X6_180 ⟨by decide, by decide⟩) <|
  nv_oc (n_if_eq (off := 13) (tgt := 35) (by decide +kernel) (by decide)) <|
  nv_oc (n_iload (k := 4) (by decide +kernel)) <|
  nv_oc (n_iconst (z := 0) (by decide +kernel)) <|
  nv_oc (n_iconst (z := 3) (by decide +kernel)) <|
  nv_oc (n_static (M' := M_X6_in) (idx := 41) (n := 3) (by decide +kernel) fn_X6_in st_X6_in l_X6_41 ⟨by decide, by decide⟩) <|
  nv_oc (n_if_ne (off := 5) (tgt := 37) (by decide +kernel) (by decide)) <|
  nv_oc (n_iconst (z := -1) (by decide +kernel)) <|
  nv_oc (n_iret (by decide +kernel) rfl) <|
  nv_oc (n_aload_n (k := 0) (by decide +kernel)) <|
  nv_oc (n_iload_n (k := 3) (by decide +kernel)) <|
  nv_oc (n_iload (k := 4) (by decide +kernel)) <|
  nv_oc (n_iload (k := 5) (by decide +kernel)) <|
  nv_oc (n_iload_n (k := 2) (by decide +kernel)) <|
  nv_oc (n_virtual (M' := M_X6_wrong) (idx := 183) (n := 4) (ci := 6) (N := 16) (D := RX6) (T := TX6) (by decide +kernel) fn_X6_wrong fv_X6_wrong rfl rfl l_X6_183 ⟨by decide, by decide⟩) <|
  nv_oc (n_istore (k := 6) (by decide +kernel) (by decide)) <|
  nv_oc (n_iload (k := 6) (by decide +kernel)) <|
  nv_oc (n_if_eq (off := 6) (tgt := 57) (by decide +kernel) (by decide)) <|
  nv_oc (n_iload (k := 6) (by decide +kernel)) <|
  nv_oc (n_iret (by decide +kernel) rfl) <|
  nv_oc (n_aload_n (k := 0) (by decide +kernel)) <|
  nv_oc (n_virtual (M' := M_X6_begin) (idx := 145) (n := 0) (ci := 6) (N := 16) (D := RX6) (T := TX6) (by decide +kernel) fn_X6_begin fv_X6_begin rfl rfl l_X6_145 ⟨by decide, by decide⟩) <|
  nv_oc (n_iconst (z := 0) (by decide +kernel)) <|
  nv_oc (n_istore (k := 7) (by decide +kernel) (by decide)) <|
  nv_oc (n_iload (k := 7) (by decide +kernel)) <|
  nv_oc (n_iload_n (k := 2) (by decide +kernel)) <|
  nv_oc (n_icmp_ge (off := 47) (tgt := 114) (by decide +kernel) (by decide)) <|
  nv_oc (n_aload_n (k := 0) (by decide +kernel)) <|
  nv_oc (n_aload_n (k := 0) (by decide +kernel)) <|
  nv_oc (n_getfield (idx := 26) (ci := 6) (k := 8) (N := 16) (D := RX6) (T := TX6) (by decide +kernel) rfl i_X6 (by decide) (by decide) f_X6_26) <|
  nv_oc (n_iconst (z := 0) (by decide +kernel)) <|
  nv_oc (n_virtual (M' := M_X6_hourIn) (idx := 134) (n := 2) (ci := 6) (N := 16) (D := RX6) (T := TX6) (by decide +kernel) fn_X6_hourIn fv_X6_hourIn rfl rfl l_X6_134 ⟨by decide, by decide⟩) <|
  nv_oc (n_aload_n (k := 0) (by decide +kernel)) <|
  nv_oc (n_getfield (idx := 16) (ci := 6) (k := 2) (N := 16) (D := RX6) (T := TX6) (by decide +kernel) rfl i_X6 (by decide) (by decide) f_X6_16) <|
  nv_oc (n_bipush (z := 24) (by decide +kernel) (by decide)) <|
  nv_oc (n_iload_n (k := 3) (by decide +kernel)) <|
  nv_oc (n_imul (by decide +kernel)) <|
  nv_oc (n_iload (k := 5) (by decide +kernel)) <|
  nv_oc (n_iadd (by decide +kernel)) <|
  nv_oc (n_iload (k := 7) (by decide +kernel)) <|
  nv_oc (n_iadd (by decide +kernel)) <|
  nv_oc (n_iload (k := 4) (by decide +kernel)) <|
  nv_oc (n_aload_n (k := 0) (by decide +kernel)) <|
  nv_oc (n_getfield (idx := 26) (ci := 6) (k := 8) (N := 16) (D := RX6) (T := TX6) (by decide +kernel) rfl i_X6 (by decide) (by decide) f_X6_26) <|
  nv_oc (n_iconst (z := 2) (by decide +kernel)) <|
  nv_oc (n_iload_n (k := 1) (by decide +kernel)) <|
  nv_oc (n_iadd (by decide +kernel)) <|
  nv_oc (n_iaload (by decide +kernel)) <|
  nv_oc (n_i2l (by decide +kernel)) <|
  nv_oc (n_static (M' := M_X6_cutTo) (idx := 191) (n := 2) (by decide +kernel) fn_X6_cutTo st_X6_cutTo l_X6_191 ⟨by decide, by decide⟩) <|
  nv_oc (n_lastore (by decide +kernel)) <|
  nv_oc (n_iinc (k := 7) (d := 1) (by decide +kernel) (by decide)) <|
  nv_oc (n_goto (off := -47) (tgt := 64) (by decide +kernel) (by decide)) <|
  nv_oc (n_iload_n (k := 2) (by decide +kernel)) <|
  nv_oc (n_iret (by decide +kernel) rfl) <|
  nv_on
def M_X6_sheet : nv_MD := (RX6, yX6_sheet, cX6_sheet, 5, (some .int), 2, 42)
theorem fn_X6_sheet : nv_fn M_X6_sheet 3 := ⟨List.mem_of_getElem? (i := 1062) (by decide +kernel), List.mem_of_getElem? (i := 50) (by decide +kernel), by decide +kernel⟩
theorem fv_X6_sheet : nv_fnV M_X6_sheet := ⟨List.mem_of_getElem? (i := 1060) (by decide +kernel), List.mem_of_getElem? (i := 1061) (by decide +kernel)⟩
def P_X6_sheet : nv_Pg := [(0, s_il 1 1), (1, s_cs M_X6_isSheet 1 4), (4, s_if c_eq 22 7), (7, s_il 2 8), (8, s_ki (0) 9), (9, s_ki (3) 10), (10, s_cs M_X6_in 3 13), (13, s_if c_eq 22 16), (16, s_il 3 17), (17, s_ki (24) 19), (19, s_ic c_le 24 22), (22, s_ki (-1) 23), (23, s_ir), (24, s_il 3 25), (25, s_if c_ge 31 28), (28, s_ki (-14) 30), (30, s_ir), (31, s_al 0 32), (32, s_gf 6 0 35), (35, s_il 1 36), (36, s_il 2 37), (37, s_iw 38), (38, s_al 0 39), (39, s_gf 6 1 42), (42, s_il 1 43), (43, s_il 3 44), (44, s_iw 45), (45, s_ki (0) 46), (46, s_is 4 48), (48, s_il 4 50), (50, s_ki (24) 52), (52, s_ic c_ge 74 55), (55, s_al 0 56), (56, s_gf 6 2 59), (59, s_ki (24) 61), (61, s_il 1 62), (62, s_mul 63), (63, s_il 4 65), (65, s_add 66), (66, s_kl 0 67), (67, s_lw 68), (68, s_inc 4 (1) 71), (71, s_go 48), (74, s_il 3 75), (75, s_ir)]
set_option maxRecDepth 100000 in
set_option maxHeartbeats 4000000 in
theorem ok_X6_sheet : nv_ok_P M_X6_sheet P_X6_sheet :=
  nv_oc (n_iload_n (k := 1) (by decide +kernel)) <|
  nv_oc (n_static (M' := M_X6_isSheet) (idx := 180) (n := 1) (by decide +kernel) fn_X6_isSheet st_X6_isSheet l_X6_180 ⟨by decide, by decide⟩) <|
  nv_oc (n_if_eq (off := 18) (tgt := 22) (by decide +kernel) (by decide)) <|
  nv_oc (n_iload_n (k := 2) (by decide +kernel)) <|
  nv_oc (n_iconst (z := 0) (by decide +kernel)) <|
  nv_oc (n_iconst (z := 3) (by decide +kernel)) <|
  nv_oc (n_static (M' := M_X6_in) (idx := 41) (n := 3) (by decide +kernel) fn_X6_in st_X6_in l_X6_41 ⟨by decide, by decide⟩) <|
  nv_oc (n_if_eq (off := 9) (tgt := 22) (by decide +kernel) (by decide)) <|
  nv_oc (n_iload_n (k := 3) (by decide +kernel)) <|
  nv_oc (n_bipush (z := 24) (by decide +kernel) (by decide)) <|
  nv_oc (n_icmp_le (off := 5) (tgt := 24) (by decide +kernel) (by decide)) <|
  nv_oc (n_iconst (z := -1) (by decide +kernel)) <|
  nv_oc (n_iret (by decide +kernel) rfl) <|
  nv_oc (n_iload_n (k := 3) (by decide +kernel)) <|
  nv_oc (n_if_ge (off := 6) (tgt := 31) (by decide +kernel) (by decide)) <|
  nv_oc (n_bipush (z := -14) (by decide +kernel) (by decide)) <|
  nv_oc (n_iret (by decide +kernel) rfl) <|
  nv_oc (n_aload_n (k := 0) (by decide +kernel)) <|
  nv_oc (n_getfield (idx := 7) (ci := 6) (k := 0) (N := 16) (D := RX6) (T := TX6) (by decide +kernel) rfl i_X6 (by decide) (by decide) f_X6_7) <|
  nv_oc (n_iload_n (k := 1) (by decide +kernel)) <|
  nv_oc (n_iload_n (k := 2) (by decide +kernel)) <|
  nv_oc (n_iastore (by decide +kernel)) <|
  nv_oc (n_aload_n (k := 0) (by decide +kernel)) <|
  nv_oc (n_getfield (idx := 13) (ci := 6) (k := 1) (N := 16) (D := RX6) (T := TX6) (by decide +kernel) rfl i_X6 (by decide) (by decide) f_X6_13) <|
  nv_oc (n_iload_n (k := 1) (by decide +kernel)) <|
  nv_oc (n_iload_n (k := 3) (by decide +kernel)) <|
  nv_oc (n_iastore (by decide +kernel)) <|
  nv_oc (n_iconst (z := 0) (by decide +kernel)) <|
  nv_oc (n_istore (k := 4) (by decide +kernel) (by decide)) <|
  nv_oc (n_iload (k := 4) (by decide +kernel)) <|
  nv_oc (n_bipush (z := 24) (by decide +kernel) (by decide)) <|
  nv_oc (n_icmp_ge (off := 22) (tgt := 74) (by decide +kernel) (by decide)) <|
  nv_oc (n_aload_n (k := 0) (by decide +kernel)) <|
  nv_oc (n_getfield (idx := 16) (ci := 6) (k := 2) (N := 16) (D := RX6) (T := TX6) (by decide +kernel) rfl i_X6 (by decide) (by decide) f_X6_16) <|
  nv_oc (n_bipush (z := 24) (by decide +kernel) (by decide)) <|
  nv_oc (n_iload_n (k := 1) (by decide +kernel)) <|
  nv_oc (n_imul (by decide +kernel)) <|
  nv_oc (n_iload (k := 4) (by decide +kernel)) <|
  nv_oc (n_iadd (by decide +kernel)) <|
  nv_oc (n_lconst (z := 0) (v := 0) (by decide +kernel) (by decide)) <|
  nv_oc (n_lastore (by decide +kernel)) <|
  nv_oc (n_iinc (k := 4) (d := 1) (by decide +kernel) (by decide)) <|
  nv_oc (n_goto (off := -23) (tgt := 48) (by decide +kernel) (by decide)) <|
  nv_oc (n_iload_n (k := 3) (by decide +kernel)) <|
  nv_oc (n_iret (by decide +kernel) rfl) <|
  nv_on
def M_X6_drop : nv_MD := (RX6, yX6_drop, cX6_drop, 2, (some .int), 2, 42)
theorem fn_X6_drop : nv_fn M_X6_drop 1 := ⟨List.mem_of_getElem? (i := 1066) (by decide +kernel), List.mem_of_getElem? (i := 50) (by decide +kernel), by decide +kernel⟩
theorem fv_X6_drop : nv_fnV M_X6_drop := ⟨List.mem_of_getElem? (i := 1064) (by decide +kernel), List.mem_of_getElem? (i := 1065) (by decide +kernel)⟩
def P_X6_drop : nv_Pg := [(0, s_il 1 1), (1, s_cs M_X6_isSheet 1 4), (4, s_if c_eq 7 9), (7, s_ki (-1) 8), (8, s_ir), (9, s_al 0 10), (10, s_gf 6 0 13), (13, s_il 1 14), (14, s_ia 15), (15, s_if c_ge 21 18), (18, s_ki (-11) 20), (20, s_ir), (21, s_al 0 22), (22, s_gf 6 0 25), (25, s_il 1 26), (26, s_ki (-1) 27), (27, s_iw 28), (28, s_al 0 29), (29, s_gf 6 1 32), (32, s_il 1 33), (33, s_ia 34), (34, s_ir)]
set_option maxRecDepth 100000 in
set_option maxHeartbeats 4000000 in
theorem ok_X6_drop : nv_ok_P M_X6_drop P_X6_drop :=
  nv_oc (n_iload_n (k := 1) (by decide +kernel)) <|
  nv_oc (n_static (M' := M_X6_isSheet) (idx := 180) (n := 1) (by decide +kernel) fn_X6_isSheet st_X6_isSheet l_X6_180 ⟨by decide, by decide⟩) <|
  nv_oc (n_if_ne (off := 5) (tgt := 9) (by decide +kernel) (by decide)) <|
  nv_oc (n_iconst (z := -1) (by decide +kernel)) <|
  nv_oc (n_iret (by decide +kernel) rfl) <|
  nv_oc (n_aload_n (k := 0) (by decide +kernel)) <|
  nv_oc (n_getfield (idx := 7) (ci := 6) (k := 0) (N := 16) (D := RX6) (T := TX6) (by decide +kernel) rfl i_X6 (by decide) (by decide) f_X6_7) <|
  nv_oc (n_iload_n (k := 1) (by decide +kernel)) <|
  nv_oc (n_iaload (by decide +kernel)) <|
  nv_oc (n_if_ge (off := 6) (tgt := 21) (by decide +kernel) (by decide)) <|
  nv_oc (n_bipush (z := -11) (by decide +kernel) (by decide)) <|
  nv_oc (n_iret (by decide +kernel) rfl) <|
  nv_oc (n_aload_n (k := 0) (by decide +kernel)) <|
  nv_oc (n_getfield (idx := 7) (ci := 6) (k := 0) (N := 16) (D := RX6) (T := TX6) (by decide +kernel) rfl i_X6 (by decide) (by decide) f_X6_7) <|
  nv_oc (n_iload_n (k := 1) (by decide +kernel)) <|
  nv_oc (n_iconst (z := -1) (by decide +kernel)) <|
  nv_oc (n_iastore (by decide +kernel)) <|
  nv_oc (n_aload_n (k := 0) (by decide +kernel)) <|
  nv_oc (n_getfield (idx := 13) (ci := 6) (k := 1) (N := 16) (D := RX6) (T := TX6) (by decide +kernel) rfl i_X6 (by decide) (by decide) f_X6_13) <|
  nv_oc (n_iload_n (k := 1) (by decide +kernel)) <|
  nv_oc (n_iaload (by decide +kernel)) <|
  nv_oc (n_iret (by decide +kernel) rfl) <|
  nv_on
def M_X6_item : nv_MD := (RX6, yX6_item, cX6_item, 7, (some .int), 2, 46)
theorem fn_X6_item : nv_fn M_X6_item 4 := ⟨List.mem_of_getElem? (i := 1070) (by decide +kernel), List.mem_of_getElem? (i := 50) (by decide +kernel), by decide +kernel⟩
theorem fv_X6_item : nv_fnV M_X6_item := ⟨List.mem_of_getElem? (i := 1068) (by decide +kernel), List.mem_of_getElem? (i := 1069) (by decide +kernel)⟩
def P_X6_item : nv_Pg := [(0, s_il 1 1), (1, s_cs M_X6_isSheet 1 4), (4, s_if c_eq 16 7), (7, s_il 2 8), (8, s_ki (0) 9), (9, s_ki (3) 10), (10, s_cs M_X6_in 3 13), (13, s_if c_eq 16 18), (16, s_ki (-1) 17), (17, s_ir), (18, s_al 0 19), (19, s_il 1 20), (20, s_il 2 21), (21, s_il 3 22), (22, s_ki (1) 23), (23, s_cv 6 M_X6_wrong 4 26), (26, s_is 6 28), (28, s_il 6 30), (30, s_if c_eq 36 33), (33, s_il 6 35), (35, s_ir), (36, s_al 0 37), (37, s_gf 6 2 40), (40, s_ki (24) 42), (42, s_il 1 43), (43, s_mul 44), (44, s_il 3 45), (45, s_add 46), (46, s_il 2 47), (47, s_if c_eq 50 58), (50, s_ll 4 52), (52, s_l2i 53), (53, s_u1 nv_b8 54), (54, s_i2l 55), (55, s_go 85), (58, s_il 2 59), (59, s_ki (1) 60), (60, s_ic c_eq 63 71), (63, s_ll 4 65), (65, s_l2i 66), (66, s_u1 nv_s16 67), (67, s_i2l 68), (68, s_go 85), (71, s_il 2 72), (72, s_ki (2) 73), (73, s_ic c_eq 76 83), (76, s_ll 4 78), (78, s_l2i 79), (79, s_i2l 80), (80, s_go 85), (83, s_ll 4 85), (85, s_lw 86), (86, s_ki (1) 87), (87, s_ir)]
set_option maxRecDepth 100000 in
set_option maxHeartbeats 4000000 in
theorem ok_X6_item : nv_ok_P M_X6_item P_X6_item :=
  nv_oc (n_iload_n (k := 1) (by decide +kernel)) <|
  nv_oc (n_static (M' := M_X6_isSheet) (idx := 180) (n := 1) (by decide +kernel) fn_X6_isSheet st_X6_isSheet l_X6_180 ⟨by decide, by decide⟩) <|
  nv_oc (n_if_eq (off := 12) (tgt := 16) (by decide +kernel) (by decide)) <|
  nv_oc (n_iload_n (k := 2) (by decide +kernel)) <|
  nv_oc (n_iconst (z := 0) (by decide +kernel)) <|
  nv_oc (n_iconst (z := 3) (by decide +kernel)) <|
  nv_oc (n_static (M' := M_X6_in) (idx := 41) (n := 3) (by decide +kernel) fn_X6_in st_X6_in l_X6_41 ⟨by decide, by decide⟩) <|
  nv_oc (n_if_ne (off := 5) (tgt := 18) (by decide +kernel) (by decide)) <|
  nv_oc (n_iconst (z := -1) (by decide +kernel)) <|
  nv_oc (n_iret (by decide +kernel) rfl) <|
  nv_oc (n_aload_n (k := 0) (by decide +kernel)) <|
  nv_oc (n_iload_n (k := 1) (by decide +kernel)) <|
  nv_oc (n_iload_n (k := 2) (by decide +kernel)) <|
  nv_oc (n_iload_n (k := 3) (by decide +kernel)) <|
  nv_oc (n_iconst (z := 1) (by decide +kernel)) <|
  nv_oc (n_virtual (M' := M_X6_wrong) (idx := 183) (n := 4) (ci := 6) (N := 16) (D := RX6) (T := TX6) (by decide +kernel) fn_X6_wrong fv_X6_wrong rfl rfl l_X6_183 ⟨by decide, by decide⟩) <|
  nv_oc (n_istore (k := 6) (by decide +kernel) (by decide)) <|
  nv_oc (n_iload (k := 6) (by decide +kernel)) <|
  nv_oc (n_if_eq (off := 6) (tgt := 36) (by decide +kernel) (by decide)) <|
  nv_oc (n_iload (k := 6) (by decide +kernel)) <|
  nv_oc (n_iret (by decide +kernel) rfl) <|
  nv_oc (n_aload_n (k := 0) (by decide +kernel)) <|
  nv_oc (n_getfield (idx := 16) (ci := 6) (k := 2) (N := 16) (D := RX6) (T := TX6) (by decide +kernel) rfl i_X6 (by decide) (by decide) f_X6_16) <|
  nv_oc (n_bipush (z := 24) (by decide +kernel) (by decide)) <|
  nv_oc (n_iload_n (k := 1) (by decide +kernel)) <|
  nv_oc (n_imul (by decide +kernel)) <|
  nv_oc (n_iload_n (k := 3) (by decide +kernel)) <|
  nv_oc (n_iadd (by decide +kernel)) <|
  nv_oc (n_iload_n (k := 2) (by decide +kernel)) <|
  nv_oc (n_if_ne (off := 11) (tgt := 58) (by decide +kernel) (by decide)) <|
  nv_oc (n_lload (k := 4) (by decide +kernel)) <|
  nv_oc (n_l2i (by decide +kernel)) <|
  nv_oc (n_i2b (by decide +kernel)) <|
  nv_oc (n_i2l (by decide +kernel)) <|
  nv_oc (n_goto (off := 30) (tgt := 85) (by decide +kernel) (by decide)) <|
  nv_oc (n_iload_n (k := 2) (by decide +kernel)) <|
  nv_oc (n_iconst (z := 1) (by decide +kernel)) <|
  nv_oc (n_icmp_ne (off := 11) (tgt := 71) (by decide +kernel) (by decide)) <|
  nv_oc (n_lload (k := 4) (by decide +kernel)) <|
  nv_oc (n_l2i (by decide +kernel)) <|
  nv_oc (n_i2s (by decide +kernel)) <|
  nv_oc (n_i2l (by decide +kernel)) <|
  nv_oc (n_goto (off := 17) (tgt := 85) (by decide +kernel) (by decide)) <|
  nv_oc (n_iload_n (k := 2) (by decide +kernel)) <|
  nv_oc (n_iconst (z := 2) (by decide +kernel)) <|
  nv_oc (n_icmp_ne (off := 10) (tgt := 83) (by decide +kernel) (by decide)) <|
  nv_oc (n_lload (k := 4) (by decide +kernel)) <|
  nv_oc (n_l2i (by decide +kernel)) <|
  nv_oc (n_i2l (by decide +kernel)) <|
  nv_oc (n_goto (off := 5) (tgt := 85) (by decide +kernel) (by decide)) <|
  nv_oc (n_lload (k := 4) (by decide +kernel)) <|
  nv_oc (n_lastore (by decide +kernel)) <|
  nv_oc (n_iconst (z := 1) (by decide +kernel)) <|
  nv_oc (n_iret (by decide +kernel) rfl) <|
  nv_on
def M_X6_copy : nv_MD := (RX6, yX6_copy, cX6_copy, 9, (some .int), 2, 42)
theorem fn_X6_copy : nv_fn M_X6_copy 5 := ⟨List.mem_of_getElem? (i := 1074) (by decide +kernel), List.mem_of_getElem? (i := 50) (by decide +kernel), by decide +kernel⟩
theorem fv_X6_copy : nv_fnV M_X6_copy := ⟨List.mem_of_getElem? (i := 1072) (by decide +kernel), List.mem_of_getElem? (i := 1073) (by decide +kernel)⟩
def P_X6_copy : nv_Pg := [(0, s_il 1 1), (1, s_cs M_X6_isSheet 1 4), (4, s_if c_eq 14 7), (7, s_il 3 8), (8, s_cs M_X6_isSheet 1 11), (11, s_if c_eq 14 16), (14, s_ki (-1) 15), (15, s_ir), (16, s_al 0 17), (17, s_gf 6 0 20), (20, s_il 1 21), (21, s_ia 22), (22, s_if c_lt 34 25), (25, s_al 0 26), (26, s_gf 6 0 29), (29, s_il 3 30), (30, s_ia 31), (31, s_if c_ge 37 34), (34, s_ki (-11) 36), (36, s_ir), (37, s_al 0 38), (38, s_gf 6 0 41), (41, s_il 1 42), (42, s_ia 43), (43, s_al 0 44), (44, s_gf 6 0 47), (47, s_il 3 48), (48, s_ia 49), (49, s_ic c_eq 55 52), (52, s_ki (-12) 54), (54, s_ir), (55, s_il 2 56), (56, s_il 5 58), (58, s_al 0 59), (59, s_gf 6 1 62), (62, s_il 1 63), (63, s_ia 64), (64, s_cs M_X6_isPart 3 67), (67, s_if c_eq 86 70), (70, s_il 4 72), (72, s_il 5 74), (74, s_al 0 75), (75, s_gf 6 1 78), (78, s_il 3 79), (79, s_ia 80), (80, s_cs M_X6_isPart 3 83), (83, s_if c_eq 86 89), (86, s_ki (-13) 88), (88, s_ir), (89, s_il 1 90), (90, s_il 3 91), (91, s_ic c_eq 94 104), (94, s_il 4 96), (96, s_il 2 97), (97, s_ic c_le 104 100), (100, s_ki (1) 101), (101, s_go 105), (104, s_ki (0) 105), (105, s_is 6 107), (107, s_ki (0) 108), (108, s_is 7 110), (110, s_il 7 112), (112, s_il 5 114), (114, s_ic c_ge 171 117), (117, s_il 6 119), (119, s_if c_eq 132 122), (122, s_il 5 124), (124, s_ki (1) 125), (125, s_sub 126), (126, s_il 7 128), (128, s_sub 129), (129, s_go 134), (132, s_il 7 134), (134, s_is 8 136), (136, s_al 0 137), (137, s_gf 6 2 140), (140, s_ki (24) 142), (142, s_il 3 143), (143, s_mul 144), (144, s_il 4 146), (146, s_add 147), (147, s_il 8 149), (149, s_add 150), (150, s_al 0 151), (151, s_gf 6 2 154), (154, s_ki (24) 156), (156, s_il 1 157), (157, s_mul 158), (158, s_il 2 159), (159, s_add 160), (160, s_il 8 162), (162, s_add 163), (163, s_la 164), (164, s_lw 165), (165, s_inc 7 (1) 168), (168, s_go 110), (171, s_il 5 173), (173, s_ir)]
set_option maxRecDepth 100000 in
set_option maxHeartbeats 4000000 in
theorem ok_X6_copy : nv_ok_P M_X6_copy P_X6_copy :=
  nv_oc (n_iload_n (k := 1) (by decide +kernel)) <|
  nv_oc (n_static (M' := M_X6_isSheet) (idx := 180) (n := 1) (by decide +kernel) fn_X6_isSheet st_X6_isSheet l_X6_180 ⟨by decide, by decide⟩) <|
  nv_oc (n_if_eq (off := 10) (tgt := 14) (by decide +kernel) (by decide)) <|
  nv_oc (n_iload_n (k := 3) (by decide +kernel)) <|
  nv_oc (n_static (M' := M_X6_isSheet) (idx := 180) (n := 1) (by decide +kernel) fn_X6_isSheet st_X6_isSheet l_X6_180 ⟨by decide, by decide⟩) <|
  nv_oc (n_if_ne (off := 5) (tgt := 16) (by decide +kernel) (by decide)) <|
  nv_oc (n_iconst (z := -1) (by decide +kernel)) <|
  nv_oc (n_iret (by decide +kernel) rfl) <|
  nv_oc (n_aload_n (k := 0) (by decide +kernel)) <|
  nv_oc (n_getfield (idx := 7) (ci := 6) (k := 0) (N := 16) (D := RX6) (T := TX6) (by decide +kernel) rfl i_X6 (by decide) (by decide) f_X6_7) <|
  nv_oc (n_iload_n (k := 1) (by decide +kernel)) <|
  nv_oc (n_iaload (by decide +kernel)) <|
  nv_oc (n_if_lt (off := 12) (tgt := 34) (by decide +kernel) (by decide)) <|
  nv_oc (n_aload_n (k := 0) (by decide +kernel)) <|
  nv_oc (n_getfield (idx := 7) (ci := 6) (k := 0) (N := 16) (D := RX6) (T := TX6) (by decide +kernel) rfl i_X6 (by decide) (by decide) f_X6_7) <|
  nv_oc (n_iload_n (k := 3) (by decide +kernel)) <|
  nv_oc (n_iaload (by decide +kernel)) <|
  nv_oc (n_if_ge (off := 6) (tgt := 37) (by decide +kernel) (by decide)) <|
  nv_oc (n_bipush (z := -11) (by decide +kernel) (by decide)) <|
  nv_oc (n_iret (by decide +kernel) rfl) <|
  nv_oc (n_aload_n (k := 0) (by decide +kernel)) <|
  nv_oc (n_getfield (idx := 7) (ci := 6) (k := 0) (N := 16) (D := RX6) (T := TX6) (by decide +kernel) rfl i_X6 (by decide) (by decide) f_X6_7) <|
  nv_oc (n_iload_n (k := 1) (by decide +kernel)) <|
  nv_oc (n_iaload (by decide +kernel)) <|
  nv_oc (n_aload_n (k := 0) (by decide +kernel)) <|
  nv_oc (n_getfield (idx := 7) (ci := 6) (k := 0) (N := 16) (D := RX6) (T := TX6) (by decide +kernel) rfl i_X6 (by decide) (by decide) f_X6_7) <|
  nv_oc (n_iload_n (k := 3) (by decide +kernel)) <|
  nv_oc (n_iaload (by decide +kernel)) <|
  nv_oc (n_icmp_eq (off := 6) (tgt := 55) (by decide +kernel) (by decide)) <|
  nv_oc (n_bipush (z := -12) (by decide +kernel) (by decide)) <|
  nv_oc (n_iret (by decide +kernel) rfl) <|
  nv_oc (n_iload_n (k := 2) (by decide +kernel)) <|
  nv_oc (n_iload (k := 5) (by decide +kernel)) <|
  nv_oc (n_aload_n (k := 0) (by decide +kernel)) <|
  nv_oc (n_getfield (idx := 13) (ci := 6) (k := 1) (N := 16) (D := RX6) (T := TX6) (by decide +kernel) rfl i_X6 (by decide) (by decide) f_X6_13) <|
  nv_oc (n_iload_n (k := 1) (by decide +kernel)) <|
  nv_oc (n_iaload (by decide +kernel)) <|
  nv_oc (n_static (M' := M_X6_isPart) (idx := 177) (n := 3) (by decide +kernel) fn_X6_isPart st_X6_isPart l_X6_177 ⟨by decide, by decide⟩) <|
  nv_oc (n_if_eq (off := 19) (tgt := 86) (by decide +kernel) (by decide)) <|
  nv_oc (n_iload (k := 4) (by decide +kernel)) <|
  nv_oc (n_iload (k := 5) (by decide +kernel)) <|
  nv_oc (n_aload_n (k := 0) (by decide +kernel)) <|
  nv_oc (n_getfield (idx := 13) (ci := 6) (k := 1) (N := 16) (D := RX6) (T := TX6) (by decide +kernel) rfl i_X6 (by decide) (by decide) f_X6_13) <|
  nv_oc (n_iload_n (k := 3) (by decide +kernel)) <|
  nv_oc (n_iaload (by decide +kernel)) <|
  nv_oc (n_static (M' := M_X6_isPart) (idx := 177) (n := 3) (by decide +kernel) fn_X6_isPart st_X6_isPart l_X6_177 ⟨by decide, by decide⟩) <|
  nv_oc (n_if_ne (off := 6) (tgt := 89) (by decide +kernel) (by decide)) <|
  nv_oc (n_bipush (z := -13) (by decide +kernel) (by decide)) <|
  nv_oc (n_iret (by decide +kernel) rfl) <|
  nv_oc (n_iload_n (k := 1) (by decide +kernel)) <|
  nv_oc (n_iload_n (k := 3) (by decide +kernel)) <|
  nv_oc (n_icmp_ne (off := 13) (tgt := 104) (by decide +kernel) (by decide)) <|
  nv_oc (n_iload (k := 4) (by decide +kernel)) <|
  nv_oc (n_iload_n (k := 2) (by decide +kernel)) <|
  nv_oc (n_icmp_le (off := 7) (tgt := 104) (by decide +kernel) (by decide)) <|
  nv_oc (n_iconst (z := 1) (by decide +kernel)) <|
  nv_oc (n_goto (off := 4) (tgt := 105) (by decide +kernel) (by decide)) <|
  nv_oc (n_iconst (z := 0) (by decide +kernel)) <|
  nv_oc (n_istore (k := 6) (by decide +kernel) (by decide)) <|
  nv_oc (n_iconst (z := 0) (by decide +kernel)) <|
  nv_oc (n_istore (k := 7) (by decide +kernel) (by decide)) <|
  nv_oc (n_iload (k := 7) (by decide +kernel)) <|
  nv_oc (n_iload (k := 5) (by decide +kernel)) <|
  nv_oc (n_icmp_ge (off := 57) (tgt := 171) (by decide +kernel) (by decide)) <|
  nv_oc (n_iload (k := 6) (by decide +kernel)) <|
  nv_oc (n_if_eq (off := 13) (tgt := 132) (by decide +kernel) (by decide)) <|
  nv_oc (n_iload (k := 5) (by decide +kernel)) <|
  nv_oc (n_iconst (z := 1) (by decide +kernel)) <|
  nv_oc (n_isub (by decide +kernel)) <|
  nv_oc (n_iload (k := 7) (by decide +kernel)) <|
  nv_oc (n_isub (by decide +kernel)) <|
  nv_oc (n_goto (off := 5) (tgt := 134) (by decide +kernel) (by decide)) <|
  nv_oc (n_iload (k := 7) (by decide +kernel)) <|
  nv_oc (n_istore (k := 8) (by decide +kernel) (by decide)) <|
  nv_oc (n_aload_n (k := 0) (by decide +kernel)) <|
  nv_oc (n_getfield (idx := 16) (ci := 6) (k := 2) (N := 16) (D := RX6) (T := TX6) (by decide +kernel) rfl i_X6 (by decide) (by decide) f_X6_16) <|
  nv_oc (n_bipush (z := 24) (by decide +kernel) (by decide)) <|
  nv_oc (n_iload_n (k := 3) (by decide +kernel)) <|
  nv_oc (n_imul (by decide +kernel)) <|
  nv_oc (n_iload (k := 4) (by decide +kernel)) <|
  nv_oc (n_iadd (by decide +kernel)) <|
  nv_oc (n_iload (k := 8) (by decide +kernel)) <|
  nv_oc (n_iadd (by decide +kernel)) <|
  nv_oc (n_aload_n (k := 0) (by decide +kernel)) <|
  nv_oc (n_getfield (idx := 16) (ci := 6) (k := 2) (N := 16) (D := RX6) (T := TX6) (by decide +kernel) rfl i_X6 (by decide) (by decide) f_X6_16) <|
  nv_oc (n_bipush (z := 24) (by decide +kernel) (by decide)) <|
  nv_oc (n_iload_n (k := 1) (by decide +kernel)) <|
  nv_oc (n_imul (by decide +kernel)) <|
  nv_oc (n_iload_n (k := 2) (by decide +kernel)) <|
  nv_oc (n_iadd (by decide +kernel)) <|
  nv_oc (n_iload (k := 8) (by decide +kernel)) <|
  nv_oc (n_iadd (by decide +kernel)) <|
  nv_oc (n_laload (by decide +kernel)) <|
  nv_oc (n_lastore (by decide +kernel)) <|
  nv_oc (n_iinc (k := 7) (d := 1) (by decide +kernel) (by decide)) <|
  nv_oc (n_goto (off := -58) (tgt := 110) (by decide +kernel) (by decide)) <|
  nv_oc (n_iload (k := 5) (by decide +kernel)) <|
  nv_oc (n_iret (by decide +kernel) rfl) <|
  nv_on
end
section
/-! ===== rows for walking a program of the layer ===== -/
theorem w_ic {a b : Int} {P A B : Prop} (ha : nv_InR a) (hb : nv_InR b) (f : P → A) (g : ¬ P → B) : nv_InR a ∧ nv_InR b ∧ (P → A) ∧ (¬ P → B) := ⟨ha, hb, f, g⟩
theorem w_if {a : Int} {P A B : Prop} (ha : nv_InR a) (f : P → A) (g : ¬ P → B) : nv_InR a ∧ (P → A) ∧ (¬ P → B) := ⟨ha, f, g⟩
theorem w_ix {j : Int} {n : Nat} {F : Nat → Prop} (q : Nat) (hj : j = (q : Int)) (hq : q < n) (hF : F q) : ∃ q : Nat, j = (q : Int) ∧ q < n ∧ F q := ⟨q, hj, hq, hF⟩
theorem w_call {M : nv_MD} {as : List nv_AV} {h : nv_St} {P' : nv_PT} {F : Option nv_AV → nv_St → Prop} (hR : nv_R M as h P') (hF : ∀ v h', P' v h' → F v h') : ∃ P' : nv_PT, nv_R M as h P' ∧ ∀ v h', P' v h' → F v h' := ⟨P', hR, hF⟩
theorem w_dv {a b : Int} {F : Prop} (ha : 0 ≤ a ∧ a < 2147483648) (hb : 0 < b ∧ b < 2147483648) (hF : F) : (0 ≤ a ∧ a < 2147483648) ∧ (0 < b ∧ b < 2147483648) ∧ F := ⟨ha, hb, hF⟩
theorem ir_n {n : Nat} (h : n < 2147483648) : nv_InR (n : Int) := ⟨by omega, by omega⟩
def m_set (f : Nat → Prop) [DecidablePred f] : Nat → Int
  | 0 => 0
  | n + 1 => m_set f n + (if f n then 2 ^ n else 0)
theorem m_set_lt (f : Nat → Prop) [DecidablePred f] : ∀ n, 0 ≤ m_set f n ∧ m_set f n < 2 ^ n
  | 0 => by simp [m_set]
  | n + 1 => by
    have := m_set_lt f n
    have h2 : (2 : Int) ^ (n + 1) = 2 ^ n + 2 ^ n := by rw [Int.pow_succ]; omega
    unfold m_set
    split <;> omega
theorem nv_or_nat {a b : Nat} (ha : a < 2 ^ 31) (hb : b < 2 ^ 31) : nv_or (a : Int) (b : Int) = ((a ||| b : Nat) : Int) := by
  have h1 : Int32.ofInt (a : Int) ||| Int32.ofInt (b : Int) = Int32.ofInt ((a ||| b : Nat) : Int) := by
    apply Int32.toBitVec.inj
    rw [Int32.toBitVec_or, Int32.toBitVec_ofInt, Int32.toBitVec_ofInt, Int32.toBitVec_ofInt]
    apply BitVec.eq_of_toNat_eq
    simp only [BitVec.toNat_or, BitVec.ofInt_natCast, BitVec.toNat_ofNat]
    rw [Nat.mod_eq_of_lt (show a < 2 ^ 32 by omega), Nat.mod_eq_of_lt (show b < 2 ^ 32 by omega), Nat.mod_eq_of_lt (show a ||| b < 2 ^ 32 from Nat.or_lt_two_pow (by omega) (by omega))]
  unfold nv_or
  rw [h1]
  have h2 : a ||| b < 2 ^ 31 := Nat.or_lt_two_pow ha hb
  exact nv_toInt ⟨by omega, by omega⟩
theorem nv_or_bit {x : Int} {n : Nat} (h0 : 0 ≤ x) (h1 : x < 2 ^ n) (hn : n < 31) : nv_or x (1 * 2 ^ n) = x + 2 ^ n := by
  obtain ⟨a, rfl⟩ : ∃ a : Nat, x = (a : Int) := ⟨x.toNat, by omega⟩
  have ha : a < 2 ^ n := by
    have : ((2 ^ n : Nat) : Int) = 2 ^ n := by push_cast; rfl
    omega
  have hp : 2 ^ n < 2 ^ 31 := Nat.pow_lt_pow_right (by decide) hn
  have e1 : (1 * 2 ^ n : Int) = ((2 ^ n : Nat) : Int) := by push_cast; omega
  rw [e1, nv_or_nat (by omega) hp, Nat.or_comm]
  have := Nat.two_pow_add_eq_or_of_lt ha 1
  simp at this
  rw [← this]
  push_cast
  omega
theorem m_down {n : Nat} {G : Nat → Prop} (h0 : G n) (hs : ∀ i, i < n → G (i + 1) → G i) : ∀ i, i ≤ n → G i := by
  intro i hi
  obtain ⟨d, hd⟩ : ∃ d, i + d = n := ⟨n - i, by omega⟩
  induction d generalizing i with
  | zero => rw [show i = n by omega]; exact h0
  | succ d ih => exact hs i (by omega) (ih (i + 1) (by omega) (by omega))
abbrev m_NN : Type := Nat → Nat → Int
def m_nn (h : nv_St) (o : Nat) : m_NN := fun t j => if t < 7 then h t o j else 0
theorem m_nn_ext {h h' : nv_St} {o : Nat} (e : ∀ t, t < 7 → h' t o = h t o) : m_nn h' o = m_nn h o := by
  funext t j
  unfold m_nn
  split
  · rw [e t (by assumption)]
  · rfl
def m_sum (f : Nat → Int) : Nat → Int
  | 0 => 0
  | n + 1 => m_sum f n + f n
theorem m_sum_le {f : Nat → Int} {c : Int} : ∀ {n : Nat}, (∀ i, i < n → 0 ≤ f i ∧ f i ≤ c) → 0 ≤ m_sum f n ∧ m_sum f n ≤ n * c
  | 0, _ => by simp [m_sum]
  | n + 1, h => by
    have h1 := m_sum_le (n := n) (fun i hi => h i (by omega))
    have h2 := h n (by omega)
    have h3 : ((n + 1 : Nat) : Int) * c = n * c + c := by push_cast; rw [Int.add_mul]; omega
    unfold m_sum
    omega
/-- a noon that is as it must be: P planks, S sawyers, the hour at most B -/
def m_ok (N : m_NN) (P S : Nat) (B : Int) : Prop :=
  P ≤ 5 ∧ S ≤ 5 ∧ N 0 0 = P ∧ N 0 1 = S ∧ (0 ≤ N 0 2 ∧ N 0 2 ≤ B) ∧ (0 ≤ N 0 3 ∧ N 0 3 < 2147483648) ∧
  (∀ p, p < P → (0 ≤ N 1 p ∧ N 1 p ≤ 99) ∧ (0 ≤ N 2 p ∧ N 2 p ≤ 9) ∧ (0 ≤ N 3 p ∧ N 3 p ≤ 99)) ∧
  (∀ s, s < S → (0 ≤ N 4 s ∧ N 4 s ≤ 4) ∧ (0 ≤ N 5 s ∧ N 5 s ≤ 9) ∧ (N 6 s = -4 ∨ (0 ≤ N 6 s ∧ N 6 s < P)))
def m_plain (t k : Int) : Int := if t ≤ k / 2 then 0 else t - k / 2
def m_old (t k : Int) : Int := m_plain t k + (if 3 ≤ k then 3 else k)
def m_green (t k : Int) (edge : Bool) : Int := if edge = true then 2 * m_plain t k else m_plain t k
def m_by (kd t k : Int) (edge rest : Bool) : Int := if kd = 1 then m_old t k else if kd = 2 then m_green t k edge else if kd = 3 then (if rest = true then 0 else m_old t k) else if kd = 4 then (if m_green t k edge = 1 then 1 else m_green t k edge / 2) else m_plain t k
/-- what a sawyer cuts in this hour -/
def m_edge (N : m_NN) (p : Nat) : Bool := decide (N 3 p = N 1 p) || decide (N 3 p < 10)
def m_rest (N : m_NN) : Bool := decide (N 0 2 % 4 = 0)
def m_cut (N : m_NN) (s : Nat) : Int := if N 6 s < 0 then 0 else if N 3 (N 6 s).toNat = 0 then 0 else m_by (N 4 s) (N 5 s) (N 2 (N 6 s).toNat) (m_edge N (N 6 s).toNat) (m_rest N)
def nv_b (b : Bool) : Int := if b = true then 1 else 0
theorem nv_b01 (b : Bool) : nv_b b = 0 ∨ nv_b b = 1 := by cases b <;> simp [nv_b]
theorem m_ok.h {h : nv_St} {o P S : Nat} {B : Int} (hN : m_ok (m_nn h o) P S B) : P ≤ 5 ∧ S ≤ 5 ∧ h 0 o 0 = P ∧ h 0 o 1 = S ∧ (0 ≤ h 0 o 2 ∧ h 0 o 2 ≤ B) ∧ (0 ≤ h 0 o 3 ∧ h 0 o 3 < 2147483648) ∧
  (∀ p, p < P → (0 ≤ h 1 o p ∧ h 1 o p ≤ 99) ∧ (0 ≤ h 2 o p ∧ h 2 o p ≤ 9) ∧ (0 ≤ h 3 o p ∧ h 3 o p ≤ 99)) ∧
  (∀ s, s < S → (0 ≤ h 4 o s ∧ h 4 o s ≤ 4) ∧ (0 ≤ h 5 o s ∧ h 5 o s ≤ 9) ∧ (h 6 o s = -4 ∨ (0 ≤ h 6 o s ∧ h 6 o s < P))) := hN
def m_eq (P S : Nat) (N N' : m_NN) : Prop := (∀ j, j < 4 → N 0 j = N' 0 j) ∧ (∀ p, p < P → N 1 p = N' 1 p ∧ N 2 p = N' 2 p ∧ N 3 p = N' 3 p) ∧ (∀ s, s < S → N 4 s = N' 4 s ∧ N 5 s = N' 5 s ∧ N 6 s = N' 6 s)
theorem m_eq.rfl' {P S : Nat} {N : m_NN} : m_eq P S N N := ⟨fun _ _ => rfl, fun _ _ => ⟨rfl, rfl, rfl⟩, fun _ _ => ⟨rfl, rfl, rfl⟩⟩
theorem m_eq.symm' {P S : Nat} {N N' : m_NN} (h : m_eq P S N N') : m_eq P S N' N := ⟨fun j hj => (h.1 j hj).symm, fun p hp => ⟨(h.2.1 p hp).1.symm, (h.2.1 p hp).2.1.symm, (h.2.1 p hp).2.2.symm⟩, fun s hs => ⟨(h.2.2 s hs).1.symm, (h.2.2 s hs).2.1.symm, (h.2.2 s hs).2.2.symm⟩⟩
theorem m_eq.trans' {P S : Nat} {N N' N2 : m_NN} (h : m_eq P S N N') (k : m_eq P S N' N2) : m_eq P S N N2 := ⟨fun j hj => (h.1 j hj).trans (k.1 j hj), fun p hp => ⟨(h.2.1 p hp).1.trans (k.2.1 p hp).1, (h.2.1 p hp).2.1.trans (k.2.1 p hp).2.1, (h.2.1 p hp).2.2.trans (k.2.1 p hp).2.2⟩, fun s hs => ⟨(h.2.2 s hs).1.trans (k.2.2 s hs).1, (h.2.2 s hs).2.1.trans (k.2.2 s hs).2.1, (h.2.2 s hs).2.2.trans (k.2.2 s hs).2.2⟩⟩
theorem m_eq.ok {P S : Nat} {N N' : m_NN} {B : Int} (h : m_eq P S N N') (k : m_ok N' P S B) : m_ok N P S B := by
  obtain ⟨k1, k2, k3, k4, k5, k6, k7, k8⟩ := k
  obtain ⟨h1, h2, h3⟩ := h
  refine ⟨k1, k2, (h1 0 (by omega)).trans k3, (h1 1 (by omega)).trans k4, by rw [h1 2 (by omega)]; exact k5, by rw [h1 3 (by omega)]; exact k6, fun p hp => ?_, fun s hs => ?_⟩
  · obtain ⟨a, b, c⟩ := h2 p hp
    rw [a, b, c]; exact k7 p hp
  · obtain ⟨a, b, c⟩ := h3 s hs
    rw [a, b, c]; exact k8 s hs
/-- only the cells of noon o have changed -/
def m_fr (o : Nat) (h h' : nv_St) : Prop := ∀ t i, ¬ (t < 8 ∧ i = o) → h' t i = h t i
theorem m_fr.rfl' {o : Nat} {h : nv_St} : m_fr o h h := fun _ _ _ => rfl
theorem m_fr.trans' {o : Nat} {h h1 h2 : nv_St} (a : m_fr o h h1) (b : m_fr o h1 h2) : m_fr o h h2 := fun t i hn => (b t i hn).trans (a t i hn)
theorem m_fr.up {o : Nat} {h h1 : nv_St} (a : m_fr o h h1) {t j : Nat} {x : Int} (ht : t < 8) : m_fr o h (nv_up h1 t o j x) := by
  intro t' i' hn
  rw [← a t' i' hn]
  funext j'
  unfold nv_up
  rw [if_neg]
  rintro ⟨rfl, rfl, -⟩
  exact hn ⟨ht, rfl⟩
theorem m_fr.row {o : Nat} {h h1 : nv_St} (a : m_fr o h h1) {t : Nat} {f : Nat → Int} (ht : t < 8) : m_fr o h (nv_row h1 t o f) := by
  intro t' i' hn
  rw [← a t' i' hn]
  funext j'
  unfold nv_row
  rw [if_neg]
  rintro ⟨rfl, rfl⟩
  exact hn ⟨ht, rfl⟩
/-- the plank of which most is left, the first of like ones; -4 if all are fallen -/
def m_most (f : Nat → Int) : Nat → Int
  | 0 => -4
  | n + 1 => if 0 < f n ∧ (m_most f n = -4 ∨ f (m_most f n).toNat < f n) then (n : Int) else m_most f n
theorem m_most_r (f : Nat → Int) : ∀ n, m_most f n = -4 ∨ (0 ≤ m_most f n ∧ m_most f n < n ∧ 0 < f (m_most f n).toNat)
  | 0 => Or.inl rfl
  | n + 1 => by
    have := m_most_r f n
    unfold m_most
    split
    · next c => exact Or.inr ⟨by omega, by omega, by simpa using c.1⟩
    · rcases this with h | h
      · exact Or.inl h
      · exact Or.inr ⟨h.1, by omega, h.2.2⟩
def m_up (f : Nat → Int) (k : Nat) (x : Int) : Nat → Int := fun j => if j = k then x else f j
/-- what is left of each plank when the first n sawyers have cut c of theirs -/
def m_lf (N : m_NN) (c : Nat → Int) : Nat → Nat → Int
  | 0 => N 3
  | n + 1 => if 0 < c n then m_up (m_lf N c n) (N 6 n).toNat (max 0 (m_lf N c n (N 6 n).toNat - c n)) else m_lf N c n
def m_P (N : m_NN) : Nat := (N 0 0).toNat
def m_S (N : m_NN) : Nat := (N 0 1).toNat
def m_L (N : m_NN) : Nat → Int := m_lf N (m_cut N) (m_S N)
def m_hit (N : m_NN) (L : Nat → Int) (s : Nat) : Prop := 0 ≤ N 6 s ∧ L (N 6 s).toNat = 0
def m_hour (N : m_NN) : m_NN := fun t j => match t with
  | 0 => if j = 2 then N 0 2 + 1 else N 0 j
  | 3 => m_L N j
  | 5 => if N 0 2 % 3 = 2 ∧ 0 < m_cut N j ∧ 0 < N 5 j then N 5 j - 1 else N 5 j
  | 6 => if (0 ≤ N 6 j ∧ m_L N (N 6 j).toNat = 0) ∧ ¬ m_most (m_L N) (m_P N) = -4 then m_most (m_L N) (m_P N) else N 6 j
  | t => N t j
/-- some i below n is so -/
def m_ex (f : Nat → Bool) : Nat → Bool
  | 0 => false
  | n + 1 => m_ex f n || f n
def m_stir (N : m_NN) : Bool := (m_rest N || m_ex (fun s => decide (0 < m_cut N s)) (m_S N)) || (m_ex (fun s => decide (0 ≤ N 6 s ∧ m_L N (N 6 s).toNat = 0)) (m_S N) && decide (¬ m_most (m_L N) (m_P N) = -4))
theorem w_mx {a b : Int} {F : Prop} (ha : nv_InR a) (hb : nv_InR b) (hF : F) : nv_InR a ∧ nv_InR b ∧ F := ⟨ha, hb, hF⟩
end
section
/-! ===== the noon's small methods ===== -/
set_option maxRecDepth 100000 in
theorem r_outside {h : nv_St} {v a b : Int} (hv : nv_InR v) (ha : nv_InR a) (hb : nv_InR b) : nv_R M_X5_outside [vi v, vi a, vi b] h (fun r h' => h' = h ∧ r = some (vi (nv_b (decide (v < a) || decide (b < v))))) := by
  refine nv_R.of rfl rfl (Nat.le_of_ble_eq_true rfl) ?_
  refine nv_go ok_X5_outside [] 30 ?_
  refine w_ic hv ha (fun c => ?_) (fun c => ?_)
  · refine And.intro (Or.inr rfl) ⟨rfl, ?_⟩
    have c : v < a := c
    simp [nv_b, c]
  · have c : ¬ v < a := c
    refine w_ic hv hb (fun c2 => ?_) (fun c2 => ?_)
    · have c2 : v ≤ b := c2
      refine And.intro (Or.inl rfl) ⟨rfl, ?_⟩
      have c3 : ¬ b < v := by omega
      simp [nv_b, c, c3]
    · have c2 : ¬ v ≤ b := c2
      refine And.intro (Or.inr rfl) ⟨rfl, ?_⟩
      have c3 : b < v := by omega
      simp [nv_b, c, c3]
set_option maxRecDepth 100000 in
theorem r_hoppersRest {h : nv_St} {o : Nat} (h1 : 0 ≤ h 0 o 2 ∧ h 0 o 2 < 1073741824) : nv_R M_X0_hoppersRest [vr 0 o] h (fun r h' => h' = h ∧ r = some (vi (nv_b (m_rest (m_nn h o))))) := by
  refine nv_R.of rfl rfl (Nat.le_of_ble_eq_true rfl) ?_
  refine nv_go ok_X0_hoppersRest [] 30 ?_
  refine w_dv ⟨h1.1, by omega⟩ ⟨by decide, by decide⟩ ?_
  refine w_if (by show _ ∧ _; omega) (fun c => ?_) (fun c => ?_)
  · have c : m_nn h o 0 2 % 4 = 0 := c
    exact And.intro (Or.inr rfl) ⟨rfl, by simp [nv_b, m_rest, c]⟩
  · have c : ¬ m_nn h o 0 2 % 4 = 0 := c
    exact And.intro (Or.inl rfl) ⟨rfl, by simp [nv_b, m_rest, c]⟩
theorem m_plain_r {t k : Int} (ht : 0 ≤ t ∧ t ≤ 9) (hk : 0 ≤ k ∧ k ≤ 9) : 0 ≤ m_plain t k ∧ m_plain t k ≤ 9 := by
  unfold m_plain; split <;> omega
set_option maxHeartbeats 4000000 in
set_option maxRecDepth 100000 in
theorem r_cutBy {h : nv_St} {kd t k : Int} {e r : Bool} (hkd : 0 ≤ kd ∧ kd ≤ 4) (ht : 0 ≤ t ∧ t ≤ 9) (hk : 0 ≤ k ∧ k ≤ 9) : nv_R M_X0_cutBy [vi kd, vi t, vi k, vi (nv_b e), vi (nv_b r)] h (fun v h' => h' = h ∧ v = some (vi (m_by kd t k e r))) := by
  refine nv_R.of rfl rfl (Nat.le_of_ble_eq_true rfl) ?_
  have he := nv_b01 e
  have hr := nv_b01 r
  have he1 : nv_b e = 0 ↔ e = false := by cases e <;> simp [nv_b]
  have hr1 : nv_b r = 0 ↔ r = false := by cases r <;> simp [nv_b]
  have hp := m_plain_r ht hk
  have h48 : ∀ x y z : Int, x = m_plain t k → y = m_old t k → z = m_green t k e → nv_V M_X0_cutBy 48 [(0, vi kd), (1, vi t), (2, vi k), (3, vi (nv_b e)), (4, vi (nv_b r)), (5, vi x), (6, vi y), (7, vi z)] [] h (fun v h' => h' = h ∧ v = some (vi (m_by kd t k e r))) := by
    intro x y z hx hy hz
    have hz0 : 0 ≤ z ∧ z ≤ 18 := by rw [hz]; unfold m_green; split <;> omega
    refine nv_go ok_X0_cutBy [] 40 ?_
    refine And.intro (by omega) (And.intro (fun c => ?_) (And.intro (fun c => ?_) (And.intro (fun c => ?_) (And.intro (fun c => ?_) (And.intro (fun c => ?_) trivial)))))
    · have c : kd < 1 ∨ (1 : Int) + 4 ≤ kd := c
      refine ⟨rfl, ?_⟩
      rw [hx]
      unfold m_by
      rw [if_neg (by omega), if_neg (by omega), if_neg (by omega), if_neg (by omega)]
    · exact ⟨rfl, by rw [hy]; unfold m_by; rw [if_pos (by omega)]⟩
    · exact ⟨rfl, by rw [hz]; unfold m_by; rw [if_neg (by omega), if_pos (by omega)]⟩
    · refine w_if (by omega) (fun c2 => ?_) (fun c2 => ?_)
      · refine ⟨rfl, ?_⟩
        have c2 : r = false := hr1.mp c2
        rw [hy]; unfold m_by; rw [if_neg (by omega), if_neg (by omega), if_pos (by omega), c2]; rfl
      · refine ⟨rfl, ?_⟩
        have c2 : r = true := by
          cases r
          · exact (c2 (hr1.mpr rfl)).elim
          · rfl
        unfold m_by; rw [if_neg (by omega), if_neg (by omega), if_pos (by omega), c2]; rfl
    · refine w_ic (by omega) (by omega) (fun c2 => ?_) (fun c2 => ?_)
      · refine ⟨rfl, ?_⟩
        have c2 : z = 1 := c2
        unfold m_by; rw [if_neg (by omega), if_neg (by omega), if_neg (by omega), if_pos (by omega), ← hz, if_pos c2]
      · have c2 : ¬ z = 1 := c2
        refine w_dv (by omega) (by omega) ?_
        refine ⟨rfl, ?_⟩
        unfold m_by; rw [if_neg (by omega), if_neg (by omega), if_neg (by omega), if_pos (by omega), ← hz, if_neg c2]
  have h33 : ∀ x y : Int, x = m_plain t k → y = m_old t k → nv_V M_X0_cutBy 33 [(0, vi kd), (1, vi t), (2, vi k), (3, vi (nv_b e)), (4, vi (nv_b r)), (5, vi x), (6, vi y)] [] h (fun v h' => h' = h ∧ v = some (vi (m_by kd t k e r))) := by
    intro x y hx hy
    refine nv_go ok_X0_cutBy [48] 40 ?_
    refine w_if (by omega) (fun c => ?_) (fun c => ?_)
    · exact h48 _ _ _ hx hy (by rw [hx]; unfold m_green; rw [he1.mp c]; rfl)
    · exact h48 _ _ _ hx hy (by rw [hx]; unfold m_green; rw [show e = true from by revert c; cases e <;> simp [nv_b]]; rfl)
  have h18 : ∀ x : Int, x = m_plain t k → nv_V M_X0_cutBy 18 [(0, vi kd), (1, vi t), (2, vi k), (3, vi (nv_b e)), (4, vi (nv_b r)), (5, vi x)] [] h (fun v h' => h' = h ∧ v = some (vi (m_by kd t k e r))) := by
    intro x hx
    refine nv_go ok_X0_cutBy [33] 40 ?_
    refine w_ic (by omega) (by omega) (fun c => ?_) (fun c => ?_)
    · have c : 3 ≤ k := c
      exact h33 _ _ hx (by rw [hx]; unfold m_old; rw [if_pos c])
    · have c : ¬ 3 ≤ k := c
      exact h33 _ _ hx (by rw [hx]; unfold m_old; rw [if_neg c])
  refine nv_go ok_X0_cutBy [18] 40 ?_
  refine w_dv (by omega) (by omega) ?_
  refine w_ic (by omega) (by omega) (fun c => ?_) (fun c => ?_)
  · have c : t ≤ k / 2 := c
    exact h18 _ (by unfold m_plain; rw [if_pos c])
  · have c : ¬ t ≤ k / 2 := c
    refine w_dv (by omega) (by omega) ?_
    exact h18 _ (by unfold m_plain; rw [if_neg c])
set_option maxRecDepth 100000 in
theorem r_cutOf {h : nv_St} {o P S : Nat} {B : Int} (hN : m_ok (m_nn h o) P S B) (hB : B < 1073741824) {s : Nat} (hs : s < S) : nv_R M_X0_cutOf [vr 0 o, vi s] h (fun r h' => h' = h ∧ r = some (vi (m_cut (m_nn h o) s))) := by
  obtain ⟨hP5, hS5, hP, hS, hH, hDr, hpl, hsw⟩ := hN.h
  obtain ⟨hk, ht, hse⟩ := hsw s hs
  refine nv_R.of rfl rfl (Nat.le_of_ble_eq_true rfl) ?_
  refine nv_go ok_X0_cutOf [53] 60 ?_
  refine w_ix s rfl (by omega) ?_
  refine w_if (by omega) (fun c => ?_) (fun c => ?_)
  · have c : m_nn h o 6 s < 0 := c
    exact ⟨rfl, by unfold m_cut; rw [if_pos c]⟩
  · have c : ¬ h 6 o s < 0 := c
    obtain ⟨p, hp⟩ : ∃ p : Nat, h 6 o s = p := ⟨(h 6 o s).toNat, by omega⟩
    have hp' : (m_nn h o 6 s).toNat = p := by show (h 6 o s).toNat = p; omega
    have c' : ¬ m_nn h o 6 s < 0 := c
    obtain ⟨h1, h2, h3⟩ := hpl p (by omega)
    refine w_ix p hp (by omega) ?_
    refine w_if (by omega) (fun c2 => ?_) (fun c2 => ?_)
    · have c2 : m_nn h o 3 p = 0 := c2
      exact ⟨rfl, by unfold m_cut; rw [if_neg c', hp', if_pos c2]⟩
    · have c2 : ¬ m_nn h o 3 p = 0 := c2
      have h53 : ∀ e : Bool, e = m_edge (m_nn h o) p → nv_V M_X0_cutOf 53 [(0, vr 0 o), (1, vi s), (2, vi (h 6 o s))] [vi (nv_b e)] h (fun r h' => h' = h ∧ r = some (vi (m_cut (m_nn h o) s))) := by
        intro e he
        refine nv_go ok_X0_cutOf [] 60 ?_
        refine w_ix s rfl (by omega) ?_
        refine w_ix s rfl (by omega) ?_
        refine w_ix p hp (by omega) ?_
        refine w_call (r_hoppersRest ⟨hH.1, by omega⟩) (fun v h' hv => ?_)
        obtain ⟨rfl, rfl⟩ := hv
        refine w_call (r_cutBy hk ht h2) (fun v h' hv => ?_)
        obtain ⟨rfl, rfl⟩ := hv
        exact ⟨rfl, by unfold m_cut; rw [if_neg c', hp', if_neg c2, he]; rfl⟩
      refine w_ix p hp (by omega) ?_
      refine w_ix p hp (by omega) ?_
      refine w_ic (by omega) (by omega) (fun c3 => ?_) (fun c3 => ?_)
      · exact h53 true (by unfold m_edge; rw [show decide (m_nn h o 3 p = m_nn h o 1 p) = true from decide_eq_true c3]; rfl)
      · refine w_ix p hp (by omega) ?_
        refine w_ic (by omega) (by omega) (fun c4 => ?_) (fun c4 => ?_)
        · exact h53 false (by unfold m_edge; rw [show decide (m_nn h o 3 p = m_nn h o 1 p) = false from decide_eq_false c3, show decide (m_nn h o 3 p < 10) = false from decide_eq_false (Int.not_lt.mpr c4)]; rfl)
        · exact h53 true (by unfold m_edge; rw [show decide (m_nn h o 3 p < 10) = true from decide_eq_true (Int.not_le.mp c4)]; simp)
set_option maxRecDepth 100000 in
theorem r_fallenSet {h : nv_St} {o P S : Nat} {B : Int} (hN : m_ok (m_nn h o) P S B) : nv_R M_X0_fallenSet [vr 0 o] h (fun r h' => h' = h ∧ r = some (vi (m_set (fun p => h 3 o p = 0) P))) := by
  obtain ⟨hP5, hS5, hP, hS, hH, hDr, hpl, hsw⟩ := hN.h
  refine nv_R.of rfl rfl (Nat.le_of_ble_eq_true rfl) ?_
  have loop := m_down (n := P) (G := fun p => ∀ j x : Int, j = p → x = m_set (fun p => h 3 o p = 0) p → nv_V M_X0_fallenSet 4 [(0, vr 0 o), (1, vi x), (2, vi j)] [] h (fun r h' => h' = h ∧ r = some (vi (m_set (fun p => h 3 o p = 0) P)))) ?_ ?_
  · refine nv_go ok_X0_fallenSet [4] 10 ?_
    exact loop 0 (by omega) _ _ rfl rfl
  · intro j x hj hx
    refine nv_go ok_X0_fallenSet [4] 30 ?_
    refine w_ic (by omega) (by omega) (fun c => ?_) (fun c => ?_)
    · exact ⟨rfl, by rw [hx]⟩
    · exact absurd (by show h 0 o 0 ≤ j; omega) c
  · intro p hp ih j x hj hx
    have hl := m_set_lt (fun p => h 3 o p = 0) p
    obtain ⟨h1, h2, h3⟩ := hpl p hp
    refine nv_go ok_X0_fallenSet [4] 30 ?_
    refine w_ic (by omega) (by omega) (fun c => ?_) (fun c => ?_)
    · exact absurd c (by show ¬ (h 0 o 0 ≤ j); omega)
    · refine w_ix p hj (by omega) ?_
      refine w_if (by omega) (fun c2 => ?_) (fun c2 => ?_)
      · refine w_ix p hj (by omega) ?_
        have e1 : h 3 o p = 0 := c2
        exact ih _ _ (by omega) (by rw [hx, nv_or_bit hl.1 hl.2 (by omega)]; simp [m_set, e1])
      · have e1 : ¬ h 3 o p = 0 := c2
        exact ih _ _ (by omega) (by rw [hx]; simp [m_set, e1])
set_option maxRecDepth 100000 in
theorem r_leftOfAll {h : nv_St} {o P S : Nat} {B : Int} (hN : m_ok (m_nn h o) P S B) : nv_R M_X0_leftOfAll [vr 0 o] h (fun r h' => h' = h ∧ r = some (vi (m_sum (h 3 o) P))) := by
  obtain ⟨hP5, hS5, hP, hS, hH, hDr, hpl, hsw⟩ := hN.h
  refine nv_R.of rfl rfl (Nat.le_of_ble_eq_true rfl) ?_
  have loop := m_down (n := P) (G := fun p => ∀ j x : Int, j = p → x = m_sum (h 3 o) p → nv_V M_X0_leftOfAll 4 [(0, vr 0 o), (1, vi x), (2, vi j)] [] h (fun r h' => h' = h ∧ r = some (vi (m_sum (h 3 o) P)))) ?_ ?_
  · refine nv_go ok_X0_leftOfAll [4] 10 ?_
    exact loop 0 (by omega) _ _ rfl rfl
  · intro j x hj hx
    refine nv_go ok_X0_leftOfAll [4] 30 ?_
    refine w_ic (by omega) (by omega) (fun c => ?_) (fun c => ?_)
    · exact ⟨rfl, by rw [hx]⟩
    · exact absurd (by show h 0 o 0 ≤ j; omega) c
  · intro p hp ih j x hj hx
    refine nv_go ok_X0_leftOfAll [4] 30 ?_
    refine w_ic (by omega) (by omega) (fun c => ?_) (fun c => ?_)
    · exact absurd c (by show ¬ (h 0 o 0 ≤ j); omega)
    · refine w_ix p hj (by omega) ?_
      exact ih _ _ (by omega) (by rw [hx]; rfl)
set_option maxRecDepth 100000 in
theorem r_teethOfAll {h : nv_St} {o P S : Nat} {B : Int} (hN : m_ok (m_nn h o) P S B) : nv_R M_X0_teethOfAll [vr 0 o] h (fun r h' => h' = h ∧ r = some (vi (m_sum (h 5 o) S))) := by
  obtain ⟨hP5, hS5, hP, hS, hH, hDr, hpl, hsw⟩ := hN.h
  refine nv_R.of rfl rfl (Nat.le_of_ble_eq_true rfl) ?_
  have loop := m_down (n := S) (G := fun p => ∀ j x : Int, j = p → x = m_sum (h 5 o) p → nv_V M_X0_teethOfAll 4 [(0, vr 0 o), (1, vi x), (2, vi j)] [] h (fun r h' => h' = h ∧ r = some (vi (m_sum (h 5 o) S)))) ?_ ?_
  · refine nv_go ok_X0_teethOfAll [4] 10 ?_
    exact loop 0 (by omega) _ _ rfl rfl
  · intro j x hj hx
    refine nv_go ok_X0_teethOfAll [4] 30 ?_
    refine w_ic (by omega) (by omega) (fun c => ?_) (fun c => ?_)
    · exact ⟨rfl, by rw [hx]⟩
    · exact absurd (by show h 0 o 1 ≤ j; omega) c
  · intro p hp ih j x hj hx
    refine nv_go ok_X0_teethOfAll [4] 30 ?_
    refine w_ic (by omega) (by omega) (fun c => ?_) (fun c => ?_)
    · exact absurd c (by show ¬ (h 0 o 1 ≤ j); omega)
    · refine w_ix p hj (by omega) ?_
      exact ih _ _ (by omega) (by rw [hx]; rfl)
set_option maxRecDepth 100000 in
theorem r_sittersOn {h : nv_St} {o P S : Nat} {B : Int} (hN : m_ok (m_nn h o) P S B) {x : Int} (hx0 : nv_InR x) : nv_R M_X0_sittersOn [vr 0 o, vi x] h (fun r h' => h' = h ∧ r = some (vi (m_set (fun s => h 6 o s = x) S))) := by
  obtain ⟨hP5, hS5, hP, hS, hH, hDr, hpl, hsw⟩ := hN.h
  refine nv_R.of rfl rfl (Nat.le_of_ble_eq_true rfl) ?_
  have loop := m_down (n := S) (G := fun p => ∀ j y : Int, j = p → y = m_set (fun s => h 6 o s = x) p → nv_V M_X0_sittersOn 4 [(0, vr 0 o), (1, vi x), (2, vi y), (3, vi j)] [] h (fun r h' => h' = h ∧ r = some (vi (m_set (fun s => h 6 o s = x) S)))) ?_ ?_
  · refine nv_go ok_X0_sittersOn [4] 10 ?_
    exact loop 0 (by omega) _ _ rfl rfl
  · intro j y hj hy
    refine nv_go ok_X0_sittersOn [4] 30 ?_
    refine w_ic (by omega) (by omega) (fun c => ?_) (fun c => ?_)
    · exact ⟨rfl, by rw [hy]⟩
    · exact absurd (by show h 0 o 1 ≤ j; omega) c
  · intro p hp ih j y hj hy
    have hl := m_set_lt (fun s => h 6 o s = x) p
    obtain ⟨h1, h2, h3⟩ := hsw p hp
    refine nv_go ok_X0_sittersOn [4] 30 ?_
    refine w_ic (by omega) (by omega) (fun c => ?_) (fun c => ?_)
    · exact absurd c (by show ¬ (h 0 o 1 ≤ j); omega)
    · refine w_ix p hj (by omega) ?_
      refine w_ic (by omega) hx0 (fun c2 => ?_) (fun c2 => ?_)
      · refine w_ix p hj (by omega) ?_
        have e1 : h 6 o p = x := c2
        exact ih _ _ (by omega) (by rw [hy, nv_or_bit hl.1 hl.2 (by omega)]; simp [m_set, e1])
      · have e1 : ¬ h 6 o p = x := c2
        exact ih _ _ (by omega) (by rw [hy]; simp [m_set, e1])
end
section
/-! ===== the noon's hour ===== -/
set_option maxRecDepth 100000 in
theorem r_plankMostLeft {h : nv_St} {o P : Nat} (hP5 : P ≤ 5) (hP : h 0 o 0 = P) (hpl : ∀ p, p < P → 0 ≤ h 3 o p ∧ h 3 o p ≤ 99) : nv_R M_X0_plankMostLeft [vr 0 o] h (fun r h' => h' = h ∧ r = some (vi (m_most (h 3 o) P))) := by
  refine nv_R.of rfl rfl (Nat.le_of_ble_eq_true rfl) ?_
  have loop := m_down (n := P) (G := fun p => ∀ j x : Int, j = p → x = m_most (h 3 o) p → nv_V M_X0_plankMostLeft 5 [(0, vr 0 o), (1, vi x), (2, vi j)] [] h (fun r h' => h' = h ∧ r = some (vi (m_most (h 3 o) P)))) ?_ ?_
  · refine nv_go ok_X0_plankMostLeft [5] 10 ?_
    exact loop 0 (by omega) _ _ rfl rfl
  · intro j x hj hx
    have hr := m_most_r (h 3 o) P
    refine nv_go ok_X0_plankMostLeft [5] 30 ?_
    refine w_ic (by omega) (by omega) (fun c => ?_) (fun c => ?_)
    · exact ⟨rfl, by rw [hx]⟩
    · exact absurd (by show h 0 o 0 ≤ j; omega) c
  · intro p hp ih j x hj hx
    have hr := m_most_r (h 3 o) p
    have h1 := hpl p hp
    refine nv_go ok_X0_plankMostLeft [5] 40 ?_
    refine w_ic (by omega) (by omega) (fun c => ?_) (fun c => ?_)
    · exact absurd c (by show ¬ (h 0 o 0 ≤ j); omega)
    · refine w_ix p hj (by omega) ?_
      refine w_if (by omega) (fun c2 => ?_) (fun c2 => ?_)
      · have c2 : h 3 o p ≤ 0 := c2
        exact ih _ _ (by omega) (by rw [hx]; conv => rhs; unfold m_most; rw [if_neg (by omega)])
      · have c2 : ¬ h 3 o p ≤ 0 := c2
        refine w_ic (by omega) (by omega) (fun c3 => ?_) (fun c3 => ?_)
        · have c3 : x = -4 := c3
          exact ih _ _ (by omega) (by rw [hj]; conv => rhs; unfold m_most; rw [if_pos ⟨by omega, Or.inl (by omega)⟩])
        · have c3 : ¬ x = -4 := c3
          obtain ⟨q, hq⟩ : ∃ q : Nat, x = q := ⟨x.toNat, by omega⟩
          have hq' : (m_most (h 3 o) p).toNat = q := by omega
          have h2 := hpl q (by omega)
          refine w_ix p hj (by omega) ?_
          refine w_ix q hq (by omega) ?_
          refine w_ic (by omega) (by omega) (fun c4 => ?_) (fun c4 => ?_)
          · have c4 : h 3 o p ≤ h 3 o q := c4
            exact ih _ _ (by omega) (by rw [hx]; conv => rhs; unfold m_most; rw [hq', if_neg (by omega)])
          · have c4 : ¬ h 3 o p ≤ h 3 o q := c4
            exact ih _ _ (by omega) (by rw [hj]; conv => rhs; unfold m_most; rw [hq', if_pos ⟨by omega, Or.inr (by omega)⟩])
set_option maxRecDepth 100000 in
theorem r_growBlunt {h : nv_St} {o S : Nat} (hS5 : S ≤ 5) (hS : h 0 o 1 = S) (hsw : ∀ s, s < S → (0 ≤ h 5 o s ∧ h 5 o s ≤ 9) ∧ nv_InR (h 7 o s)) : nv_R M_X0_growBlunt [vr 0 o] h (fun r h' => r = none ∧ (∀ t i, ¬ (t = 5 ∧ i = o) → h' t i = h t i) ∧ ∀ s, s < S → h' 5 o s = if 0 < h 7 o s ∧ 0 < h 5 o s then h 5 o s - 1 else h 5 o s) := by
  refine nv_R.of rfl rfl (Nat.le_of_ble_eq_true rfl) ?_
  have loop := m_down (n := S) (G := fun p => ∀ (j : Int) (h1 : nv_St), j = p → ((∀ t i, ¬ (t = 5 ∧ i = o) → h1 t i = h t i) ∧ (∀ s, s < p → h1 5 o s = if 0 < h 7 o s ∧ 0 < h 5 o s then h 5 o s - 1 else h 5 o s) ∧ ∀ s, p ≤ s → h1 5 o s = h 5 o s) → nv_V M_X0_growBlunt 2 [(0, vr 0 o), (1, vi j)] [] h1 (fun r h' => r = none ∧ (∀ t i, ¬ (t = 5 ∧ i = o) → h' t i = h t i) ∧ ∀ s, s < S → h' 5 o s = if 0 < h 7 o s ∧ 0 < h 5 o s then h 5 o s - 1 else h 5 o s)) ?_ ?_
  · refine nv_go ok_X0_growBlunt [2] 10 ?_
    exact loop 0 (by omega) _ _ rfl ⟨fun _ _ _ => rfl, fun s hs => absurd hs (by omega), fun _ _ => rfl⟩
  · intro j h1 hj hI
    have e0 : h1 0 o 1 = S := by rw [hI.1 0 o (by omega)]; exact hS
    refine nv_go ok_X0_growBlunt [2] 30 ?_
    refine w_ic (by omega) (by omega) (fun c => ?_) (fun c => ?_)
    · exact ⟨rfl, hI.1, hI.2.1⟩
    · exact absurd (by show h1 0 o 1 ≤ j; omega) c
  · intro p hp ih j h1 hj hI
    have e0 : h1 0 o 1 = S := by rw [hI.1 0 o (by omega)]; exact hS
    have e7 : h1 7 o p = h 7 o p := by rw [hI.1 7 o (by omega)]
    have e5 : h1 5 o p = h 5 o p := hI.2.2 p (by omega)
    obtain ⟨a1, a2⟩ := hsw p hp
    refine nv_go ok_X0_growBlunt [2] 30 ?_
    refine w_ic (by omega) (by omega) (fun c => ?_) (fun c => ?_)
    · exact absurd c (by show ¬ (h1 0 o 1 ≤ j); omega)
    · have skip : ¬ (0 < h 7 o p ∧ 0 < h 5 o p) → (∀ s, s < p + 1 → h1 5 o s = if 0 < h 7 o s ∧ 0 < h 5 o s then h 5 o s - 1 else h 5 o s) ∧ ∀ s, p + 1 ≤ s → h1 5 o s = h 5 o s := by
        intro hn
        refine ⟨fun s hs => ?_, fun s hs => hI.2.2 s (by omega)⟩
        by_cases hsp : s = p
        · rw [hsp, if_neg hn]; exact e5
        · exact hI.2.1 s (by omega)
      refine w_ix p hj (by omega) ?_
      refine w_if (by rw [e7]; exact a2) (fun c2 => ?_) (fun c2 => ?_)
      · have c2 : h1 7 o p ≤ 0 := c2
        exact ih _ _ (by omega) ⟨hI.1, skip (by omega)⟩
      · have c2 : ¬ h1 7 o p ≤ 0 := c2
        refine w_ix p hj (by omega) ?_
        refine w_if (by omega) (fun c3 => ?_) (fun c3 => ?_)
        · have c3 : h1 5 o p ≤ 0 := c3
          exact ih _ _ (by omega) ⟨hI.1, skip (by omega)⟩
        · have c3 : ¬ h1 5 o p ≤ 0 := c3
          refine w_ix p hj (by omega) ?_
          refine w_ix p hj (by omega) ?_
          refine ih _ _ (by omega) ⟨fun t i hn => ?_, fun s hs => ?_, fun s hs => ?_⟩
          · rw [← hI.1 t i hn]; funext k; unfold nv_up; rw [if_neg]; rintro ⟨rfl, rfl, -⟩; exact hn ⟨rfl, rfl⟩
          · by_cases hsp : s = p
            · rw [hsp, if_pos ⟨by omega, by omega⟩]
              simp only [nv_up, and_self, if_true]
              omega
            · rw [← hI.2.1 s (by omega)]; simp [nv_up, hsp]
          · rw [← hI.2.2 s (by omega)]; simp [nv_up, show ¬ s = p by omega]
theorem m_ex_iff (f : Nat → Bool) : ∀ n, m_ex f n = true ↔ ∃ i, i < n ∧ f i = true
  | 0 => by simp [m_ex]
  | n + 1 => by
    unfold m_ex
    rw [Bool.or_eq_true, m_ex_iff f n]
    constructor
    · rintro (⟨i, h1, h2⟩ | h)
      · exact ⟨i, by omega, h2⟩
      · exact ⟨n, by omega, h⟩
    · rintro ⟨i, h1, h2⟩
      by_cases e : i = n
      · exact Or.inr (e ▸ h2)
      · exact Or.inl ⟨i, by omega, h2⟩
/-- who sits on a fallen plank goes to the one of which most is left -/
def m_go (f6 f3 : Nat → Int) (P s : Nat) : Int := if (0 ≤ f6 s ∧ f3 (f6 s).toNat = 0) ∧ ¬ m_most f3 P = -4 then m_most f3 P else f6 s
def m_goes (f6 f3 : Nat → Int) (P S : Nat) : Bool := m_ex (fun s => decide (0 ≤ f6 s ∧ f3 (f6 s).toNat = 0)) S && decide (¬ m_most f3 P = -4)
set_option maxHeartbeats 2000000 in
set_option maxRecDepth 100000 in
theorem r_leaveFallen {h : nv_St} {o P S : Nat} (hP5 : P ≤ 5) (hS5 : S ≤ 5) (hP : h 0 o 0 = P) (hS : h 0 o 1 = S) (hpl : ∀ p, p < P → 0 ≤ h 3 o p ∧ h 3 o p ≤ 99) (hsw : ∀ s, s < S → (h 6 o s = -4 ∨ (0 ≤ h 6 o s ∧ h 6 o s < P))) :
    nv_R M_X0_leaveFallen [vr 0 o] h (fun r h' => r = some (vi (nv_b (m_goes (h 6 o) (h 3 o) P S))) ∧ (∀ t i, ¬ (t = 6 ∧ i = o) → h' t i = h t i) ∧ ∀ s, s < S → h' 6 o s = m_go (h 6 o) (h 3 o) P s) := by
  have hr := m_most_r (h 3 o) P
  generalize hQ : (fun (r : Option nv_AV) (h' : nv_St) => r = some (vi (nv_b (m_goes (h 6 o) (h 3 o) P S))) ∧ (∀ t i, ¬ (t = 6 ∧ i = o) → h' t i = h t i) ∧ ∀ s, s < S → h' 6 o s = m_go (h 6 o) (h 3 o) P s) = Q
  refine nv_R.of rfl rfl (Nat.le_of_ble_eq_true rfl) ?_
  have loop := m_down (n := S) (G := fun p => ∀ (j x : Int) (h1 : nv_St), j = p → ((∀ t i, ¬ (t = 6 ∧ i = o) → h1 t i = h t i) ∧ (∀ s, s < p → h1 6 o s = m_go (h 6 o) (h 3 o) P s) ∧ ∀ s, p ≤ s → h1 6 o s = h 6 o s) → x = (if m_ex (fun s => decide (0 ≤ h 6 o s ∧ h 3 o (h 6 o s).toNat = 0)) p = true then m_most (h 3 o) P else -4) → (m_ex (fun s => decide (0 ≤ h 6 o s ∧ h 3 o (h 6 o s).toNat = 0)) p = true → ¬ m_most (h 3 o) P = -4) → nv_V M_X0_leaveFallen 5 [(0, vr 0 o), (1, vi x), (2, vi j)] [] h1 Q) ?_ ?_
  · refine nv_go ok_X0_leaveFallen [5] 10 ?_
    exact loop 0 (by omega) _ _ _ rfl ⟨fun _ _ _ => rfl, fun s hs => absurd hs (by omega), fun _ _ => rfl⟩ rfl (fun h => absurd h (by simp [m_ex]))
  · intro j x h1 hj hI hx hE
    have e0 : h1 0 o 1 = S := by rw [hI.1 0 o (by omega)]; exact hS
    refine nv_go ok_X0_leaveFallen [5] 30 ?_
    refine w_ic (by omega) (by omega) (fun c => ?_) (fun c => ?_)
    · refine w_ic (by rw [hx]; split <;> omega) (by omega) (fun c2 => ?_) (fun c2 => ?_)
      · have c2 : x = -4 := c2
        refine And.intro (Or.inl rfl) ?_
        rw [← hQ]
        refine ⟨?_, hI.1, hI.2.1⟩
        have e1 : m_ex (fun s => decide (0 ≤ h 6 o s ∧ h 3 o (h 6 o s).toNat = 0)) S = false := by
          cases he : m_ex (fun s => decide (0 ≤ h 6 o s ∧ h 3 o (h 6 o s).toNat = 0)) S with
          | false => rfl
          | true => exact absurd (by rw [he, if_pos rfl] at hx; omega) (hE he)
        unfold m_goes; rw [e1]; rfl
      · have c2 : ¬ x = -4 := c2
        refine And.intro (Or.inr rfl) ?_
        rw [← hQ]
        refine ⟨?_, hI.1, hI.2.1⟩
        have e1 : m_ex (fun s => decide (0 ≤ h 6 o s ∧ h 3 o (h 6 o s).toNat = 0)) S = true := by
          cases he : m_ex (fun s => decide (0 ≤ h 6 o s ∧ h 3 o (h 6 o s).toNat = 0)) S with
          | true => rfl
          | false => rw [he] at hx; exact absurd hx c2
        unfold m_goes; rw [e1, decide_eq_true (hE e1)]; rfl
    · exact absurd (by show h1 0 o 1 ≤ j; omega) c
  · intro p hp ih j x h1 hj hI hx hE
    have e0 : h1 0 o 1 = S := by rw [hI.1 0 o (by omega)]; exact hS
    have eP : h1 0 o 0 = P := by rw [hI.1 0 o (by omega)]; exact hP
    have e3 : h1 3 o = h 3 o := hI.1 3 o (by omega)
    have e6 : h1 6 o p = h 6 o p := hI.2.2 p (by omega)
    have hsp := hsw p hp
    refine nv_go ok_X0_leaveFallen [5, 51] 30 ?_
    refine w_ic (by omega) (by omega) (fun c => ?_) (fun c => ?_)
    · exact absurd c (by show ¬ (h1 0 o 1 ≤ j); omega)
    · have skip : ¬ (0 ≤ h 6 o p ∧ h 3 o (h 6 o p).toNat = 0) → nv_V M_X0_leaveFallen 5 [(0, vr 0 o), (1, vi x), (2, vi (j + 1))] [] h1 Q := by
        intro hn
        have em : m_ex (fun s => decide (0 ≤ h 6 o s ∧ h 3 o (h 6 o s).toNat = 0)) (p + 1) = m_ex (fun s => decide (0 ≤ h 6 o s ∧ h 3 o (h 6 o s).toNat = 0)) p := by
          conv => lhs; unfold m_ex
          rw [decide_eq_false hn, Bool.or_false]
        refine ih _ _ _ (by omega) ⟨hI.1, fun s hs => ?_, fun s hs => hI.2.2 s (by omega)⟩ (by rw [em]; exact hx) (by rw [em]; exact hE)
        by_cases hs2 : s = p
        · rw [hs2, e6]; unfold m_go; rw [if_neg (fun q => hn q.1)]
        · exact hI.2.1 s (by omega)
      refine w_ix p hj (by omega) ?_
      refine w_if (by omega) (fun c2 => ?_) (fun c2 => ?_)
      · have c2 : h1 6 o p < 0 := c2
        exact skip (by omega)
      · have c2 : ¬ h1 6 o p < 0 := c2
        obtain ⟨q, hq⟩ : ∃ q : Nat, h1 6 o p = q := ⟨(h1 6 o p).toNat, by omega⟩
        have hq' : (h 6 o p).toNat = q := by omega
        have hql := hpl q (by omega)
        refine w_ix p hj (by omega) ?_
        refine w_ix q hq (by omega) ?_
        refine w_if (by rw [e3]; omega) (fun c3 => ?_) (fun c3 => ?_)
        · have c3 : h 3 o q = 0 := by rw [← e3]; exact c3
          have hyes : 0 ≤ h 6 o p ∧ h 3 o (h 6 o p).toNat = 0 := ⟨by omega, by rw [hq']; exact c3⟩
          have em : m_ex (fun s => decide (0 ≤ h 6 o s ∧ h 3 o (h 6 o s).toNat = 0)) (p + 1) = true := by
            unfold m_ex
            rw [decide_eq_true hyes, Bool.or_true]
          have h51 : ∀ y, y = m_most (h 3 o) P → nv_V M_X0_leaveFallen 51 [(0, vr 0 o), (1, vi y), (2, vi j)] [] h1 Q := by
            intro y hy
            refine nv_go ok_X0_leaveFallen [5] 30 ?_
            refine w_ic (by omega) (by omega) (fun c4 => ?_) (fun c4 => ?_)
            · have c4 : m_most (h 3 o) P = -4 := by rw [← hy]; exact c4
              refine And.intro (Or.inl rfl) ?_
              rw [← hQ]
              refine ⟨by simp [m_goes, c4, nv_b], hI.1, fun s hs => ?_⟩
              by_cases hs2 : s < p
              · exact hI.2.1 s hs2
              · rw [hI.2.2 s (by omega)]; unfold m_go; rw [if_neg (fun q => q.2 c4)]
            · have c4 : ¬ m_most (h 3 o) P = -4 := by rw [← hy]; exact c4
              refine w_ix p hj (by omega) ?_
              refine ih _ _ _ (by omega) ⟨fun t i hn => ?_, fun s hs => ?_, fun s hs => ?_⟩ (by rw [em, if_pos rfl]; exact hy) (fun _ => c4)
              · rw [← hI.1 t i hn]; funext k; unfold nv_up; rw [if_neg]; rintro ⟨rfl, rfl, -⟩; exact hn ⟨rfl, rfl⟩
              · by_cases hs2 : s = p
                · rw [hs2]
                  unfold m_go
                  rw [if_pos ⟨hyes, c4⟩]
                  simp [nv_up, hy]
                · rw [← hI.2.1 s (by omega)]; simp [nv_up, hs2]
              · rw [← hI.2.2 s (by omega)]; simp [nv_up, show ¬ s = p by omega]
          refine w_ic (by rw [hx]; split <;> omega) (by omega) (fun c4 => ?_) (fun c4 => ?_)
          · refine w_call (r_plankMostLeft hP5 eP (by rw [e3]; exact hpl)) (fun v h' hv => ?_)
            obtain ⟨rfl, rfl⟩ := hv
            exact h51 _ (by rw [e3])
          · have c4 : ¬ x = -4 := c4
            have : x = m_most (h 3 o) P := by
              rw [hx] at c4 ⊢
              split
              · rfl
              · next hn => rw [if_neg hn] at c4; exact absurd rfl c4
            exact h51 _ this
        · have c3 : ¬ h 3 o q = 0 := by rw [← e3]; exact c3
          exact skip (fun hy => c3 (by rw [← hq']; exact hy.2))
end
section
/-! ===== an hour passes ===== -/
theorem m_green_r {t k : Int} {e : Bool} (ht : 0 ≤ t ∧ t ≤ 9) (hk : 0 ≤ k ∧ k ≤ 9) : 0 ≤ m_green t k e ∧ m_green t k e ≤ 18 := by
  have := m_plain_r ht hk
  unfold m_green; split <;> omega
theorem m_by_r {kd t k : Int} {e r : Bool} (ht : 0 ≤ t ∧ t ≤ 9) (hk : 0 ≤ k ∧ k ≤ 9) : 0 ≤ m_by kd t k e r ∧ m_by kd t k e r ≤ 18 := by
  have h1 := m_plain_r ht hk
  have h2 := m_green_r (e := e) ht hk
  have h3 : 0 ≤ m_old t k ∧ m_old t k ≤ 12 := by unfold m_old; split <;> omega
  unfold m_by
  split
  · omega
  · split
    · omega
    · split
      · split <;> omega
      · split
        · split <;> omega
        · omega
theorem m_cut_r {N : m_NN} {P S : Nat} {B : Int} (hN : m_ok N P S B) {s : Nat} (hs : s < S) : (0 ≤ m_cut N s ∧ m_cut N s ≤ 18) ∧ (0 < m_cut N s → 0 ≤ N 6 s ∧ N 6 s < P) := by
  obtain ⟨hP5, hS5, hP, hS, hH, hDr, hpl, hsw⟩ := hN
  obtain ⟨a1, a2, a3⟩ := hsw s hs
  unfold m_cut
  split
  · exact ⟨by omega, fun h => absurd h (by omega)⟩
  · next c =>
    obtain ⟨b1, b2, b3⟩ := hpl (N 6 s).toNat (by omega)
    split
    · exact ⟨by omega, fun h => absurd h (by omega)⟩
    · exact ⟨m_by_r a2 b2, fun _ => by omega⟩
theorem m_lf_r {N : m_NN} {P : Nat} {c : Nat → Int} : ∀ (n : Nat), (∀ s, s < n → 0 < c s → 0 ≤ N 6 s ∧ N 6 s < P) → (∀ p, p < P → 0 ≤ N 3 p) → ∀ p, p < P → 0 ≤ m_lf N c n p ∧ m_lf N c n p ≤ N 3 p
  | 0, _, h3, p, hp => by simp [m_lf, h3 p hp]
  | n + 1, h6, h3, p, hp => by
    have ih := m_lf_r n (fun s hs => h6 s (by omega)) h3
    unfold m_lf
    split
    · next hc =>
      unfold m_up
      split
      · next e =>
        have := ih (N 6 n).toNat (by have := h6 n (by omega) hc; omega)
        subst e
        omega
      · exact ih p hp
    · exact ih p hp
theorem m_P_eq {N : m_NN} {P S : Nat} {B : Int} (hN : m_ok N P S B) : m_P N = P := by unfold m_P; rw [hN.2.2.1]; omega
theorem m_S_eq {N : m_NN} {P S : Nat} {B : Int} (hN : m_ok N P S B) : m_S N = S := by unfold m_S; rw [hN.2.2.2.1]; omega
theorem m_L_r {N : m_NN} {P S : Nat} {B : Int} (hN : m_ok N P S B) : ∀ p, p < P → 0 ≤ m_L N p ∧ m_L N p ≤ N 3 p := by
  unfold m_L
  rw [m_S_eq hN]
  exact m_lf_r S (fun s hs h0 => (m_cut_r hN hs).2 h0) (fun p hp => (hN.2.2.2.2.2.2.1 p hp).2.2.1)
theorem m_hour_ok {N : m_NN} {P S : Nat} {B : Int} (hN : m_ok N P S B) : m_ok (m_hour N) P S (B + 1) := by
  have hL := m_L_r hN
  have hmp := m_P_eq hN
  obtain ⟨hP5, hS5, hP, hS, hH, hDr, hpl, hsw⟩ := id hN
  have e0 : m_hour N 0 0 = N 0 0 := rfl
  have e1 : m_hour N 0 1 = N 0 1 := rfl
  have e2 : m_hour N 0 2 = N 0 2 + 1 := rfl
  have e3 : m_hour N 0 3 = N 0 3 := rfl
  refine ⟨hP5, hS5, hP, hS, by rw [e2]; omega, hDr, fun p hp => ?_, fun s hs => ?_⟩
  · obtain ⟨a1, a2, a3⟩ := hpl p hp
    refine ⟨a1, a2, ?_⟩
    show 0 ≤ m_L N p ∧ m_L N p ≤ 99
    have := hL p hp
    omega
  · obtain ⟨a1, a2, a3⟩ := hsw s hs
    refine ⟨a1, ?_, ?_⟩
    · show 0 ≤ (if N 0 2 % 3 = 2 ∧ 0 < m_cut N s ∧ 0 < N 5 s then N 5 s - 1 else N 5 s) ∧ (if N 0 2 % 3 = 2 ∧ 0 < m_cut N s ∧ 0 < N 5 s then N 5 s - 1 else N 5 s) ≤ 9
      split <;> omega
    · show (if (0 ≤ N 6 s ∧ m_L N (N 6 s).toNat = 0) ∧ ¬ m_most (m_L N) (m_P N) = -4 then m_most (m_L N) (m_P N) else N 6 s) = -4 ∨ _
      have hr := m_most_r (m_L N) (m_P N)
      rw [hmp] at hr
      have : m_hour N 6 s = (if (0 ≤ N 6 s ∧ m_L N (N 6 s).toNat = 0) ∧ ¬ m_most (m_L N) (m_P N) = -4 then m_most (m_L N) (m_P N) else N 6 s) := rfl
      rw [this, hmp]
      split
      · omega
      · exact a3
set_option maxHeartbeats 4000000 in
set_option maxRecDepth 100000 in
theorem r_passHour {h : nv_St} {o P S : Nat} {B : Int} (hN : m_ok (m_nn h o) P S B) (hB : B < 1073741824) :
    nv_R M_X0_passHour [vr 0 o] h (fun r h' => r = some (vi (nv_b (m_stir (m_nn h o)))) ∧ m_eq P S (m_nn h' o) (m_hour (m_nn h o)) ∧ m_fr o h h') := by
  generalize hQ : (fun (r : Option nv_AV) (h' : nv_St) => r = some (vi (nv_b (m_stir (m_nn h o)))) ∧ m_eq P S (m_nn h' o) (m_hour (m_nn h o)) ∧ m_fr o h h') = Q
  have hLr := m_L_r hN
  have hcr : ∀ s, s < S → (0 ≤ m_cut (m_nn h o) s ∧ m_cut (m_nn h o) s ≤ 18) ∧ (0 < m_cut (m_nn h o) s → 0 ≤ h 6 o s ∧ h 6 o s < P) := fun s hs => m_cut_r hN hs
  have hmP := m_P_eq hN
  have hmS := m_S_eq hN
  obtain ⟨hP5, hS5, hP, hS, hH, hDr, hpl, hsw⟩ := hN.h
  have h106 : ∀ (x j : Int) (h2 : nv_St), x = nv_b (m_rest (m_nn h o) || m_ex (fun s => decide (0 < m_cut (m_nn h o) s)) S) → (∀ t i, ¬ ((t = 7 ∨ t = 3 ∨ t = 5) ∧ i = o) → h2 t i = h t i) → h2 3 o = m_L (m_nn h o) → (∀ s, s < S → h2 5 o s = m_hour (m_nn h o) 5 s) →
      nv_V M_X0_passHour 106 [(0, vr 0 o), (1, vi x), (2, vi j)] [] h2 Q := by
    intro x j h2 hx hI h3 h5
    have e6 : h2 6 o = h 6 o := hI 6 o (by omega)
    have e0 : h2 0 o = h 0 o := hI 0 o (by omega)
    have hx01 := nv_b01 (m_rest (m_nn h o) || m_ex (fun s => decide (0 < m_cut (m_nn h o) s)) S)
    refine nv_go ok_X0_passHour [] 60 ?_
    refine w_call (r_leaveFallen (P := P) (S := S) hP5 hS5 (by rw [e0]; exact hP) (by rw [e0]; exact hS) (by rw [h3]; exact fun p hp => ⟨(hLr p hp).1, Int.le_trans (hLr p hp).2 (hpl p hp).2.2.2⟩) (by rw [e6]; exact fun s hs => (hsw s hs).2.2)) (fun v h' hv => ?_)
    obtain ⟨rfl, hI', h6'⟩ := hv
    rw [h3, e6] at h6'
    have e0' : h' 0 o = h 0 o := by rw [hI' 0 o (by omega)]; exact e0
    have hfin : ∀ z : Int, z = nv_b (m_stir (m_nn h o)) → Q (some (vi z)) (nv_up h' 0 o 2 (h' 0 o 2 + 1)) := by
      intro z hz
      rw [← hQ, hz]
      refine ⟨rfl, ⟨fun j hj => ?_, fun p hp => ⟨?_, ?_, ?_⟩, fun s hs => ⟨?_, ?_, ?_⟩⟩, fun t i hn => ?_⟩
      · have e1 : m_nn (nv_up h' 0 o 2 (h' 0 o 2 + 1)) o 0 j = (if j = 2 then h' 0 o 2 + 1 else h' 0 o j) := by
          show nv_up h' 0 o 2 (h' 0 o 2 + 1) 0 o j = _
          simp [nv_up]
        rw [e1, e0']
        rfl
      · show nv_up h' 0 o 2 (h' 0 o 2 + 1) 1 o p = h 1 o p
        simp only [nv_up, Nat.succ_ne_zero, false_and, if_false]
        rw [hI' 1 o (by omega), hI 1 o (by omega)]
      · show nv_up h' 0 o 2 (h' 0 o 2 + 1) 2 o p = h 2 o p
        simp only [nv_up, Nat.succ_ne_zero, false_and, if_false]
        rw [hI' 2 o (by omega), hI 2 o (by omega)]
      · show nv_up h' 0 o 2 (h' 0 o 2 + 1) 3 o p = m_L (m_nn h o) p
        simp only [nv_up, Nat.succ_ne_zero, false_and, if_false]
        rw [hI' 3 o (by omega), h3]
      · show nv_up h' 0 o 2 (h' 0 o 2 + 1) 4 o s = h 4 o s
        simp only [nv_up, Nat.succ_ne_zero, false_and, if_false]
        rw [hI' 4 o (by omega), hI 4 o (by omega)]
      · show nv_up h' 0 o 2 (h' 0 o 2 + 1) 5 o s = m_hour (m_nn h o) 5 s
        simp only [nv_up, Nat.succ_ne_zero, false_and, if_false]
        rw [hI' 5 o (by omega), h5 s hs]
      · show nv_up h' 0 o 2 (h' 0 o 2 + 1) 6 o s = m_hour (m_nn h o) 6 s
        simp only [nv_up, Nat.succ_ne_zero, false_and, if_false]
        rw [h6' s hs]
        unfold m_go
        rw [← hmP]
        rfl
      · funext k
        unfold nv_up
        rw [if_neg (by rintro ⟨rfl, rfl, -⟩; exact hn ⟨by omega, rfl⟩), hI' t i (by rintro ⟨rfl, rfl⟩; exact hn ⟨by omega, rfl⟩), hI t i (by rintro ⟨ht, rfl⟩; exact hn ⟨by omega, rfl⟩)]
    have hst : m_stir (m_nn h o) = ((m_rest (m_nn h o) || m_ex (fun s => decide (0 < m_cut (m_nn h o) s)) S) || m_goes (h2 6 o) (h2 3 o) P S) := by
      rw [h3, e6]
      unfold m_stir m_goes
      rw [hmS, hmP]
      rfl
    refine w_if (by omega) (fun c => ?_) (fun c => ?_)
    · have c : x = 0 := c
      have b0 : (m_rest (m_nn h o) || m_ex (fun s => decide (0 < m_cut (m_nn h o) s)) S) = false := by
        revert hx; rw [c]; cases (m_rest (m_nn h o) || m_ex (fun s => decide (0 < m_cut (m_nn h o) s)) S) <;> simp [nv_b]
      refine w_if (by have := nv_b01 (m_goes (h2 6 o) (h2 3 o) P S); omega) (fun c2 => ?_) (fun c2 => ?_)
      · have c2 : nv_b (m_goes (h2 6 o) (h2 3 o) P S) = 0 := c2
        exact And.intro (Or.inl rfl) (hfin 0 (by rw [hst, b0, Bool.false_or]; exact c2.symm))
      · have c2 : ¬ nv_b (m_goes (h2 6 o) (h2 3 o) P S) = 0 := c2
        exact And.intro (Or.inr rfl) (hfin 1 (by rw [hst, b0, Bool.false_or]; have := nv_b01 (m_goes (h2 6 o) (h2 3 o) P S); omega))
    · have c : ¬ x = 0 := c
      have b0 : (m_rest (m_nn h o) || m_ex (fun s => decide (0 < m_cut (m_nn h o) s)) S) = true := by
        revert hx c; cases (m_rest (m_nn h o) || m_ex (fun s => decide (0 < m_cut (m_nn h o) s)) S) <;> simp [nv_b]
      exact And.intro (Or.inr rfl) (hfin 1 (by rw [hst, b0, Bool.true_or]; rfl))
  have loop2 := m_down (n := S) (G := fun p => ∀ (j x : Int) (h1 : nv_St), j = p → x = nv_b (m_rest (m_nn h o) || m_ex (fun s => decide (0 < m_cut (m_nn h o) s)) p) → (∀ t i, ¬ ((t = 7 ∨ t = 3) ∧ i = o) → h1 t i = h t i) → (∀ s, s < S → h1 7 o s = m_cut (m_nn h o) s) → h1 3 o = m_lf (m_nn h o) (m_cut (m_nn h o)) p → nv_V M_X0_passHour 34 [(0, vr 0 o), (1, vi x), (2, vi j)] [] h1 Q) ?_ ?_
  rotate_left
  · intro j x h1 hj hx hI h7 h3
    have e0 : h1 0 o = h 0 o := hI 0 o (by omega)
    have e01 : h1 0 o 1 = S := by rw [e0]; exact hS
    have e02 : h1 0 o 2 = h 0 o 2 := by rw [e0]
    have e5 : h1 5 o = h 5 o := hI 5 o (by omega)
    have e3 : h1 3 o = m_L (m_nn h o) := by rw [h3]; unfold m_L; rw [hmS]
    refine nv_go ok_X0_passHour [34, 106] 60 ?_
    refine w_ic (by omega) (by omega) (fun c => ?_) (fun c => ?_)
    · refine w_dv (by omega) (by omega) ?_
      refine w_ic (by omega) (by omega) (fun c2 => ?_) (fun c2 => ?_)
      · have c2 : h 0 o 2 % 3 = 2 := by rw [← e02]; exact c2
        refine w_call (r_growBlunt (S := S) hS5 e01 (fun s hs => ⟨by rw [e5]; exact (hsw s hs).2.1, by rw [h7 s hs]; have := (hcr s hs).1; exact ⟨by omega, by omega⟩⟩)) (fun v h' hv => ?_)
        obtain ⟨rfl, hI', h5'⟩ := hv
        refine h106 x j h' hx (fun t i hn => ?_) (by rw [hI' 3 o (by omega), e3]) (fun s hs => ?_)
        · rw [hI' t i (by rintro ⟨rfl, rfl⟩; exact hn ⟨by omega, rfl⟩), hI t i (by rintro ⟨ht, rfl⟩; exact hn ⟨by omega, rfl⟩)]
        · rw [h5' s hs, h7 s hs, e5]
          show _ = (if h 0 o 2 % 3 = 2 ∧ 0 < m_cut (m_nn h o) s ∧ 0 < h 5 o s then h 5 o s - 1 else h 5 o s)
          by_cases hc : 0 < m_cut (m_nn h o) s ∧ 0 < h 5 o s
          · rw [if_pos hc, if_pos ⟨c2, hc⟩]
          · rw [if_neg hc, if_neg (fun q => hc q.2)]
      · have c2 : ¬ h 0 o 2 % 3 = 2 := by rw [← e02]; exact c2
        refine h106 x j h1 hx (fun t i hn => hI t i (by rintro ⟨ht, rfl⟩; exact hn ⟨by omega, rfl⟩)) e3 (fun s hs => ?_)
        rw [e5]
        show _ = (if h 0 o 2 % 3 = 2 ∧ 0 < m_cut (m_nn h o) s ∧ 0 < h 5 o s then h 5 o s - 1 else h 5 o s)
        rw [if_neg (fun q => c2 q.1)]
    · exact absurd (by show h1 0 o 1 ≤ j; omega) c
  · intro p hp ih j x h1 hj hx hI h7 h3
    have e0 : h1 0 o = h 0 o := hI 0 o (by omega)
    have e01 : h1 0 o 1 = S := by rw [e0]; exact hS
    have e6 : h1 6 o = h 6 o := hI 6 o (by omega)
    have e7 := h7 p hp
    have hc := hcr p hp
    refine nv_go ok_X0_passHour [34] 60 ?_
    refine w_ic (by omega) (by omega) (fun c => ?_) (fun c => ?_)
    · exact absurd c (by show ¬ (h1 0 o 1 ≤ j); omega)
    · refine w_ix p hj (by omega) ?_
      refine w_if (by omega) (fun c2 => ?_) (fun c2 => ?_)
      · have c2 : h1 7 o p ≤ 0 := c2
        refine ih _ _ _ (by omega) (by rw [hx]; conv => rhs; unfold m_ex; rw [decide_eq_false (by omega), Bool.or_false]) hI h7 ?_
        rw [h3]
        conv => rhs; unfold m_lf; rw [if_neg (by omega)]
      · have c2 : ¬ h1 7 o p ≤ 0 := c2
        have hs6 := hc.2 (by omega)
        obtain ⟨q, hq⟩ : ∃ q : Nat, h1 6 o p = q := ⟨(h1 6 o p).toNat, by rw [e6]; omega⟩
        have hq' : (m_nn h o 6 p).toNat = q := by show (h 6 o p).toNat = q; rw [← e6]; omega
        have hqP : q < P := by rw [e6] at hq; omega
        have hlr := m_lf_r (N := m_nn h o) (P := P) (c := m_cut (m_nn h o)) p (fun s hs h0 => (hcr s (by omega)).2 h0) (fun p hp => (hpl p hp).2.2.1) q hqP
        have hl9 := (hpl q hqP).2.2
        have h3q : h1 3 o q = m_lf (m_nn h o) (m_cut (m_nn h o)) p q := by rw [h3]
        have hn3 : m_nn h o 3 q = h 3 o q := rfl
        refine w_ix p hj (by omega) ?_
        refine w_ix p hj (by omega) ?_
        refine w_ix q hq (by omega) ?_
        refine w_ix p hj (by omega) ?_
        refine w_mx (by omega) (by omega) ?_
        refine w_ix q hq (by omega) ?_
        refine ih _ _ _ (by omega) (by rw [show m_ex (fun s => decide (0 < m_cut (m_nn h o) s)) (p + 1) = true from by (unfold m_ex; rw [decide_eq_true (by omega), Bool.or_true]), Bool.or_true]; rfl) (fun t i hn => ?_) (fun s hs => ?_) ?_
        · rw [← hI t i hn]; funext k; unfold nv_up; rw [if_neg]; rintro ⟨rfl, rfl, -⟩; exact hn ⟨Or.inr rfl, rfl⟩
        · rw [← h7 s hs]; simp [nv_up]
        · funext k
          conv => rhs; unfold m_lf; rw [if_pos (by omega), hq']
          unfold m_up
          simp only [nv_up, true_and]
          split
          · rw [h3q, e7]
          · rw [h3]
  have loop1 := m_down (n := S) (G := fun p => ∀ (j : Int) (h1 : nv_St), j = p → (∀ t i, ¬ (t = 7 ∧ i = o) → h1 t i = h t i) → (∀ s, s < p → h1 7 o s = m_cut (m_nn h o) s) → nv_V M_X0_passHour 7 [(0, vr 0 o), (1, vi (nv_b (m_rest (m_nn h o)))), (2, vi j)] [] h1 Q) ?_ ?_
  rotate_left
  · intro j h1 hj hI h7
    have e01 : h1 0 o 1 = S := by rw [hI 0 o (by omega)]; exact hS
    refine nv_go ok_X0_passHour [7, 34] 60 ?_
    refine w_ic (by omega) (by omega) (fun c => ?_) (fun c => ?_)
    · exact loop2 0 (by omega) _ _ _ rfl (by unfold m_ex; rw [Bool.or_false]) (fun t i hn => hI t i (by rintro ⟨rfl, rfl⟩; exact hn ⟨Or.inl rfl, rfl⟩)) h7 (by rw [hI 3 o (by omega)]; rfl)
    · exact absurd (by show h1 0 o 1 ≤ j; omega) c
  · intro p hp ih j h1 hj hI h7
    subst hj
    have e01 : h1 0 o 1 = S := by rw [hI 0 o (by omega)]; exact hS
    have en : m_nn h1 o = m_nn h o := m_nn_ext (fun t ht => hI t o (by omega))
    refine nv_go ok_X0_passHour [7] 60 ?_
    refine w_ic (by omega) (by omega) (fun c => ?_) (fun c => ?_)
    · exact absurd c (by show ¬ (h1 0 o 1 ≤ (p : Int)); omega)
    · refine w_call (r_cutOf (P := P) (S := S) (B := B) (by rw [en]; exact hN) hB hp) (fun v h' hv => ?_)
      obtain ⟨rfl, rfl⟩ := hv
      refine w_ix p rfl (by omega) ?_
      refine ih _ _ (by omega) (fun t i hn => ?_) (fun s hs => ?_)
      · rw [← hI t i hn]; funext k; unfold nv_up; rw [if_neg]; rintro ⟨rfl, rfl, -⟩; exact hn ⟨rfl, rfl⟩
      · by_cases hs2 : s = p
        · subst hs2; simp [nv_up, en]
        · rw [← h7 s (by omega)]; simp [nv_up, hs2]
  refine nv_R.of rfl rfl (Nat.le_of_ble_eq_true rfl) ?_
  refine nv_go ok_X0_passHour [7] 20 ?_
  refine w_call (r_hoppersRest ⟨hH.1, by omega⟩) (fun v h' hv => ?_)
  obtain ⟨rfl, rfl⟩ := hv
  exact loop1 0 (by omega) _ _ rfl (fun _ _ _ => rfl) (fun s hs => absurd hs (by omega))
end
section
/-! ===== like noons have like hours ===== -/
theorem m_most_eq {f g : Nat → Int} : ∀ {n : Nat}, (∀ p, p < n → f p = g p) → m_most f n = m_most g n
  | 0, _ => rfl
  | n + 1, h => by
    have ih := m_most_eq (n := n) (fun p hp => h p (by omega))
    have hr := m_most_r f n
    unfold m_most
    rw [h n (by omega), ← ih]
    by_cases e : m_most f n = -4
    · simp [e]
    · have e2 : f (m_most f n).toNat = g (m_most f n).toNat := h _ (by omega)
      rw [e2]
theorem m_ex_eq {f g : Nat → Bool} : ∀ {n : Nat}, (∀ p, p < n → f p = g p) → m_ex f n = m_ex g n
  | 0, _ => rfl
  | n + 1, h => by
    unfold m_ex
    rw [m_ex_eq (n := n) (fun p hp => h p (by omega)), h n (by omega)]
theorem m_set_eq {f g : Nat → Prop} [DecidablePred f] [DecidablePred g] : ∀ {n : Nat}, (∀ p, p < n → (f p ↔ g p)) → m_set f n = m_set g n
  | 0, _ => rfl
  | n + 1, h => by
    unfold m_set
    rw [m_set_eq (n := n) (fun p hp => h p (by omega))]
    have := h n (by omega)
    by_cases e : f n
    · rw [if_pos e, if_pos (this.mp e)]
    · rw [if_neg e, if_neg (fun q => e (this.mpr q))]
theorem m_sum_eq {f g : Nat → Int} : ∀ {n : Nat}, (∀ p, p < n → f p = g p) → m_sum f n = m_sum g n
  | 0, _ => rfl
  | n + 1, h => by
    unfold m_sum
    rw [m_sum_eq (n := n) (fun p hp => h p (by omega)), h n (by omega)]
section nvCongr
variable {N N' : m_NN} {P S : Nat} {B : Int}
theorem m_cut_eq (he : m_eq P S N N') (hN : m_ok N P S B) {s : Nat} (hs : s < S) : m_cut N s = m_cut N' s := by
  obtain ⟨hP5, hS5, hP, hS, hH, hDr, hpl, hsw⟩ := hN
  obtain ⟨a1, a2, a3⟩ := hsw s hs
  obtain ⟨e4, e5, e6⟩ := he.2.2 s hs
  unfold m_cut
  rw [← e6, ← e4, ← e5]
  by_cases c : N 6 s < 0
  · rw [if_pos c, if_pos c]
  · obtain ⟨g1, g2, g3⟩ := he.2.1 (N 6 s).toNat (by omega)
    rw [if_neg c, if_neg c]
    unfold m_edge m_rest
    rw [← g1, ← g2, ← g3, ← he.1 2 (by omega)]
theorem m_lf_eq {c c' : Nat → Int} : ∀ {n : Nat}, (∀ s, s < n → c s = c' s) → (∀ s, s < n → N 6 s = N' 6 s) → (∀ s, s < n → 0 < c s → 0 ≤ N 6 s ∧ N 6 s < P) → (∀ p, p < P → N 3 p = N' 3 p) → ∀ p, p < P → m_lf N c n p = m_lf N' c' n p
  | 0, _, _, _, h3, p, hp => h3 p hp
  | n + 1, hc, h6, hr, h3, p, hp => by
    have ih := m_lf_eq (c := c) (c' := c') (n := n) (fun s hs => hc s (by omega)) (fun s hs => h6 s (by omega)) (fun s hs => hr s (by omega)) h3
    unfold m_lf
    rw [← hc n (by omega)]
    by_cases h0 : 0 < c n
    · rw [if_pos h0, if_pos h0, ← h6 n (by omega)]
      unfold m_up
      have := hr n (by omega) h0
      rw [ih (N 6 n).toNat (by omega), ih p hp]
    · rw [if_neg h0, if_neg h0]
      exact ih p hp
theorem m_L_eq (he : m_eq P S N N') (hN : m_ok N P S B) : ∀ p, p < P → m_L N p = m_L N' p := by
  have hN' := he.symm'.ok hN
  unfold m_L
  rw [m_S_eq hN, m_S_eq hN']
  exact m_lf_eq (fun s hs => m_cut_eq he hN hs) (fun s hs => (he.2.2 s hs).2.2) (fun s hs h0 => (m_cut_r hN hs).2 h0) (fun p hp => (he.2.1 p hp).2.2)
theorem m_hour_eq (he : m_eq P S N N') (hN : m_ok N P S B) : m_eq P S (m_hour N) (m_hour N') := by
  have hN' := he.symm'.ok hN
  have hL := m_L_eq he hN
  have hm : m_most (m_L N) P = m_most (m_L N') P := m_most_eq hL
  obtain ⟨hP5, hS5, hP, hS, hH, hDr, hpl, hsw⟩ := id hN
  refine ⟨fun j hj => ?_, fun p hp => ⟨(he.2.1 p hp).1, (he.2.1 p hp).2.1, hL p hp⟩, fun s hs => ⟨(he.2.2 s hs).1, ?_, ?_⟩⟩
  · show (if j = 2 then N 0 2 + 1 else N 0 j) = (if j = 2 then N' 0 2 + 1 else N' 0 j)
    rw [he.1 2 (by omega), he.1 j hj]
  · show (if N 0 2 % 3 = 2 ∧ 0 < m_cut N s ∧ 0 < N 5 s then N 5 s - 1 else N 5 s) = (if N' 0 2 % 3 = 2 ∧ 0 < m_cut N' s ∧ 0 < N' 5 s then N' 5 s - 1 else N' 5 s)
    rw [he.1 2 (by omega), m_cut_eq he hN hs, (he.2.2 s hs).2.1]
  · show (if (0 ≤ N 6 s ∧ m_L N (N 6 s).toNat = 0) ∧ ¬ m_most (m_L N) (m_P N) = -4 then m_most (m_L N) (m_P N) else N 6 s) = (if (0 ≤ N' 6 s ∧ m_L N' (N' 6 s).toNat = 0) ∧ ¬ m_most (m_L N') (m_P N') = -4 then m_most (m_L N') (m_P N') else N' 6 s)
    rw [m_P_eq hN, m_P_eq hN', ← hm, ← (he.2.2 s hs).2.2]
    obtain ⟨a1, a2, a3⟩ := hsw s hs
    by_cases c : 0 ≤ N 6 s
    · rw [hL (N 6 s).toNat (by omega)]
    · rw [if_neg (fun q => c q.1.1), if_neg (fun q => c q.1.1)]
theorem m_stir_eq (he : m_eq P S N N') (hN : m_ok N P S B) : m_stir N = m_stir N' := by
  have hN' := he.symm'.ok hN
  have hL := m_L_eq he hN
  have hm : m_most (m_L N) P = m_most (m_L N') P := m_most_eq hL
  obtain ⟨hP5, hS5, hP, hS, hH, hDr, hpl, hsw⟩ := id hN
  unfold m_stir m_rest
  rw [m_P_eq hN, m_P_eq hN', m_S_eq hN, m_S_eq hN', ← hm, he.1 2 (by omega)]
  congr 1
  · congr 1
    exact m_ex_eq (fun s hs => by rw [m_cut_eq he hN hs])
  · congr 1
    refine m_ex_eq (fun s hs => ?_)
    obtain ⟨a1, a2, a3⟩ := hsw s hs
    rw [← (he.2.2 s hs).2.2]
    by_cases c : 0 ≤ N 6 s
    · rw [hL (N 6 s).toNat (by omega)]
    · rw [decide_eq_false (fun q => c q.1), decide_eq_false (fun q => c q.1)]
end nvCongr
/-- n hours on -/
def m_it : Nat → m_NN → m_NN
  | 0, N => N
  | n + 1, N => m_hour (m_it n N)
theorem m_it_ok {N : m_NN} {P S : Nat} {B : Int} (hN : m_ok N P S B) : ∀ n : Nat, m_ok (m_it n N) P S (B + n)
  | 0 => by simpa [m_it] using hN
  | n + 1 => by
    have := m_hour_ok (m_it_ok hN n)
    have e : B + (n : Int) + 1 = B + ((n + 1 : Nat) : Int) := by omega
    rw [e] at this
    exact this
theorem m_it_eq {N N' : m_NN} {P S : Nat} {B : Int} (he : m_eq P S N N') (hN : m_ok N P S B) : ∀ n : Nat, m_eq P S (m_it n N) (m_it n N')
  | 0 => he
  | n + 1 => m_hour_eq (m_it_eq he hN n) (m_it_ok hN n)
set_option maxRecDepth 100000 in
theorem r_passHours {h : nv_St} {o P S n : Nat} {B : Int} (hN : m_ok (m_nn h o) P S B) (hB : B + n < 1073741824) (hn : n < 1000) :
    nv_R M_X0_passHours [vr 0 o, vi n] h (fun r h' => r = none ∧ m_eq P S (m_nn h' o) (m_it n (m_nn h o)) ∧ m_fr o h h') := by
  refine nv_R.of rfl rfl (Nat.le_of_ble_eq_true rfl) ?_
  have loop := m_down (n := n) (G := fun k => ∀ (j : Int) (h1 : nv_St), j = k → m_eq P S (m_nn h1 o) (m_it k (m_nn h o)) → m_fr o h h1 → nv_V M_X0_passHours 2 [(0, vr 0 o), (1, vi n), (2, vi j)] [] h1 (fun r h' => r = none ∧ m_eq P S (m_nn h' o) (m_it n (m_nn h o)) ∧ m_fr o h h')) ?_ ?_
  · refine nv_go ok_X0_passHours [2] 10 ?_
    exact loop 0 (by omega) _ _ rfl m_eq.rfl' m_fr.rfl'
  · intro j h1 hj he hf
    refine nv_go ok_X0_passHours [2] 10 ?_
    refine w_ic (by omega) (by omega) (fun c => ?_) (fun c => ?_)
    · exact ⟨rfl, he, hf⟩
    · exact absurd (by show (n : Int) ≤ j; omega) c
  · intro k hk ih j h1 hj he hf
    refine nv_go ok_X0_passHours [2] 10 ?_
    refine w_ic (by omega) (by omega) (fun c => ?_) (fun c => ?_)
    · exact absurd c (by show ¬ ((n : Int) ≤ j); omega)
    · have hok := he.ok (m_it_ok hN k)
      refine w_call (r_passHour hok (by omega)) (fun v h' hv => ?_)
      obtain ⟨rfl, he', hf'⟩ := hv
      exact ih _ _ (by omega) (he'.trans' (m_hour_eq he hok)) (hf.trans' hf')
end
section
/-! ===== a noon takes what another has; planks, sawyers, teeth, draws ===== -/
theorem nv_up_ne {h : nv_St} {t i j k : Nat} {x : Int} (hk : k ≠ j) : nv_up h t i j x t i k = h t i k := by simp [nv_up, hk]
theorem w_cp {sp dp n : Int} {n0 n1 : Nat} {F : Nat → Nat → Nat → Prop} (a b c : Nat) (h1 : sp = (a : Int)) (h2 : dp = (b : Int)) (h3 : n = (c : Int)) (h4 : a + c ≤ n0) (h5 : b + c ≤ n1) (hF : F a b c) : ∃ a b c : Nat, sp = (a : Int) ∧ dp = (b : Int) ∧ n = (c : Int) ∧ a + c ≤ n0 ∧ b + c ≤ n1 ∧ F a b c := ⟨a, b, c, h1, h2, h3, h4, h5, hF⟩
def m_tm (o b : Nat) (h h' : nv_St) : Prop := m_fr o h h' ∧ (h' 0 o 0 = h 0 o 0 ∧ h' 0 o 1 = h 0 o 1 ∧ h' 0 o 2 = h 0 b 2 ∧ h' 0 o 3 = h 0 b 3) ∧ (h' 1 o = h 1 o ∧ h' 2 o = h 2 o ∧ h' 4 o = h 4 o) ∧ ∀ j, j < 5 → h' 3 o j = h 3 b j ∧ h' 5 o j = h 5 b j ∧ h' 6 o j = h 6 b j
set_option maxRecDepth 100000 in
theorem r_takeMoment {h : nv_St} {o b : Nat} : nv_R M_X0_takeMoment [vr 0 o, vr 0 b] h (fun r h' => r = none ∧ m_tm o b h h') := by
  refine nv_R.of rfl rfl (Nat.le_of_ble_eq_true rfl) ?_
  refine nv_go ok_X0_takeMoment [] 60 ?_
  refine w_cp 0 0 5 rfl rfl rfl (by decide) (by decide) ?_
  refine w_cp 0 0 5 rfl rfl rfl (by decide) (by decide) ?_
  refine w_cp 0 0 5 rfl rfl rfl (by decide) (by decide) ?_
  refine ⟨rfl, ((((m_fr.rfl'.up (by decide)).up (by decide)).row (by decide)).row (by decide)).row (by decide), ⟨?_, ?_, ?_, ?_⟩, ⟨?_, ?_, ?_⟩, fun j hj => ⟨?_, ?_, ?_⟩⟩
  · simp [nv_row, nv_up]
  · simp [nv_row, nv_up]
  · simp [nv_row, nv_up]
  · simp [nv_row, nv_up]
  · funext k; simp [nv_row, nv_up]
  · funext k; simp [nv_row, nv_up]
  · funext k; simp [nv_row, nv_up]
  · simp [nv_row, nv_up, va_cpy, hj]
  · simp [nv_row, nv_up, va_cpy, hj]
  · simp [nv_row, nv_up, va_cpy, hj]
def m_ta (o b : Nat) (h h' : nv_St) : Prop := m_fr o h h' ∧ (∀ k, k < 4 → h' 0 o k = h 0 b k) ∧ ∀ t, 1 ≤ t → t < 7 → ∀ j, j < 5 → h' t o j = h t b j
set_option maxRecDepth 100000 in
theorem r_takeAll {h : nv_St} {o b : Nat} (hob : o ≠ b) : nv_R M_X0_takeAll [vr 0 o, vr 0 b] h (fun r h' => r = none ∧ m_ta o b h h') := by
  refine nv_R.of rfl rfl (Nat.le_of_ble_eq_true rfl) ?_
  refine nv_go ok_X0_takeAll [] 60 ?_
  refine w_cp 0 0 5 rfl rfl rfl (by decide) (by decide) ?_
  refine w_cp 0 0 5 rfl rfl rfl (by decide) (by decide) ?_
  refine w_cp 0 0 5 rfl rfl rfl (by decide) (by decide) ?_
  refine w_call r_takeMoment (fun v h' hv => ?_)
  obtain ⟨rfl, f1, ⟨a0, a1, a2, a3⟩, ⟨b1, b2, b4⟩, hj⟩ := hv
  refine ⟨rfl, (((((m_fr.rfl'.up (by decide)).up (by decide)).row (by decide)).row (by decide)).row (by decide)).trans' f1, fun k hk => ?_, fun t h1 h7 j hj5 => ?_⟩
  · have : k = 0 ∨ k = 1 ∨ k = 2 ∨ k = 3 := by omega
    rcases this with rfl | rfl | rfl | rfl
    · rw [a0]; simp [nv_row, nv_up]
    · rw [a1]; simp [nv_row, nv_up]
    · rw [a2]; simp [nv_row, nv_up]
    · rw [a3]; simp [nv_row, nv_up]
  · obtain ⟨c3, c5, c6⟩ := hj j hj5
    have : t = 1 ∨ t = 2 ∨ t = 3 ∨ t = 4 ∨ t = 5 ∨ t = 6 := by omega
    rcases this with rfl | rfl | rfl | rfl | rfl | rfl
    · rw [b1]; simp [nv_row, nv_up, va_cpy, hj5]
    · rw [b2]; simp [nv_row, nv_up, va_cpy, hj5]
    · rw [c3]; simp [nv_row, nv_up]
    · rw [b4]; simp [nv_row, nv_up, va_cpy, hj5]
    · rw [c5]; simp [nv_row, nv_up]
    · rw [c6]; simp [nv_row, nv_up]
theorem m_ta.eq {o b P S : Nat} {h h' : nv_St} (hP : P ≤ 5) (hS : S ≤ 5) (k : m_ta o b h h') : m_eq P S (m_nn h' o) (m_nn h b) :=
  ⟨fun j hj => k.2.1 j hj, fun p hp => ⟨k.2.2 1 (by omega) (by omega) p (by omega), k.2.2 2 (by omega) (by omega) p (by omega), k.2.2 3 (by omega) (by omega) p (by omega)⟩, fun s hs => ⟨k.2.2 4 (by omega) (by omega) s (by omega), k.2.2 5 (by omega) (by omega) s (by omega), k.2.2 6 (by omega) (by omega) s (by omega)⟩⟩
set_option maxRecDepth 100000 in
theorem r_empty {h : nv_St} {o : Nat} : nv_R M_X0_empty [vr 0 o] h (fun r h' => r = none ∧ m_fr o h h' ∧ h' 0 o 0 = 0 ∧ h' 0 o 1 = 0 ∧ h' 0 o 2 = 0 ∧ h' 0 o 3 = h 0 o 3) := by
  refine nv_R.of rfl rfl (Nat.le_of_ble_eq_true rfl) ?_
  refine nv_go ok_X0_empty [] 60 ?_
  refine ⟨rfl, ((m_fr.rfl'.up (by decide)).up (by decide)).up (by decide), ?_, ?_, ?_, ?_⟩ <;> simp [nv_up]
/-- a plank, a sawyer more -/
def m_addP (N : m_NN) (a b c : Int) : m_NN := fun t j => match t with
  | 0 => if j = 0 then N 0 0 + 1 else N 0 j
  | 1 => if j = m_P N then a else N 1 j
  | 2 => if j = m_P N then b else N 2 j
  | 3 => if j = m_P N then c else N 3 j
  | t => N t j
def m_addS (N : m_NN) (a b c : Int) : m_NN := fun t j => match t with
  | 0 => if j = 1 then N 0 1 + 1 else N 0 j
  | 4 => if j = m_S N then a else N 4 j
  | 5 => if j = m_S N then b else N 5 j
  | 6 => if j = m_S N then c else N 6 j
  | t => N t j
set_option maxRecDepth 100000 in
theorem r_addPlank {h : nv_St} {o P : Nat} {a b c : Int} (hP : h 0 o 0 = P) (hP5 : P ≤ 5) : nv_R M_X0_addPlank [vr 0 o, vi a, vi b, vi c] h (fun r h' => (P = 5 ∧ r = some (vi (-3)) ∧ h' = h) ∨ (P < 5 ∧ r = some (vi P) ∧ m_fr o h h' ∧ m_nn h' o = m_addP (m_nn h o) a b c)) := by
  refine nv_R.of rfl rfl (Nat.le_of_ble_eq_true rfl) ?_
  refine nv_go ok_X0_addPlank [] 60 ?_
  refine w_ic (by omega) (by omega) (fun c1 => ?_) (fun c1 => ?_)
  · have c1 : h 0 o 0 < 5 := c1
    refine w_ix P hP (by omega) ?_
    refine w_ix P (by simpa [nv_up] using hP) (by omega) ?_
    refine w_ix P (by simpa [nv_up] using hP) (by omega) ?_
    refine Or.inr ⟨by omega, ?_, (((m_fr.rfl'.up (by decide)).up (by decide)).up (by decide)).up (by decide), ?_⟩
    · simp [nv_up, hP]
    · have hm : m_P (m_nn h o) = P := by unfold m_P; show (h 0 o 0).toNat = P; omega
      funext t j
      unfold m_addP
      rw [hm]
      have : t = 0 ∨ t = 1 ∨ t = 2 ∨ t = 3 ∨ (t = 4 ∨ t = 5 ∨ t = 6) ∨ 7 ≤ t := by omega
      rcases this with rfl | rfl | rfl | rfl | (rfl | rfl | rfl) | ht
      · simp [m_nn, nv_up]
      · simp [m_nn, nv_up]
      · simp [m_nn, nv_up]
      · simp [m_nn, nv_up]
      · simp [m_nn, nv_up]
      · simp [m_nn, nv_up]
      · simp [m_nn, nv_up]
      · match t, ht with
        | t + 7, _ => simp [m_nn, show ¬ (t + 7 < 7) by omega]
  · have c1 : ¬ h 0 o 0 < 5 := c1
    exact Or.inl ⟨by omega, rfl, rfl⟩
set_option maxRecDepth 100000 in
theorem r_addSawyer {h : nv_St} {o S : Nat} {a b c : Int} (hS : h 0 o 1 = S) (hS5 : S ≤ 5) : nv_R M_X0_addSawyer [vr 0 o, vi a, vi b, vi c] h (fun r h' => (S = 5 ∧ r = some (vi (-3)) ∧ h' = h) ∨ (S < 5 ∧ r = some (vi S) ∧ m_fr o h h' ∧ m_nn h' o = m_addS (m_nn h o) a b c)) := by
  refine nv_R.of rfl rfl (Nat.le_of_ble_eq_true rfl) ?_
  refine nv_go ok_X0_addSawyer [] 60 ?_
  refine w_ic (by omega) (by omega) (fun c1 => ?_) (fun c1 => ?_)
  · have c1 : h 0 o 1 < 5 := c1
    refine w_ix S hS (by omega) ?_
    refine w_ix S (by simpa [nv_up] using hS) (by omega) ?_
    refine w_ix S (by simpa [nv_up] using hS) (by omega) ?_
    refine Or.inr ⟨by omega, ?_, (((m_fr.rfl'.up (by decide)).up (by decide)).up (by decide)).up (by decide), ?_⟩
    · simp [nv_up, hS]
    · have hm : m_S (m_nn h o) = S := by unfold m_S; show (h 0 o 1).toNat = S; omega
      funext t j
      unfold m_addS
      rw [hm]
      have : t = 0 ∨ t = 1 ∨ t = 2 ∨ t = 3 ∨ (t = 4 ∨ t = 5 ∨ t = 6) ∨ 7 ≤ t := by omega
      rcases this with rfl | rfl | rfl | rfl | (rfl | rfl | rfl) | ht
      · simp [m_nn, nv_up]
      · simp [m_nn, nv_up]
      · simp [m_nn, nv_up]
      · simp [m_nn, nv_up]
      · simp [m_nn, nv_up]
      · simp [m_nn, nv_up]
      · simp [m_nn, nv_up]
      · match t, ht with
        | t + 7, _ => simp [m_nn, show ¬ (t + 7 < 7) by omega]
  · have c1 : ¬ h 0 o 1 < 5 := c1
    exact Or.inl ⟨by omega, rfl, rfl⟩
/-- one value of a noon is another -/
def m_put (N : m_NN) (t j : Nat) (x : Int) : m_NN := fun t' j' => if t' = t ∧ j' = j then x else N t' j'
theorem m_nn_put {h : nv_St} {o t j : Nat} {x : Int} (ht : t < 7) : m_nn (nv_up h t o j x) o = m_put (m_nn h o) t j x := by
  funext t' j'
  unfold m_put m_nn nv_up
  by_cases e : t' = t ∧ j' = j
  · obtain ⟨rfl, rfl⟩ := e
    simp [ht]
  · rw [if_neg e]
    split
    · rw [if_neg (fun q => e ⟨q.1, q.2.2⟩)]
    · rfl
set_option maxRecDepth 100000 in
theorem r_addTeeth {h : nv_St} {o s : Nat} {n : Int} (hs : s < 5) (h5 : 0 ≤ h 5 o s ∧ h 5 o s ≤ 9) (hn : 0 ≤ n ∧ n ≤ 9) : nv_R M_X0_addTeeth [vr 0 o, vi s, vi n] h (fun r h' => r = none ∧ h' = nv_up h 5 o s (min 9 (h 5 o s + n))) := by
  refine nv_R.of rfl rfl (Nat.le_of_ble_eq_true rfl) ?_
  refine nv_go ok_X0_addTeeth [] 60 ?_
  refine w_ix s rfl (by omega) ?_
  refine w_mx (by omega) (by omega) ?_
  refine w_ix s rfl (by omega) ?_
  exact ⟨rfl, rfl⟩
set_option maxRecDepth 100000 in
theorem r_suppose {h : nv_St} {o s : Nat} {w g : Int} (hs : s < 5) (hw : 0 ≤ w ∧ w ≤ 2) : nv_R M_X0_suppose [vr 0 o, vi s, vi w, vi g] h (fun r h' => r = none ∧ h' = nv_up h (4 + w.toNat) o s g) := by
  refine nv_R.of rfl rfl (Nat.le_of_ble_eq_true rfl) ?_
  refine nv_go ok_X0_suppose [] 60 ?_
  refine w_if (by omega) (fun c => ?_) (fun c => ?_)
  · have c : w = 0 := c
    refine w_ix s rfl (by omega) ?_
    exact ⟨rfl, by rw [c]; rfl⟩
  · have c : ¬ w = 0 := c
    refine w_ic (by omega) (by omega) (fun c2 => ?_) (fun c2 => ?_)
    · have c2 : w = 1 := c2
      refine w_ix s rfl (by omega) ?_
      exact ⟨rfl, by rw [c2]; rfl⟩
    · have c2 : ¬ w = 1 := c2
      refine w_ix s rfl (by omega) ?_
      exact ⟨rfl, by rw [show w = 2 by omega]; rfl⟩
theorem nv_and_mask (z : Int) : nv_and z 2147483647 = z % 2147483648 := by
  unfold nv_and
  rw [pk_and (Int32.ofInt z) (m := Int32.ofInt 2147483647) 31 (by decide)]
  rw [Int32.toBitVec_ofInt, BitVec.toNat_ofInt]
  have h1 : ((z % ((2 ^ 32 : Nat) : Int)).toNat % 2 ^ 31 : Nat) < 2 ^ 31 := Nat.mod_lt _ (by decide)
  rw [nI_toInt h1]
  have e : ((2 ^ 32 : Nat) : Int) = 4294967296 := by decide
  rw [e]
  omega
def m_draw (d : Int) : Int := (d * 1103515245 + 12345) % 2147483648
def m_drift (N : m_NN) : m_NN := if 0 < N 0 0 ∧ 0 < N 0 1 then m_put (m_put N 0 3 (m_draw (N 0 3))) 6 (m_draw (N 0 3) / 65536 % N 0 1).toNat (m_draw (N 0 3) / 128 % N 0 0) else m_put N 0 3 (m_draw (N 0 3))
set_option maxRecDepth 100000 in
theorem r_drawAndSet {h : nv_St} {o P S : Nat} {B : Int} (hN : m_ok (m_nn h o) P S B) : nv_R M_X0_drawAndSet [vr 0 o] h (fun r h' => r = none ∧ m_fr o h h' ∧ m_nn h' o = m_drift (m_nn h o)) := by
  obtain ⟨hP5, hS5, hP, hS, hH, hDr, hpl, hsw⟩ := hN.h
  have ed : nv_and (h 0 o 3 * 1103515245 + 12345) 2147483647 = m_draw (h 0 o 3) := nv_and_mask _
  have hd : 0 ≤ m_draw (h 0 o 3) ∧ m_draw (h 0 o 3) < 2147483648 := by unfold m_draw; omega
  refine nv_R.of rfl rfl (Nat.le_of_ble_eq_true rfl) ?_
  refine nv_go ok_X0_drawAndSet [18] 60 ?_
  have h18 : ∀ x, x = m_draw (h 0 o 3) → nv_V M_X0_drawAndSet 18 [(0, vr 0 o)] [] (nv_up h 0 o 3 x) (fun r h' => r = none ∧ m_fr o h h' ∧ m_nn h' o = m_drift (m_nn h o)) := by
    intro x hx
    have e0 : nv_up h 0 o 3 x 0 o 0 = P := by simpa [nv_up] using hP
    have e1 : nv_up h 0 o 3 x 0 o 1 = S := by simpa [nv_up] using hS
    have e3 : nv_up h 0 o 3 x 0 o 3 = x := nv_up_same _ _ _ _ _
    have no : ¬ (0 < m_nn h o 0 0 ∧ 0 < m_nn h o 0 1) → m_fr o h (nv_up h 0 o 3 x) ∧ m_nn (nv_up h 0 o 3 x) o = m_drift (m_nn h o) := by
      intro hz
      refine ⟨m_fr.rfl'.up (by decide), ?_⟩
      rw [m_nn_put (by decide)]
      unfold m_drift
      rw [if_neg hz, hx]
      rfl
    refine nv_go ok_X0_drawAndSet [] 60 ?_
    refine w_if (by omega) (fun c => ?_) (fun c => ?_)
    · have c : nv_up h 0 o 3 x 0 o 0 ≤ 0 := c
      exact ⟨rfl, no (fun q => by have q0 : 0 < h 0 o 0 := q.1; omega)⟩
    · have c : ¬ nv_up h 0 o 3 x 0 o 0 ≤ 0 := c
      refine w_if (by omega) (fun c2 => ?_) (fun c2 => ?_)
      · have c2 : nv_up h 0 o 3 x 0 o 1 ≤ 0 := c2
        exact ⟨rfl, no (fun q => by have q0 : 0 < h 0 o 1 := q.2; omega)⟩
      · have c2 : ¬ nv_up h 0 o 3 x 0 o 1 ≤ 0 := c2
        have hr := Int.emod_nonneg (x / 65536) (show (S : Int) ≠ 0 by omega)
        have hr2 := Int.emod_lt_of_pos (x / 65536) (show (0 : Int) < S by omega)
        refine w_dv (by omega) (by omega) ?_
        refine w_dv (by rw [e3]; omega) (by omega) ?_
        refine w_dv (by omega) (by omega) ?_
        refine w_dv (by rw [e3]; omega) (by omega) ?_
        refine w_ix (x / 65536 % (S : Int)).toNat (by rw [e3, e1]; omega) (by omega) ?_
        refine ⟨rfl, (m_fr.rfl'.up (by decide)).up (by decide), ?_⟩
        rw [m_nn_put (by decide), m_nn_put (by decide), e3, e0]
        unfold m_drift
        have q1 : m_nn h o 0 0 = P := hP
        have q2 : m_nn h o 0 1 = S := hS
        rw [if_pos ⟨by omega, by omega⟩, q1, q2, hx]
        rfl
  exact h18 _ ed
end
section
/-! ===== what may be undone ===== -/
def m_eqm (P S : Nat) (N N' : m_NN) : Prop := N 0 2 = N' 0 2 ∧ N 0 3 = N' 0 3 ∧ (∀ p, p < P → N 3 p = N' 3 p) ∧ (∀ s, s < S → N 5 s = N' 5 s ∧ N 6 s = N' 6 s)
theorem m_eqm.trans' {P S : Nat} {N N' N2 : m_NN} (h : m_eqm P S N N') (k : m_eqm P S N' N2) : m_eqm P S N N2 :=
  ⟨h.1.trans k.1, h.2.1.trans k.2.1, fun p hp => (h.2.2.1 p hp).trans (k.2.2.1 p hp), fun s hs => ⟨(h.2.2.2 s hs).1.trans (k.2.2.2 s hs).1, (h.2.2.2 s hs).2.trans (k.2.2.2 s hs).2⟩⟩
theorem m_eq.m {P S : Nat} {N N' : m_NN} (h : m_eq P S N N') : m_eqm P S N N' := ⟨h.1 2 (by omega), h.1 3 (by omega), fun p hp => (h.2.1 p hp).2.2, fun s hs => (h.2.2 s hs).2⟩
/-- the class's past j: the latest moment first -/
def c_past (h : nv_St) (j P S : Nat) (pl : List m_NN) : Prop := ∃ nx : Nat, nx < 8 ∧ h 11 j 2 = nx ∧ h 11 j 1 = pl.length ∧ pl.length ≤ 8 ∧ ∀ k (M : m_NN), pl[k]? = some M → m_eqm P S (m_nn h (3 + 8 * j + (nx + 7 - k) % 8)) M
/-- nothing of past j has changed -/
theorem c_past.kept {h h' : nv_St} {j P S : Nat} {pl : List m_NN} (k : c_past h j P S pl) (h1 : h' 11 j = h 11 j) (h2 : ∀ t q, t < 7 → q < 8 → h' t (3 + 8 * j + q) = h t (3 + 8 * j + q)) : c_past h' j P S pl := by
  obtain ⟨nx, a1, a2, a3, a4, a5⟩ := k
  refine ⟨nx, a1, by rw [h1]; exact a2, by rw [h1]; exact a3, a4, fun i M hM => ?_⟩
  rw [m_nn_ext (fun t ht => h2 t ((nx + 7 - i) % 8) ht (by omega))]
  exact a5 i M hM
set_option maxRecDepth 100000 in
theorem r_forget {h : nv_St} {j : Nat} : nv_R M_X1_forget [vr 11 j] h (fun r h' => r = none ∧ h' = nv_up h 11 j 1 0) := by
  refine nv_R.of rfl rfl (Nat.le_of_ble_eq_true rfl) ?_
  refine nv_go ok_X1_forget [] 20 ?_
  exact ⟨rfl, rfl⟩
theorem c_past.forget {h : nv_St} {j P S P' S' : Nat} {pl : List m_NN} (k : c_past h j P S pl) : c_past (nv_up h 11 j 1 0) j P' S' [] := by
  obtain ⟨nx, a1, a2, a3, a4, a5⟩ := k
  exact ⟨nx, a1, by simpa [nv_up] using a2, by simp [nv_up], by simp, fun i M hM => by simp at hM⟩
set_option maxRecDepth 100000 in
theorem r_keep {h : nv_St} {j o P S : Nat} {pl : List m_NN} (hP : P ≤ 5) (hS : S ≤ 5) (hj : j < 2) (ho : o < 3) (k : c_past h j P S pl) :
    nv_R M_X1_keep [vr 11 j, vr 0 o] h (fun r h' => r = none ∧ c_past h' j P S ((m_nn h o :: pl).take 8) ∧ ∀ t i, ¬ (t = 11 ∧ i = j) → ¬ (t < 8 ∧ 3 + 8 * j ≤ i ∧ i < 11 + 8 * j) → h' t i = h t i) := by
  obtain ⟨nx, a1, a2, a3, a4, a5⟩ := k
  refine nv_R.of rfl rfl (Nat.le_of_ble_eq_true rfl) ?_
  refine nv_go ok_X1_keep [] 60 ?_
  refine w_ix nx a2 (by omega) ?_
  refine w_call (r_takeMoment (o := 3 + 8 * j + nx) (b := o)) (fun v h' hv => ?_)
  obtain ⟨rfl, f1, ⟨b0, b1, b2, b3⟩, ⟨d1, d2, d4⟩, hj5⟩ := hv
  have e11 : h' 11 j = h 11 j := f1 11 j (by omega)
  have e2 : h' 11 j 2 = nx := by rw [e11]; exact a2
  have e1 : h' 11 j 1 = pl.length := by rw [e11]; exact a3
  refine w_dv (by omega) (by omega) ?_
  refine w_mx (by omega) (by have : nv_up h' 11 j 2 ((h' 11 j 2 + 1) % 8) 11 j 1 = h' 11 j 1 := by simp [nv_up]
                             rw [this]; omega) ?_
  refine ⟨rfl, ⟨(nx + 1) % 8, by omega, ?_, ?_, ?_, fun i M hM => ?_⟩, fun t i hn1 hn2 => ?_⟩
  · simp [nv_up]; omega
  · simp [nv_up]; omega
  · simp; omega
  · have hn : ∀ q, m_nn (nv_up (nv_up h' 11 j 2 ((h' 11 j 2 + 1) % 8)) 11 j 1 (min 8 (nv_up h' 11 j 2 ((h' 11 j 2 + 1) % 8) 11 j 1 + 1))) q = m_nn h' q := by
      intro q
      apply m_nn_ext
      intro t ht
      funext k
      simp [nv_up, show ¬ t = 11 by omega]
    rw [hn]
    cases i with
    | zero =>
      simp at hM
      subst hM
      have e : ((nx + 1) % 8 + 7 - 0) % 8 = nx := by omega
      rw [e]
      exact ⟨b2, b3, fun p hp => (hj5 p (by omega)).1, fun s hs => (hj5 s (by omega)).2⟩
    | succ i =>
      have hi : i < 7 ∧ pl[i]? = some M := by
        rw [List.getElem?_take] at hM
        split at hM
        · exact ⟨by omega, by simpa using hM⟩
        · simp at hM
      have e : ((nx + 1) % 8 + 7 - (i + 1)) % 8 = (nx + 7 - i) % 8 := by omega
      rw [e, m_nn_ext (fun t ht => f1 t (3 + 8 * j + (nx + 7 - i) % 8) (by omega))]
      exact a5 i M hi.2
  · have : nv_up (nv_up h' 11 j 2 ((h' 11 j 2 + 1) % 8)) 11 j 1 (min 8 (nv_up h' 11 j 2 ((h' 11 j 2 + 1) % 8) 11 j 1 + 1)) t i = h' t i := by
      funext q
      unfold nv_up
      rw [if_neg (by rintro ⟨rfl, rfl, -⟩; exact hn1 ⟨rfl, rfl⟩), if_neg (by rintro ⟨rfl, rfl, -⟩; exact hn1 ⟨rfl, rfl⟩)]
    rw [this]
    exact f1 t i (by omega)
/-- a moment given back -/
def m_mom (N M : m_NN) : m_NN := fun t j => match t with
  | 0 => if j = 2 then M 0 2 else if j = 3 then M 0 3 else N 0 j
  | 3 => M 3 j
  | 5 => M 5 j
  | 6 => M 6 j
  | t => N t j
set_option maxRecDepth 100000 in
theorem r_giveBack {h : nv_St} {j P S : Nat} {pl : List m_NN} (hP : P ≤ 5) (hS : S ≤ 5) (hj : j < 2) (k : c_past h j P S pl) :
    nv_R M_X1_giveBack [vr 11 j, vr 0 0] h (fun r h' => (pl = [] ∧ r = some (vi 0) ∧ h' = h) ∨ ∃ M r', pl = M :: r' ∧ r = some (vi 1) ∧ c_past h' j P S r' ∧ m_eq P S (m_nn h' 0) (m_mom (m_nn h 0) M) ∧ ∀ t i, ¬ (t = 11 ∧ i = j) → ¬ (t < 8 ∧ i = 0) → h' t i = h t i) := by
  obtain ⟨nx, a1, a2, a3, a4, a5⟩ := k
  refine nv_R.of rfl rfl (Nat.le_of_ble_eq_true rfl) ?_
  refine nv_go ok_X1_giveBack [] 60 ?_
  refine w_if (by omega) (fun c => ?_) (fun c => ?_)
  · have c : h 11 j 1 = 0 := c
    refine And.intro (Or.inl rfl) (Or.inl ⟨?_, rfl, rfl⟩)
    exact List.length_eq_zero_iff.mp (by omega)
  · have c : ¬ h 11 j 1 = 0 := c
    match pl, a3, a4, a5 with
    | [], a3, _, _ => exact absurd (by simpa using a3) c
    | M :: r', a3, a4, a5 =>
      simp at a3 a4
      have u2 : ∀ x, nv_up h 11 j 1 x 11 j 2 = nx := fun x => by simpa [nv_up] using a2
      refine w_dv (by rw [u2]; omega) (by omega) ?_
      refine w_ix ((nx + 7) % 8) (by rw [nv_up_same, u2]; omega) (by omega) ?_
      refine w_call (r_takeMoment (o := 0) (b := 3 + 8 * j + (nx + 7) % 8)) (fun v h' hv => ?_)
      obtain ⟨rfl, f1, ⟨b0, b1, b2, b3⟩, ⟨d1, d2, d4⟩, hj5⟩ := hv
      generalize hg : nv_up (nv_up h 11 j 1 (h 11 j 1 - 1)) 11 j 2 ((nv_up h 11 j 1 (h 11 j 1 - 1) 11 j 2 + 8 - 1) % 8) = g at f1 b0 b1 b2 b3 d1 d2 d4 hj5
      have gs : ∀ t i, ¬ (t = 11 ∧ i = j) → g t i = h t i := by
        intro t i hn
        rw [← hg]
        funext q
        unfold nv_up
        rw [if_neg (by rintro ⟨rfl, rfl, -⟩; exact hn ⟨rfl, rfl⟩), if_neg (by rintro ⟨rfl, rfl, -⟩; exact hn ⟨rfl, rfl⟩)]
      have e11 : h' 11 j = g 11 j := f1 11 j (by omega)
      have hM := a5 0 M (by simp)
      have eN : m_nn g (3 + 8 * j + (nx + 7) % 8) = m_nn h (3 + 8 * j + (nx + 7) % 8) := m_nn_ext (fun t ht => gs t _ (by omega))
      refine And.intro (Or.inr rfl) (Or.inr ⟨M, r', rfl, rfl, ⟨(nx + 7) % 8, by omega, ?_, ?_, by omega, fun i M' hM' => ?_⟩, ?_, fun t i hn1 hn2 => ?_⟩)
      · rw [e11, ← hg, nv_up_same, u2]; omega
      · rw [e11, ← hg]; simp [nv_up]; omega
      · have e : ((nx + 7) % 8 + 7 - i) % 8 = (nx + 7 - (i + 1)) % 8 := by
          have hi := (List.getElem?_eq_some_iff.mp hM').1
          omega
        rw [e, m_nn_ext (fun t ht => (f1 t (3 + 8 * j + (nx + 7 - (i + 1)) % 8) (by omega)).trans (gs t _ (by omega)))]
        exact a5 (i + 1) M' (by simpa using hM')
      · have hb2 : g 0 (3 + 8 * j + (nx + 7) % 8) 2 = M 0 2 := by rw [gs 0 _ (by omega)]; exact hM.1
        have hb3 : g 0 (3 + 8 * j + (nx + 7) % 8) 3 = M 0 3 := by rw [gs 0 _ (by omega)]; exact hM.2.1
        refine ⟨fun q hq => ?_, fun p hp => ⟨?_, ?_, ?_⟩, fun s hs => ⟨?_, ?_, ?_⟩⟩
        · have : q = 0 ∨ q = 1 ∨ q = 2 ∨ q = 3 := by omega
          rcases this with rfl | rfl | rfl | rfl
          · show h' 0 0 0 = h 0 0 0
            rw [b0, gs 0 0 (by omega)]
          · show h' 0 0 1 = h 0 0 1
            rw [b1, gs 0 0 (by omega)]
          · show h' 0 0 2 = M 0 2
            rw [b2]; exact hb2
          · show h' 0 0 3 = M 0 3
            rw [b3]; exact hb3
        · show h' 1 0 p = h 1 0 p
          rw [d1, gs 1 0 (by omega)]
        · show h' 2 0 p = h 2 0 p
          rw [d2, gs 2 0 (by omega)]
        · show h' 3 0 p = M 3 p
          rw [(hj5 p (by omega)).1, gs 3 _ (by omega)]; exact hM.2.2.1 p hp
        · show h' 4 0 s = h 4 0 s
          rw [d4, gs 4 0 (by omega)]
        · show h' 5 0 s = M 5 s
          rw [(hj5 s (by omega)).2.1, gs 5 _ (by omega)]; exact (hM.2.2.2 s hs).1
        · show h' 6 0 s = M 6 s
          rw [(hj5 s (by omega)).2.2, gs 6 _ (by omega)]; exact (hM.2.2.2 s hs).2
      · rw [f1 t i (by omega), gs t i hn1]
set_option maxRecDepth 100000 in
theorem r_takePast {h : nv_St} {a b P S : Nat} {pl : List m_NN} (hP : P ≤ 5) (hS : S ≤ 5) (hab : (a = 0 ∧ b = 1) ∨ (a = 1 ∧ b = 0)) (k : c_past h b P S pl) :
    nv_R M_X1_takePast [vr 11 a, vr 11 b] h (fun r h' => r = none ∧ c_past h' a P S pl ∧ ∀ t i, ¬ (t = 11 ∧ i = a) → ¬ (t < 8 ∧ 3 + 8 * a ≤ i ∧ i < 11 + 8 * a) → h' t i = h t i) := by
  obtain ⟨nx, a1, a2, a3, a4, a5⟩ := k
  refine nv_R.of rfl rfl (Nat.le_of_ble_eq_true rfl) ?_
  have loop := m_down (n := 8) (G := fun p => ∀ (x : Int) (h1 : nv_St), x = p → (∀ t i, ¬ (t = 11 ∧ i = a) → ¬ (t < 8 ∧ 3 + 8 * a ≤ i ∧ i < 11 + 8 * a) → h1 t i = h t i) → h1 11 a 2 = nx → h1 11 a 1 = pl.length → (∀ q, q < p → m_eqm P S (m_nn h1 (3 + 8 * a + q)) (m_nn h (3 + 8 * b + q))) → nv_V M_X1_takePast 18 [(0, vr 11 a), (1, vr 11 b), (2, vi x)] [] h1 (fun r h' => r = none ∧ c_past h' a P S pl ∧ ∀ t i, ¬ (t = 11 ∧ i = a) → ¬ (t < 8 ∧ 3 + 8 * a ≤ i ∧ i < 11 + 8 * a) → h' t i = h t i)) ?_ ?_
  · refine nv_go ok_X1_takePast [18] 30 ?_
    refine loop 0 (by omega) _ _ rfl (fun t i hn _ => ?_) ?_ ?_ (fun q hq => absurd hq (by omega))
    · funext q
      unfold nv_up
      rw [if_neg (by rintro ⟨rfl, rfl, -⟩; exact hn ⟨rfl, rfl⟩), if_neg (by rintro ⟨rfl, rfl, -⟩; exact hn ⟨rfl, rfl⟩)]
    · rw [nv_up_same, ← a2]; simp [nv_up]
    · rw [nv_up_ne (by decide), nv_up_same]; exact a3
  · intro x h1 hx hf e2 e1 hq
    refine nv_go ok_X1_takePast [18] 30 ?_
    refine w_ic (by omega) (by omega) (fun c => ?_) (fun c => ?_)
    · refine ⟨rfl, ⟨nx, a1, e2, e1, a4, fun i M hM => ?_⟩, hf⟩
      exact (hq ((nx + 7 - i) % 8) (by omega)).trans' (a5 i M hM)
    · exact absurd (by show (8 : Int) ≤ x; omega) c
  · intro p hp ih x h1 hx hf e2 e1 hq
    refine nv_go ok_X1_takePast [18] 30 ?_
    refine w_ic (by omega) (by omega) (fun c => ?_) (fun c => ?_)
    · exact absurd c (by show ¬ ((8 : Int) ≤ x); omega)
    · refine w_ix p hx (by omega) ?_
      refine w_ix p hx (by omega) ?_
      refine w_call (r_takeMoment (o := 3 + 8 * a + p) (b := 3 + 8 * b + p)) (fun v h' hv => ?_)
      obtain ⟨rfl, f1, ⟨b0, b1, b2, b3⟩, ⟨d1, d2, d4⟩, hj5⟩ := hv
      have eb : ∀ t, h1 t (3 + 8 * b + p) = h t (3 + 8 * b + p) := fun t => hf t _ (by omega) (by omega)
      refine ih _ _ (by omega) (fun t i hn1 hn2 => (f1 t i (by omega)).trans (hf t i hn1 hn2)) (by rw [f1 11 a (by omega)]; exact e2) (by rw [f1 11 a (by omega)]; exact e1) (fun q hqp => ?_)
      by_cases e : q = p
      · subst e
        refine ⟨?_, ?_, fun p hp => ?_, fun s hs => ⟨?_, ?_⟩⟩
        · show h' 0 (3 + 8 * a + q) 2 = h 0 (3 + 8 * b + q) 2
          rw [b2, eb 0]
        · show h' 0 (3 + 8 * a + q) 3 = h 0 (3 + 8 * b + q) 3
          rw [b3, eb 0]
        · show h' 3 (3 + 8 * a + q) p = h 3 (3 + 8 * b + q) p
          rw [(hj5 p (by omega)).1, eb 3]
        · show h' 5 (3 + 8 * a + q) s = h 5 (3 + 8 * b + q) s
          rw [(hj5 s (by omega)).2.1, eb 5]
        · show h' 6 (3 + 8 * a + q) s = h 6 (3 + 8 * b + q) s
          rw [(hj5 s (by omega)).2.2, eb 6]
      · rw [m_nn_ext (fun t ht => f1 t (3 + 8 * a + q) (by omega))]
        exact hq q (by omega)
end
section
/-! ===== the reference's noon: one array of 171 ===== -/
def m_mm (h : nv_St) (c : Nat) : m_NN := fun t j => match t with
  | 0 => (match j with | 0 => h c 0 17 | 1 => h c 0 28 | 2 => h c 0 0 | 3 => h c 0 1 | _ => 0)
  | 1 => h c 0 (18 + j)
  | 2 => h c 0 (23 + j)
  | 3 => h c 0 (2 + j)
  | 4 => h c 0 (29 + j)
  | 5 => h c 0 (7 + j)
  | 6 => h c 0 (12 + j)
  | _ => 0
theorem m_ok.m {h : nv_St} {c P S : Nat} {B : Int} (hN : m_ok (m_mm h c) P S B) : P ≤ 5 ∧ S ≤ 5 ∧ h c 0 17 = P ∧ h c 0 28 = S ∧ (0 ≤ h c 0 0 ∧ h c 0 0 ≤ B) ∧ (0 ≤ h c 0 1 ∧ h c 0 1 < 2147483648) ∧
  (∀ p, p < P → (0 ≤ h c 0 (18 + p) ∧ h c 0 (18 + p) ≤ 99) ∧ (0 ≤ h c 0 (23 + p) ∧ h c 0 (23 + p) ≤ 9) ∧ (0 ≤ h c 0 (2 + p) ∧ h c 0 (2 + p) ≤ 99)) ∧
  (∀ s, s < S → (0 ≤ h c 0 (29 + s) ∧ h c 0 (29 + s) ≤ 4) ∧ (0 ≤ h c 0 (7 + s) ∧ h c 0 (7 + s) ≤ 9) ∧ (h c 0 (12 + s) = -4 ∨ (0 ≤ h c 0 (12 + s) ∧ h c 0 (12 + s) < P))) := hN
theorem nv_and_nat {a b : Nat} (ha : a < 2 ^ 31) (hb : b < 2 ^ 31) : nv_and (a : Int) (b : Int) = ((a &&& b : Nat) : Int) := by
  have h2 : a &&& b < 2 ^ 31 := Nat.lt_of_le_of_lt Nat.and_le_left ha
  have h1 : Int32.ofInt (a : Int) &&& Int32.ofInt (b : Int) = Int32.ofInt ((a &&& b : Nat) : Int) := by
    apply Int32.toBitVec.inj
    rw [Int32.toBitVec_and, Int32.toBitVec_ofInt, Int32.toBitVec_ofInt, Int32.toBitVec_ofInt]
    apply BitVec.eq_of_toNat_eq
    simp only [BitVec.toNat_and, BitVec.ofInt_natCast, BitVec.toNat_ofNat]
    rw [Nat.mod_eq_of_lt (show a < 2 ^ 32 by omega), Nat.mod_eq_of_lt (show b < 2 ^ 32 by omega), Nat.mod_eq_of_lt (show a &&& b < 2 ^ 32 by omega)]
  unfold nv_and
  rw [h1]
  exact nv_toInt ⟨by omega, by omega⟩
theorem nv_and_1 {x : Int} (h0 : 0 ≤ x) (h1 : x < 2147483648) : nv_and x 1 = x % 2 := by
  obtain ⟨a, rfl⟩ : ∃ a : Nat, x = (a : Int) := ⟨x.toNat, by omega⟩
  have := nv_and_nat (a := a) (b := 1) (by omega) (by omega)
  rw [Nat.and_one_is_mod] at this
  rw [show ((1 : Nat) : Int) = 1 from rfl] at this
  rw [this]
  omega
theorem nv_or_0 {x : Int} (h0 : 0 ≤ x) (h1 : x < 2147483648) : nv_or x 0 = x := by
  obtain ⟨a, rfl⟩ : ∃ a : Nat, x = (a : Int) := ⟨x.toNat, by omega⟩
  have := nv_or_nat (a := a) (b := 0) (by omega) (by omega)
  rw [Nat.or_zero] at this
  exact this
def m_bit (x : Int) (k : Nat) : Bool := decide (x / 2 ^ k % 2 = 1)
theorem m_div_r {x : Int} {k : Nat} (h0 : 0 ≤ x) : 0 ≤ x / 2 ^ k ∧ x / 2 ^ k ≤ x := by
  have hp : (0 : Int) < 2 ^ k := Int.pow_pos (by decide)
  exact ⟨Int.ediv_nonneg h0 (by omega), Int.ediv_le_self _ h0⟩
theorem w_sr {a b : Int} {F : Nat → Prop} (ha : nv_InR a) (n : Nat) (hb : b = (n : Int)) (hn : n < 32) (hF : F n) : nv_InR a ∧ ∃ n : Nat, b = (n : Int) ∧ n < 32 ∧ F n := ⟨ha, n, hb, hn, hF⟩
set_option maxRecDepth 100000 in
theorem r_in {h : nv_St} {v a b : Int} (hv : nv_InR v) (ha : nv_InR a) (hb : nv_InR b) : nv_R M_X6_in [vi v, vi a, vi b] h (fun r h' => h' = h ∧ r = some (vi (nv_b (decide (a ≤ v) && decide (v ≤ b))))) := by
  refine nv_R.of rfl rfl (Nat.le_of_ble_eq_true rfl) ?_
  refine nv_go ok_X6_in [] 30 ?_
  refine w_ic hv ha (fun c => ?_) (fun c => ?_)
  · have c : v < a := c
    refine And.intro (Or.inl rfl) ⟨rfl, ?_⟩
    rw [decide_eq_false (show ¬ a ≤ v by omega)]; rfl
  · have c : ¬ v < a := c
    refine w_ic hv hb (fun c2 => ?_) (fun c2 => ?_)
    · have c2 : b < v := c2
      refine And.intro (Or.inl rfl) ⟨rfl, ?_⟩
      rw [decide_eq_false (show ¬ v ≤ b by omega), Bool.and_false]; rfl
    · have c2 : ¬ b < v := c2
      refine And.intro (Or.inr rfl) ⟨rfl, ?_⟩
      rw [decide_eq_true (show v ≤ b by omega), decide_eq_true (show a ≤ v by omega)]; rfl
set_option maxRecDepth 100000 in
theorem r_has {h : nv_St} {x : Int} {k : Nat} (h0 : 0 ≤ x) (h1 : x < 2147483648) (hk : k < 32) : nv_R M_X6_has [vi x, vi k] h (fun r h' => h' = h ∧ r = some (vi (nv_b (m_bit x k)))) := by
  have hd := m_div_r (k := k) h0
  have e1 : nv_and (x / 2 ^ k) 1 = x / 2 ^ k % 2 := nv_and_1 hd.1 (by omega)
  refine nv_R.of rfl rfl (Nat.le_of_ble_eq_true rfl) ?_
  refine nv_go ok_X6_has [] 30 ?_
  refine w_sr (by omega) k rfl hk ?_
  refine w_ic (by rw [e1]; omega) (by omega) (fun c => ?_) (fun c => ?_)
  · have c : x / 2 ^ k % 2 = 1 := by rw [← e1]; exact c
    exact And.intro (Or.inr rfl) ⟨rfl, by unfold m_bit; rw [decide_eq_true c]; rfl⟩
  · have c : ¬ x / 2 ^ k % 2 = 1 := by rw [← e1]; exact c
    exact And.intro (Or.inl rfl) ⟨rfl, by unfold m_bit; rw [decide_eq_false c]; rfl⟩
/-- the plank of which most is left, from the first on -/
def m_th (f : Nat → Int) : Nat → Nat
  | 0 => 0
  | n + 1 => if f (m_th f n) < f n then n else m_th f n
theorem m_th_lt (f : Nat → Int) : ∀ n, m_th f n < n ∨ m_th f n = 0
  | 0 => Or.inr rfl
  | n + 1 => by
    have := m_th_lt f n
    unfold m_th
    split <;> omega
theorem m_th_most {f : Nat → Int} : ∀ {n : Nat}, (∀ p, p < n → 0 ≤ f p) → (m_most f n = -4 ∧ m_th f n = 0 ∧ ∀ p, p < n → f p = 0) ∨ m_most f n = m_th f n
  | 0, _ => Or.inl ⟨rfl, rfl, fun p hp => absurd hp (by omega)⟩
  | n + 1, h => by
    have hn := h n (by omega)
    have hr := m_most_r f n
    rcases m_th_most (n := n) (fun p hp => h p (by omega)) with ⟨a, b, c⟩ | a
    · unfold m_most m_th
      rw [a, b]
      by_cases e : 0 < f n
      · right
        rw [if_pos ⟨e, Or.inl rfl⟩]
        by_cases hz : n = 0
        · subst hz; simp
        · rw [c 0 (by omega), if_pos e]
      · left
        have e0 : f n = 0 := by omega
        rw [if_neg (fun q => e q.1)]
        refine ⟨rfl, ?_, fun p hp => ?_⟩
        · by_cases hz : n = 0
          · subst hz; simp
          · rw [c 0 (by omega), if_neg e]
        · by_cases hp2 : p = n
          · rw [hp2]; exact e0
          · exact c p (by omega)
    · right
      have ha : ¬ m_most f n = -4 := by omega
      unfold m_most m_th
      rw [a]
      have e1 : ((m_th f n : Nat) : Int).toNat = m_th f n := by omega
      rw [e1]
      by_cases e : f (m_th f n) < f n
      · rw [if_pos e, if_pos ⟨by have := (hr.resolve_left ha).2.2; rw [a, e1] at this; omega, Or.inr e⟩]
      · rw [if_neg e, if_neg (fun q => (q.2.resolve_left (by omega)) |> e)]
theorem m_most_none {f : Nat → Int} : ∀ {n : Nat}, m_most f n = -4 ↔ ∀ p, p < n → ¬ 0 < f p
  | 0 => ⟨fun _ p hp => absurd hp (by omega), fun _ => rfl⟩
  | n + 1 => by
    have ih := m_most_none (f := f) (n := n)
    have hr := m_most_r f n
    unfold m_most
    constructor
    · intro h
      split at h
      · omega
      · next hc =>
        intro p hp
        by_cases e : p = n
        · subst e; intro h0; exact hc ⟨h0, Or.inl h⟩
        · exact ih.mp h p (by omega)
    · intro h
      rw [if_neg (fun q => h n (by omega) q.1)]
      exact ih.mpr (fun p hp => h p (by omega))
theorem m_set_all {f : Nat → Prop} [DecidablePred f] : ∀ {n : Nat}, m_set f n = 2 ^ n - 1 ↔ ∀ p, p < n → f p
  | 0 => ⟨fun _ p hp => absurd hp (by omega), fun _ => by simp [m_set]⟩
  | n + 1 => by
    have ih := m_set_all (f := f) (n := n)
    have hl := m_set_lt f n
    have h2 : (2 : Int) ^ (n + 1) = 2 ^ n + 2 ^ n := by rw [Int.pow_succ]; omega
    unfold m_set
    constructor
    · intro h p hp
      by_cases e : f n
      · rw [if_pos e] at h
        by_cases e2 : p = n
        · rw [e2]; exact e
        · exact ih.mp (by omega) p (by omega)
      · rw [if_neg e] at h; omega
    · intro h
      rw [if_pos (h n (by omega)), ih.mpr (fun p hp => h p (by omega))]
      omega
/-- an hour in which sawyer s cuts c s -/
def m_hourC (N : m_NN) (c : Nat → Int) : m_NN := fun t j => match t with
  | 0 => if j = 2 then N 0 2 + 1 else N 0 j
  | 3 => m_lf N c (m_S N) j
  | 5 => if N 0 2 % 3 = 2 ∧ 0 < c j ∧ 0 < N 5 j then N 5 j - 1 else N 5 j
  | 6 => if (0 ≤ N 6 j ∧ m_lf N c (m_S N) (N 6 j).toNat = 0) ∧ ¬ m_most (m_lf N c (m_S N)) (m_P N) = -4 then m_most (m_lf N c (m_S N)) (m_P N) else N 6 j
  | t => N t j
theorem m_hourC_cut (N : m_NN) : m_hourC N (m_cut N) = m_hour N := rfl
def m_frM (c : Nat) (h h' : nv_St) : Prop := ∀ t i, ¬ ((t = c ∨ t = 28) ∧ i = 0) → h' t i = h t i
theorem m_frM.rfl' {c : Nat} {h : nv_St} : m_frM c h h := fun _ _ _ => rfl
theorem m_frM.trans' {c : Nat} {h h1 h2 : nv_St} (a : m_frM c h h1) (b : m_frM c h1 h2) : m_frM c h h2 := fun t i hn => (b t i hn).trans (a t i hn)
set_option maxHeartbeats 4000000 in
set_option maxRecDepth 100000 in
theorem r_cuts_24 {h : nv_St} {P S : Nat} {B : Int} (hN : m_ok (m_mm h 24) P S B) (hB : B < 1073741824) {s : Nat} (hs : s < S) : nv_R M_X6_cuts [vr 24 0, vi s] h (fun r h' => h' = h ∧ r = some (vi (m_cut (m_mm h 24) s))) := by
  obtain ⟨hP5, hS5, hP, hS, hH, hDr, hpl, hsw⟩ := hN.m
  obtain ⟨hk, ht, hse⟩ := hsw s hs
  generalize hQ : (fun (r : Option nv_AV) (h' : nv_St) => h' = h ∧ r = some (vi (m_cut (m_mm h 24) s))) = Q
  have q_ok : ∀ z : Int, z = m_cut (m_mm h 24) s → Q (some (vi z)) h := fun z hz => by rw [← hQ, hz]; exact ⟨rfl, rfl⟩
  refine nv_R.of rfl rfl (Nat.le_of_ble_eq_true rfl) ?_
  refine nv_go ok_X6_cuts [58, 73, 108] 60 ?_
  refine w_ix (12 + s) (by omega) (by omega) ?_
  refine w_ic (by omega) (by omega) (fun c => ?_) (fun c => ?_)
  · have c : m_mm h 24 6 s = -4 := c
    exact q_ok _ (by unfold m_cut; rw [if_pos (by omega)])
  · have c : ¬ h 24 0 (12 + s) = -4 := c
    obtain ⟨p, hp⟩ : ∃ p : Nat, h 24 0 (12 + s) = p := ⟨(h 24 0 (12 + s)).toNat, by omega⟩
    have hp' : (m_mm h 24 6 s).toNat = p := by show (h 24 0 (12 + s)).toNat = p; omega
    have c' : ¬ m_mm h 24 6 s < 0 := by show ¬ h 24 0 (12 + s) < 0; omega
    obtain ⟨h1, h2, h3⟩ := hpl p (by omega)
    have hpr := m_plain_r ht h2
    refine w_ix (2 + p) (by omega) (by omega) ?_
    refine w_if (by omega) (fun c2 => ?_) (fun c2 => ?_)
    · have c2 : m_mm h 24 3 p = 0 := c2
      exact q_ok _ (by unfold m_cut; rw [if_neg c', hp', if_pos c2])
    · have c2 : ¬ m_mm h 24 3 p = 0 := c2
      have ecut : m_cut (m_mm h 24) s = m_by (h 24 0 (29 + s)) (h 24 0 (7 + s)) (h 24 0 (23 + p)) (m_edge (m_mm h 24) p) (m_rest (m_mm h 24)) := by
        unfold m_cut; rw [if_neg c', hp', if_neg c2]; rfl
      have h108 : ∀ x y z : Int, x = m_plain (h 24 0 (7 + s)) (h 24 0 (23 + p)) → y = m_old (h 24 0 (7 + s)) (h 24 0 (23 + p)) → z = m_green (h 24 0 (7 + s)) (h 24 0 (23 + p)) (m_edge (m_mm h 24) p) → nv_V M_X6_cuts 108 [(0, vr 24 0), (1, vi s), (2, vi (h 24 0 (12 + s))), (3, vi (h 24 0 (23 + p))), (4, vi x), (5, vi y), (6, vi z)] [] h Q := by
        intro x y z hx hy hz
        have hz0 : 0 ≤ z ∧ z ≤ 18 := by rw [hz]; exact m_green_r ht h2
        refine nv_go ok_X6_cuts [] 60 ?_
        refine w_ix (29 + s) (by omega) (by omega) ?_
        refine And.intro (by omega) (And.intro (fun c => ?_) (And.intro (fun c => ?_) (And.intro (fun c => ?_) (And.intro (fun c => ?_) (And.intro (fun c => ?_) trivial)))))
        · have c : h 24 0 (29 + s) < 0 ∨ (0 : Int) + 4 ≤ h 24 0 (29 + s) := c
          refine w_ic (by omega) (by omega) (fun c3 => ?_) (fun c3 => ?_)
          · have c3 : z = 1 := c3
            exact q_ok _ (by rw [ecut]; unfold m_by; rw [if_neg (by omega), if_neg (by omega), if_neg (by omega), if_pos (by omega), ← hz, if_pos c3])
          · have c3 : ¬ z = 1 := c3
            refine w_dv (by omega) (by omega) ?_
            exact q_ok _ (by rw [ecut]; unfold m_by; rw [if_neg (by omega), if_neg (by omega), if_neg (by omega), if_pos (by omega), ← hz, if_neg c3])
        · exact q_ok _ (by rw [ecut, hx]; unfold m_by; rw [if_neg (by omega), if_neg (by omega), if_neg (by omega), if_neg (by omega)])
        · exact q_ok _ (by rw [ecut, hy]; unfold m_by; rw [if_pos (by omega)])
        · exact q_ok _ (by rw [ecut, hz]; unfold m_by; rw [if_neg (by omega), if_pos (by omega)])
        · refine w_ix 0 (by omega) (by omega) ?_
          refine w_dv (by omega) (by omega) ?_
          refine w_if (by omega) (fun c3 => ?_) (fun c3 => ?_)
          · have c3 : m_mm h 24 0 2 % 4 = 0 := c3
            exact q_ok _ (by rw [ecut]; unfold m_by m_rest; rw [if_neg (by omega), if_neg (by omega), if_pos (by omega), decide_eq_true c3]; rfl)
          · have c3 : ¬ m_mm h 24 0 2 % 4 = 0 := c3
            exact q_ok _ (by rw [ecut, hy]; unfold m_by m_rest; rw [if_neg (by omega), if_neg (by omega), if_pos (by omega), decide_eq_false c3]; rfl)
      have h73 : ∀ x y : Int, x = m_plain (h 24 0 (7 + s)) (h 24 0 (23 + p)) → y = m_old (h 24 0 (7 + s)) (h 24 0 (23 + p)) → nv_V M_X6_cuts 73 [(0, vr 24 0), (1, vi s), (2, vi (h 24 0 (12 + s))), (3, vi (h 24 0 (23 + p))), (4, vi x), (5, vi y)] [] h Q := by
        intro x y hx hy
        refine nv_go ok_X6_cuts [108] 60 ?_
        refine w_ix (2 + p) (by omega) (by omega) ?_
        refine w_ix (18 + p) (by omega) (by omega) ?_
        refine w_ic (by omega) (by omega) (fun c3 => ?_) (fun c3 => ?_)
        · have c3 : m_mm h 24 3 p = m_mm h 24 1 p := c3
          exact h108 _ _ _ hx hy (by rw [hx]; unfold m_green m_edge; rw [decide_eq_true c3]; rfl)
        · have c3 : ¬ m_mm h 24 3 p = m_mm h 24 1 p := c3
          refine w_ix (2 + p) (by omega) (by omega) ?_
          refine w_ic (by omega) (by omega) (fun c4 => ?_) (fun c4 => ?_)
          · have c4 : ¬ m_mm h 24 3 p < 10 := Int.not_lt.mpr c4
            exact h108 _ _ _ hx hy (by rw [hx]; unfold m_green m_edge; rw [decide_eq_false c3, decide_eq_false c4]; rfl)
          · have c4 : m_mm h 24 3 p < 10 := Int.not_le.mp c4
            exact h108 _ _ _ hx hy (by rw [hx]; unfold m_green m_edge; rw [decide_eq_true c4, Bool.or_true]; rfl)
      have h58 : ∀ x : Int, x = m_plain (h 24 0 (7 + s)) (h 24 0 (23 + p)) → nv_V M_X6_cuts 58 [(0, vr 24 0), (1, vi s), (2, vi (h 24 0 (12 + s))), (3, vi (h 24 0 (23 + p))), (4, vi x)] [] h Q := by
        intro x hx
        refine nv_go ok_X6_cuts [73] 60 ?_
        refine w_ic (by omega) (by omega) (fun c3 => ?_) (fun c3 => ?_)
        · have c3 : 3 ≤ h 24 0 (23 + p) := c3
          exact h73 _ _ hx (by rw [hx]; unfold m_old; rw [if_pos c3])
        · have c3 : ¬ 3 ≤ h 24 0 (23 + p) := c3
          exact h73 _ _ hx (by rw [hx]; unfold m_old; rw [if_neg c3])
      refine w_ix (23 + p) (by omega) (by omega) ?_
      refine w_ix (7 + s) (by omega) (by omega) ?_
      refine w_dv (by omega) (by omega) ?_
      refine w_ic (by omega) (by omega) (fun c3 => ?_) (fun c3 => ?_)
      · have c3 : h 24 0 (7 + s) ≤ h 24 0 (23 + p) / 2 := c3
        exact h58 _ (by unfold m_plain; rw [if_pos c3])
      · have c3 : ¬ h 24 0 (7 + s) ≤ h 24 0 (23 + p) / 2 := c3
        refine w_ix (7 + s) (by omega) (by omega) ?_
        refine w_dv (by omega) (by omega) ?_
        exact h58 _ (by unfold m_plain; rw [if_neg c3])
set_option maxRecDepth 100000 in
theorem r_fallenM_24 {h : nv_St} {P : Nat} (hP5 : P ≤ 5) (hP : h 24 0 17 = P) (hpl : ∀ p, p < P → 0 ≤ h 24 0 (2 + p) ∧ h 24 0 (2 + p) ≤ 99) : nv_R M_X6_fallen [vr 24 0] h (fun r h' => h' = h ∧ r = some (vi (m_set (fun p => h 24 0 (2 + p) = 0) P))) := by
  refine nv_R.of rfl rfl (Nat.le_of_ble_eq_true rfl) ?_
  have loop := m_down (n := P) (G := fun p => ∀ j x : Int, j = p → x = m_set (fun p => h 24 0 (2 + p) = 0) p → nv_V M_X6_fallen 4 [(0, vr 24 0), (1, vi x), (2, vi j)] [] h (fun r h' => h' = h ∧ r = some (vi (m_set (fun p => h 24 0 (2 + p) = 0) P)))) ?_ ?_
  · refine nv_go ok_X6_fallen [4] 10 ?_
    exact loop 0 (by omega) _ _ rfl rfl
  · intro j x hj hx
    refine nv_go ok_X6_fallen [4] 30 ?_
    refine w_ix 17 rfl (by omega) ?_
    refine w_ic (by omega) (by omega) (fun c => ?_) (fun c => ?_)
    · exact ⟨rfl, by rw [hx]⟩
    · exact absurd (by show h 24 0 17 ≤ j; omega) c
  · intro p hp ih j x hj hx
    have hl := m_set_lt (fun p => h 24 0 (2 + p) = 0) p
    have hp2 : (2 : Int) ^ p ≤ 2 ^ 5 := by
      have : p = 0 ∨ p = 1 ∨ p = 2 ∨ p = 3 ∨ p = 4 := by omega
      rcases this with rfl | rfl | rfl | rfl | rfl <;> decide
    have h3 := hpl p hp
    refine nv_go ok_X6_fallen [4] 30 ?_
    refine w_ix 17 rfl (by omega) ?_
    refine w_ic (by omega) (by omega) (fun c => ?_) (fun c => ?_)
    · exact absurd c (by show ¬ (h 24 0 17 ≤ j); omega)
    · refine w_ix (2 + p) (by omega) (by omega) ?_
      refine w_if (by omega) (fun c2 => ?_) (fun c2 => ?_)
      · refine w_ix p hj (by omega) ?_
        have e1 : h 24 0 (2 + p) = 0 := c2
        exact ih _ _ (by omega) (by rw [hx, nv_or_bit hl.1 hl.2 (by omega)]; simp [m_set, e1])
      · have e1 : ¬ h 24 0 (2 + p) = 0 := c2
        exact ih _ _ (by omega) (by rw [hx, nv_or_0 hl.1 (by omega)]; simp [m_set, e1])
set_option maxRecDepth 100000 in
theorem r_isAll_24 {h : nv_St} {P : Nat} (hP5 : P ≤ 5) (hP : h 24 0 17 = P) (hpl : ∀ p, p < P → 0 ≤ h 24 0 (2 + p) ∧ h 24 0 (2 + p) ≤ 99) : nv_R M_X6_isAll [vr 24 0] h (fun r h' => h' = h ∧ r = some (vi (nv_b (decide (∀ p, p < P → h 24 0 (2 + p) = 0))))) := by
  have hl := m_set_lt (fun p => h 24 0 (2 + p) = 0) P
  have hp2 : (1 : Int) ≤ 2 ^ P ∧ (2 : Int) ^ P ≤ 32 := by
    have : P = 0 ∨ P = 1 ∨ P = 2 ∨ P = 3 ∨ P = 4 ∨ P = 5 := by omega
    rcases this with rfl | rfl | rfl | rfl | rfl | rfl <;> decide
  have hall := m_set_all (f := fun p => h 24 0 (2 + p) = 0) (n := P)
  refine nv_R.of rfl rfl (Nat.le_of_ble_eq_true rfl) ?_
  refine nv_go ok_X6_isAll [] 30 ?_
  refine w_call (r_fallenM_24 hP5 hP hpl) (fun v h' hv => ?_)
  obtain ⟨rfl, rfl⟩ := hv
  refine w_ix 17 rfl (by omega) ?_
  refine w_ix P hP (by omega) ?_
  refine w_ic (by omega) (by omega) (fun c => ?_) (fun c => ?_)
  · have c : m_set (fun p => h' 24 0 (2 + p) = 0) P = 1 * 2 ^ P - 1 := c
    exact And.intro (Or.inr rfl) ⟨rfl, by rw [decide_eq_true (hall.mp (by omega))]; rfl⟩
  · have c : ¬ m_set (fun p => h' 24 0 (2 + p) = 0) P = 1 * 2 ^ P - 1 := c
    exact And.intro (Or.inl rfl) ⟨rfl, by rw [decide_eq_false (fun q => c (by have := hall.mpr q; omega))]; rfl⟩
set_option maxRecDepth 100000 in
theorem r_leftOf_24 {h : nv_St} {P : Nat} (hP5 : P ≤ 5) (hP : h 24 0 17 = P) : nv_R M_X6_leftOf [vr 24 0] h (fun r h' => h' = h ∧ r = some (vi (m_sum (fun p => h 24 0 (2 + p)) P))) := by
  refine nv_R.of rfl rfl (Nat.le_of_ble_eq_true rfl) ?_
  have loop := m_down (n := P) (G := fun p => ∀ j x : Int, j = p → x = m_sum (fun p => h 24 0 (2 + p)) p → nv_V M_X6_leftOf 4 [(0, vr 24 0), (1, vi x), (2, vi j)] [] h (fun r h' => h' = h ∧ r = some (vi (m_sum (fun p => h 24 0 (2 + p)) P)))) ?_ ?_
  · refine nv_go ok_X6_leftOf [4] 10 ?_
    exact loop 0 (by omega) _ _ rfl rfl
  · intro j x hj hx
    refine nv_go ok_X6_leftOf [4] 30 ?_
    refine w_ix 17 rfl (by omega) ?_
    refine w_ic (by omega) (by omega) (fun c => ?_) (fun c => ?_)
    · exact ⟨rfl, by rw [hx]⟩
    · exact absurd (by show h 24 0 17 ≤ j; omega) c
  · intro p hp ih j x hj hx
    refine nv_go ok_X6_leftOf [4] 30 ?_
    refine w_ix 17 rfl (by omega) ?_
    refine w_ic (by omega) (by omega) (fun c => ?_) (fun c => ?_)
    · exact absurd c (by show ¬ (h 24 0 17 ≤ j); omega)
    · refine w_ix (2 + p) (by omega) (by omega) ?_
      exact ih _ _ (by omega) (by rw [hx]; rfl)
set_option maxRecDepth 100000 in
theorem r_thickestOf_24 {h : nv_St} {P : Nat} (hP5 : P ≤ 5) (hP1 : 1 ≤ P) (hP : h 24 0 17 = P) (hpl : ∀ p, p < P → 0 ≤ h 24 0 (2 + p) ∧ h 24 0 (2 + p) ≤ 99) : nv_R M_X6_thickestOf [vr 24 0] h (fun r h' => h' = h ∧ r = some (vi (m_th (fun p => h 24 0 (2 + p)) P))) := by
  refine nv_R.of rfl rfl (Nat.le_of_ble_eq_true rfl) ?_
  have loop := m_down (n := P) (G := fun p => ∀ j x : Int, 1 ≤ p → j = p → x = m_th (fun p => h 24 0 (2 + p)) p → nv_V M_X6_thickestOf 4 [(0, vr 24 0), (1, vi x), (2, vi j)] [] h (fun r h' => h' = h ∧ r = some (vi (m_th (fun p => h 24 0 (2 + p)) P)))) ?_ ?_
  · refine nv_go ok_X6_thickestOf [4] 10 ?_
    exact loop 1 (by omega) _ _ (by omega) rfl (by simp [m_th])
  · intro j x h1 hj hx
    refine nv_go ok_X6_thickestOf [4] 30 ?_
    refine w_ix 17 rfl (by omega) ?_
    refine w_ic (by omega) (by omega) (fun c => ?_) (fun c => ?_)
    · exact ⟨rfl, by rw [hx]⟩
    · exact absurd (by show h 24 0 17 ≤ j; omega) c
  · intro p hp ih j x h1 hj hx
    have hth := m_th_lt (fun p => h 24 0 (2 + p)) p
    have g1 := hpl p hp
    have g2 := hpl (m_th (fun p => h 24 0 (2 + p)) p) (by omega)
    refine nv_go ok_X6_thickestOf [4] 30 ?_
    refine w_ix 17 rfl (by omega) ?_
    refine w_ic (by omega) (by omega) (fun c => ?_) (fun c => ?_)
    · exact absurd c (by show ¬ (h 24 0 17 ≤ j); omega)
    · refine w_ix (2 + p) (by omega) (by omega) ?_
      refine w_ix (2 + m_th (fun p => h 24 0 (2 + p)) p) (by omega) (by omega) ?_
      refine w_ic (by omega) (by omega) (fun c2 => ?_) (fun c2 => ?_)
      · have c2 : h 24 0 (2 + p) ≤ h 24 0 (2 + m_th (fun p => h 24 0 (2 + p)) p) := c2
        exact ih _ _ (by omega) (by omega) (by rw [hx]; conv => rhs; unfold m_th; rw [if_neg (by omega)])
      · have c2 : ¬ h 24 0 (2 + p) ≤ h 24 0 (2 + m_th (fun p => h 24 0 (2 + p)) p) := c2
        exact ih _ _ (by omega) (by omega) (by rw [hj]; conv => rhs; unfold m_th; rw [if_pos (by omega)])
set_option maxHeartbeats 4000000 in
set_option maxRecDepth 100000 in
theorem r_cuts_25 {h : nv_St} {P S : Nat} {B : Int} (hN : m_ok (m_mm h 25) P S B) (hB : B < 1073741824) {s : Nat} (hs : s < S) : nv_R M_X6_cuts [vr 25 0, vi s] h (fun r h' => h' = h ∧ r = some (vi (m_cut (m_mm h 25) s))) := by
  obtain ⟨hP5, hS5, hP, hS, hH, hDr, hpl, hsw⟩ := hN.m
  obtain ⟨hk, ht, hse⟩ := hsw s hs
  generalize hQ : (fun (r : Option nv_AV) (h' : nv_St) => h' = h ∧ r = some (vi (m_cut (m_mm h 25) s))) = Q
  have q_ok : ∀ z : Int, z = m_cut (m_mm h 25) s → Q (some (vi z)) h := fun z hz => by rw [← hQ, hz]; exact ⟨rfl, rfl⟩
  refine nv_R.of rfl rfl (Nat.le_of_ble_eq_true rfl) ?_
  refine nv_go ok_X6_cuts [58, 73, 108] 60 ?_
  refine w_ix (12 + s) (by omega) (by omega) ?_
  refine w_ic (by omega) (by omega) (fun c => ?_) (fun c => ?_)
  · have c : m_mm h 25 6 s = -4 := c
    exact q_ok _ (by unfold m_cut; rw [if_pos (by omega)])
  · have c : ¬ h 25 0 (12 + s) = -4 := c
    obtain ⟨p, hp⟩ : ∃ p : Nat, h 25 0 (12 + s) = p := ⟨(h 25 0 (12 + s)).toNat, by omega⟩
    have hp' : (m_mm h 25 6 s).toNat = p := by show (h 25 0 (12 + s)).toNat = p; omega
    have c' : ¬ m_mm h 25 6 s < 0 := by show ¬ h 25 0 (12 + s) < 0; omega
    obtain ⟨h1, h2, h3⟩ := hpl p (by omega)
    have hpr := m_plain_r ht h2
    refine w_ix (2 + p) (by omega) (by omega) ?_
    refine w_if (by omega) (fun c2 => ?_) (fun c2 => ?_)
    · have c2 : m_mm h 25 3 p = 0 := c2
      exact q_ok _ (by unfold m_cut; rw [if_neg c', hp', if_pos c2])
    · have c2 : ¬ m_mm h 25 3 p = 0 := c2
      have ecut : m_cut (m_mm h 25) s = m_by (h 25 0 (29 + s)) (h 25 0 (7 + s)) (h 25 0 (23 + p)) (m_edge (m_mm h 25) p) (m_rest (m_mm h 25)) := by
        unfold m_cut; rw [if_neg c', hp', if_neg c2]; rfl
      have h108 : ∀ x y z : Int, x = m_plain (h 25 0 (7 + s)) (h 25 0 (23 + p)) → y = m_old (h 25 0 (7 + s)) (h 25 0 (23 + p)) → z = m_green (h 25 0 (7 + s)) (h 25 0 (23 + p)) (m_edge (m_mm h 25) p) → nv_V M_X6_cuts 108 [(0, vr 25 0), (1, vi s), (2, vi (h 25 0 (12 + s))), (3, vi (h 25 0 (23 + p))), (4, vi x), (5, vi y), (6, vi z)] [] h Q := by
        intro x y z hx hy hz
        have hz0 : 0 ≤ z ∧ z ≤ 18 := by rw [hz]; exact m_green_r ht h2
        refine nv_go ok_X6_cuts [] 60 ?_
        refine w_ix (29 + s) (by omega) (by omega) ?_
        refine And.intro (by omega) (And.intro (fun c => ?_) (And.intro (fun c => ?_) (And.intro (fun c => ?_) (And.intro (fun c => ?_) (And.intro (fun c => ?_) trivial)))))
        · have c : h 25 0 (29 + s) < 0 ∨ (0 : Int) + 4 ≤ h 25 0 (29 + s) := c
          refine w_ic (by omega) (by omega) (fun c3 => ?_) (fun c3 => ?_)
          · have c3 : z = 1 := c3
            exact q_ok _ (by rw [ecut]; unfold m_by; rw [if_neg (by omega), if_neg (by omega), if_neg (by omega), if_pos (by omega), ← hz, if_pos c3])
          · have c3 : ¬ z = 1 := c3
            refine w_dv (by omega) (by omega) ?_
            exact q_ok _ (by rw [ecut]; unfold m_by; rw [if_neg (by omega), if_neg (by omega), if_neg (by omega), if_pos (by omega), ← hz, if_neg c3])
        · exact q_ok _ (by rw [ecut, hx]; unfold m_by; rw [if_neg (by omega), if_neg (by omega), if_neg (by omega), if_neg (by omega)])
        · exact q_ok _ (by rw [ecut, hy]; unfold m_by; rw [if_pos (by omega)])
        · exact q_ok _ (by rw [ecut, hz]; unfold m_by; rw [if_neg (by omega), if_pos (by omega)])
        · refine w_ix 0 (by omega) (by omega) ?_
          refine w_dv (by omega) (by omega) ?_
          refine w_if (by omega) (fun c3 => ?_) (fun c3 => ?_)
          · have c3 : m_mm h 25 0 2 % 4 = 0 := c3
            exact q_ok _ (by rw [ecut]; unfold m_by m_rest; rw [if_neg (by omega), if_neg (by omega), if_pos (by omega), decide_eq_true c3]; rfl)
          · have c3 : ¬ m_mm h 25 0 2 % 4 = 0 := c3
            exact q_ok _ (by rw [ecut, hy]; unfold m_by m_rest; rw [if_neg (by omega), if_neg (by omega), if_pos (by omega), decide_eq_false c3]; rfl)
      have h73 : ∀ x y : Int, x = m_plain (h 25 0 (7 + s)) (h 25 0 (23 + p)) → y = m_old (h 25 0 (7 + s)) (h 25 0 (23 + p)) → nv_V M_X6_cuts 73 [(0, vr 25 0), (1, vi s), (2, vi (h 25 0 (12 + s))), (3, vi (h 25 0 (23 + p))), (4, vi x), (5, vi y)] [] h Q := by
        intro x y hx hy
        refine nv_go ok_X6_cuts [108] 60 ?_
        refine w_ix (2 + p) (by omega) (by omega) ?_
        refine w_ix (18 + p) (by omega) (by omega) ?_
        refine w_ic (by omega) (by omega) (fun c3 => ?_) (fun c3 => ?_)
        · have c3 : m_mm h 25 3 p = m_mm h 25 1 p := c3
          exact h108 _ _ _ hx hy (by rw [hx]; unfold m_green m_edge; rw [decide_eq_true c3]; rfl)
        · have c3 : ¬ m_mm h 25 3 p = m_mm h 25 1 p := c3
          refine w_ix (2 + p) (by omega) (by omega) ?_
          refine w_ic (by omega) (by omega) (fun c4 => ?_) (fun c4 => ?_)
          · have c4 : ¬ m_mm h 25 3 p < 10 := Int.not_lt.mpr c4
            exact h108 _ _ _ hx hy (by rw [hx]; unfold m_green m_edge; rw [decide_eq_false c3, decide_eq_false c4]; rfl)
          · have c4 : m_mm h 25 3 p < 10 := Int.not_le.mp c4
            exact h108 _ _ _ hx hy (by rw [hx]; unfold m_green m_edge; rw [decide_eq_true c4, Bool.or_true]; rfl)
      have h58 : ∀ x : Int, x = m_plain (h 25 0 (7 + s)) (h 25 0 (23 + p)) → nv_V M_X6_cuts 58 [(0, vr 25 0), (1, vi s), (2, vi (h 25 0 (12 + s))), (3, vi (h 25 0 (23 + p))), (4, vi x)] [] h Q := by
        intro x hx
        refine nv_go ok_X6_cuts [73] 60 ?_
        refine w_ic (by omega) (by omega) (fun c3 => ?_) (fun c3 => ?_)
        · have c3 : 3 ≤ h 25 0 (23 + p) := c3
          exact h73 _ _ hx (by rw [hx]; unfold m_old; rw [if_pos c3])
        · have c3 : ¬ 3 ≤ h 25 0 (23 + p) := c3
          exact h73 _ _ hx (by rw [hx]; unfold m_old; rw [if_neg c3])
      refine w_ix (23 + p) (by omega) (by omega) ?_
      refine w_ix (7 + s) (by omega) (by omega) ?_
      refine w_dv (by omega) (by omega) ?_
      refine w_ic (by omega) (by omega) (fun c3 => ?_) (fun c3 => ?_)
      · have c3 : h 25 0 (7 + s) ≤ h 25 0 (23 + p) / 2 := c3
        exact h58 _ (by unfold m_plain; rw [if_pos c3])
      · have c3 : ¬ h 25 0 (7 + s) ≤ h 25 0 (23 + p) / 2 := c3
        refine w_ix (7 + s) (by omega) (by omega) ?_
        refine w_dv (by omega) (by omega) ?_
        exact h58 _ (by unfold m_plain; rw [if_neg c3])
set_option maxRecDepth 100000 in
theorem r_fallenM_25 {h : nv_St} {P : Nat} (hP5 : P ≤ 5) (hP : h 25 0 17 = P) (hpl : ∀ p, p < P → 0 ≤ h 25 0 (2 + p) ∧ h 25 0 (2 + p) ≤ 99) : nv_R M_X6_fallen [vr 25 0] h (fun r h' => h' = h ∧ r = some (vi (m_set (fun p => h 25 0 (2 + p) = 0) P))) := by
  refine nv_R.of rfl rfl (Nat.le_of_ble_eq_true rfl) ?_
  have loop := m_down (n := P) (G := fun p => ∀ j x : Int, j = p → x = m_set (fun p => h 25 0 (2 + p) = 0) p → nv_V M_X6_fallen 4 [(0, vr 25 0), (1, vi x), (2, vi j)] [] h (fun r h' => h' = h ∧ r = some (vi (m_set (fun p => h 25 0 (2 + p) = 0) P)))) ?_ ?_
  · refine nv_go ok_X6_fallen [4] 10 ?_
    exact loop 0 (by omega) _ _ rfl rfl
  · intro j x hj hx
    refine nv_go ok_X6_fallen [4] 30 ?_
    refine w_ix 17 rfl (by omega) ?_
    refine w_ic (by omega) (by omega) (fun c => ?_) (fun c => ?_)
    · exact ⟨rfl, by rw [hx]⟩
    · exact absurd (by show h 25 0 17 ≤ j; omega) c
  · intro p hp ih j x hj hx
    have hl := m_set_lt (fun p => h 25 0 (2 + p) = 0) p
    have hp2 : (2 : Int) ^ p ≤ 2 ^ 5 := by
      have : p = 0 ∨ p = 1 ∨ p = 2 ∨ p = 3 ∨ p = 4 := by omega
      rcases this with rfl | rfl | rfl | rfl | rfl <;> decide
    have h3 := hpl p hp
    refine nv_go ok_X6_fallen [4] 30 ?_
    refine w_ix 17 rfl (by omega) ?_
    refine w_ic (by omega) (by omega) (fun c => ?_) (fun c => ?_)
    · exact absurd c (by show ¬ (h 25 0 17 ≤ j); omega)
    · refine w_ix (2 + p) (by omega) (by omega) ?_
      refine w_if (by omega) (fun c2 => ?_) (fun c2 => ?_)
      · refine w_ix p hj (by omega) ?_
        have e1 : h 25 0 (2 + p) = 0 := c2
        exact ih _ _ (by omega) (by rw [hx, nv_or_bit hl.1 hl.2 (by omega)]; simp [m_set, e1])
      · have e1 : ¬ h 25 0 (2 + p) = 0 := c2
        exact ih _ _ (by omega) (by rw [hx, nv_or_0 hl.1 (by omega)]; simp [m_set, e1])
set_option maxRecDepth 100000 in
theorem r_isAll_25 {h : nv_St} {P : Nat} (hP5 : P ≤ 5) (hP : h 25 0 17 = P) (hpl : ∀ p, p < P → 0 ≤ h 25 0 (2 + p) ∧ h 25 0 (2 + p) ≤ 99) : nv_R M_X6_isAll [vr 25 0] h (fun r h' => h' = h ∧ r = some (vi (nv_b (decide (∀ p, p < P → h 25 0 (2 + p) = 0))))) := by
  have hl := m_set_lt (fun p => h 25 0 (2 + p) = 0) P
  have hp2 : (1 : Int) ≤ 2 ^ P ∧ (2 : Int) ^ P ≤ 32 := by
    have : P = 0 ∨ P = 1 ∨ P = 2 ∨ P = 3 ∨ P = 4 ∨ P = 5 := by omega
    rcases this with rfl | rfl | rfl | rfl | rfl | rfl <;> decide
  have hall := m_set_all (f := fun p => h 25 0 (2 + p) = 0) (n := P)
  refine nv_R.of rfl rfl (Nat.le_of_ble_eq_true rfl) ?_
  refine nv_go ok_X6_isAll [] 30 ?_
  refine w_call (r_fallenM_25 hP5 hP hpl) (fun v h' hv => ?_)
  obtain ⟨rfl, rfl⟩ := hv
  refine w_ix 17 rfl (by omega) ?_
  refine w_ix P hP (by omega) ?_
  refine w_ic (by omega) (by omega) (fun c => ?_) (fun c => ?_)
  · have c : m_set (fun p => h' 25 0 (2 + p) = 0) P = 1 * 2 ^ P - 1 := c
    exact And.intro (Or.inr rfl) ⟨rfl, by rw [decide_eq_true (hall.mp (by omega))]; rfl⟩
  · have c : ¬ m_set (fun p => h' 25 0 (2 + p) = 0) P = 1 * 2 ^ P - 1 := c
    exact And.intro (Or.inl rfl) ⟨rfl, by rw [decide_eq_false (fun q => c (by have := hall.mpr q; omega))]; rfl⟩
set_option maxRecDepth 100000 in
theorem r_leftOf_25 {h : nv_St} {P : Nat} (hP5 : P ≤ 5) (hP : h 25 0 17 = P) : nv_R M_X6_leftOf [vr 25 0] h (fun r h' => h' = h ∧ r = some (vi (m_sum (fun p => h 25 0 (2 + p)) P))) := by
  refine nv_R.of rfl rfl (Nat.le_of_ble_eq_true rfl) ?_
  have loop := m_down (n := P) (G := fun p => ∀ j x : Int, j = p → x = m_sum (fun p => h 25 0 (2 + p)) p → nv_V M_X6_leftOf 4 [(0, vr 25 0), (1, vi x), (2, vi j)] [] h (fun r h' => h' = h ∧ r = some (vi (m_sum (fun p => h 25 0 (2 + p)) P)))) ?_ ?_
  · refine nv_go ok_X6_leftOf [4] 10 ?_
    exact loop 0 (by omega) _ _ rfl rfl
  · intro j x hj hx
    refine nv_go ok_X6_leftOf [4] 30 ?_
    refine w_ix 17 rfl (by omega) ?_
    refine w_ic (by omega) (by omega) (fun c => ?_) (fun c => ?_)
    · exact ⟨rfl, by rw [hx]⟩
    · exact absurd (by show h 25 0 17 ≤ j; omega) c
  · intro p hp ih j x hj hx
    refine nv_go ok_X6_leftOf [4] 30 ?_
    refine w_ix 17 rfl (by omega) ?_
    refine w_ic (by omega) (by omega) (fun c => ?_) (fun c => ?_)
    · exact absurd c (by show ¬ (h 25 0 17 ≤ j); omega)
    · refine w_ix (2 + p) (by omega) (by omega) ?_
      exact ih _ _ (by omega) (by rw [hx]; rfl)
set_option maxRecDepth 100000 in
theorem r_thickestOf_25 {h : nv_St} {P : Nat} (hP5 : P ≤ 5) (hP1 : 1 ≤ P) (hP : h 25 0 17 = P) (hpl : ∀ p, p < P → 0 ≤ h 25 0 (2 + p) ∧ h 25 0 (2 + p) ≤ 99) : nv_R M_X6_thickestOf [vr 25 0] h (fun r h' => h' = h ∧ r = some (vi (m_th (fun p => h 25 0 (2 + p)) P))) := by
  refine nv_R.of rfl rfl (Nat.le_of_ble_eq_true rfl) ?_
  have loop := m_down (n := P) (G := fun p => ∀ j x : Int, 1 ≤ p → j = p → x = m_th (fun p => h 25 0 (2 + p)) p → nv_V M_X6_thickestOf 4 [(0, vr 25 0), (1, vi x), (2, vi j)] [] h (fun r h' => h' = h ∧ r = some (vi (m_th (fun p => h 25 0 (2 + p)) P)))) ?_ ?_
  · refine nv_go ok_X6_thickestOf [4] 10 ?_
    exact loop 1 (by omega) _ _ (by omega) rfl (by simp [m_th])
  · intro j x h1 hj hx
    refine nv_go ok_X6_thickestOf [4] 30 ?_
    refine w_ix 17 rfl (by omega) ?_
    refine w_ic (by omega) (by omega) (fun c => ?_) (fun c => ?_)
    · exact ⟨rfl, by rw [hx]⟩
    · exact absurd (by show h 25 0 17 ≤ j; omega) c
  · intro p hp ih j x h1 hj hx
    have hth := m_th_lt (fun p => h 25 0 (2 + p)) p
    have g1 := hpl p hp
    have g2 := hpl (m_th (fun p => h 25 0 (2 + p)) p) (by omega)
    refine nv_go ok_X6_thickestOf [4] 30 ?_
    refine w_ix 17 rfl (by omega) ?_
    refine w_ic (by omega) (by omega) (fun c => ?_) (fun c => ?_)
    · exact absurd c (by show ¬ (h 25 0 17 ≤ j); omega)
    · refine w_ix (2 + p) (by omega) (by omega) ?_
      refine w_ix (2 + m_th (fun p => h 25 0 (2 + p)) p) (by omega) (by omega) ?_
      refine w_ic (by omega) (by omega) (fun c2 => ?_) (fun c2 => ?_)
      · have c2 : h 25 0 (2 + p) ≤ h 25 0 (2 + m_th (fun p => h 25 0 (2 + p)) p) := c2
        exact ih _ _ (by omega) (by omega) (by rw [hx]; conv => rhs; unfold m_th; rw [if_neg (by omega)])
      · have c2 : ¬ h 25 0 (2 + p) ≤ h 25 0 (2 + m_th (fun p => h 25 0 (2 + p)) p) := c2
        exact ih _ _ (by omega) (by omega) (by rw [hj]; conv => rhs; unfold m_th; rw [if_pos (by omega)])
end
section
/-! ===== the reference's hour ===== -/
theorem nv_V.take {M : nv_MD} {pc : Nat} {lv : nv_LV} {stk : List nv_AV} {h : nv_St} {Q : nv_PT} (n : Nat) (k : nv_V M pc (lv.take n) stk h Q) : nv_V M pc lv stk h Q := by
  intro X p l e s m args below meth c H locs ls C hP hD hS hl ho hk
  refine k X p l e s m args below meth c H locs ls C hP hD hS ⟨hl.1, hl.2.1, fun q hq => hl.2.2 q ?_⟩ (fun q hq => ho q (List.mem_of_mem_take hq)) hk
  obtain ⟨y, hy, rfl⟩ := List.mem_map.mp hq
  exact List.mem_map.mpr ⟨y, List.mem_of_mem_take hy, rfl⟩
theorem m_mm_ext {h h' : nv_St} {c : Nat} (e : h' c 0 = h c 0) : m_mm h' c = m_mm h c := by
  funext t j
  unfold m_mm
  rw [e]
def m_hc (hop : Int) (N : m_NN) (s : Nat) : Int := if m_bit hop s = true then 0 else m_cut N s
theorem m_hc_r {N : m_NN} {P S : Nat} {B : Int} (hN : m_ok N P S B) (hop : Int) {s : Nat} (hs : s < S) : (0 ≤ m_hc hop N s ∧ m_hc hop N s ≤ 18) ∧ (0 < m_hc hop N s → 0 ≤ N 6 s ∧ N 6 s < P) := by
  have := m_cut_r hN hs
  unfold m_hc
  split
  · exact ⟨by omega, fun h => absurd h (by omega)⟩
  · exact this
theorem m_bit_0 (s : Nat) : m_bit 0 s = false := by simp [m_bit]
theorem m_hc_0 (N : m_NN) : m_hc 0 N = m_cut N := by
  funext s
  unfold m_hc
  rw [m_bit_0]
  rfl
set_option maxHeartbeats 8000000 in
set_option maxRecDepth 100000 in
theorem r_hourIn_24 {h : nv_St} {P S : Nat} {B : Int} (hN : m_ok (m_mm h 24) P S B) (hB : B < 1073741824) {hop : Int} (hh0 : 0 ≤ hop) (hh1 : hop < 2147483648) :
    nv_R M_X6_hourIn [vr 19 0, vr 24 0, vi hop] h (fun r h' => r = none ∧ m_eq P S (m_mm h' 24) (m_hourC (m_mm h 24) (m_hc hop (m_mm h 24))) ∧ (∀ k, 34 ≤ k → h' 24 0 k = h 24 0 k) ∧ m_frM 24 h h') := by
  generalize hQ : (fun (r : Option nv_AV) (h' : nv_St) => r = none ∧ m_eq P S (m_mm h' 24) (m_hourC (m_mm h 24) (m_hc hop (m_mm h 24))) ∧ (∀ k, 34 ≤ k → h' 24 0 k = h 24 0 k) ∧ m_frM 24 h h') = Q
  generalize hcc : m_hc hop (m_mm h 24) = cc at hQ
  have hcr : ∀ s, s < S → (0 ≤ cc s ∧ cc s ≤ 18) ∧ (0 < cc s → 0 ≤ h 24 0 (12 + s) ∧ h 24 0 (12 + s) < P) := fun s hs => by rw [← hcc]; exact m_hc_r hN hop hs
  have hmP := m_P_eq hN
  have hmS := m_S_eq hN
  obtain ⟨hP5, hS5, hP, hS, hH, hDr, hpl, hsw⟩ := hN.m
  have hlr : ∀ n, n ≤ S → ∀ p, p < P → 0 ≤ m_lf (m_mm h 24) cc n p ∧ m_lf (m_mm h 24) cc n p ≤ h 24 0 (2 + p) := fun n hn => m_lf_r (N := m_mm h 24) (P := P) (c := cc) n (fun s hs h0 => (hcr s (by omega)).2 h0) (fun p hp => (hpl p hp).2.2.1)
  have hLr : ∀ p, p < P → 0 ≤ m_lf (m_mm h 24) cc S p ∧ m_lf (m_mm h 24) cc S p ≤ 99 := fun p hp => by have := hlr S (Nat.le_refl _) p hp; have := (hpl p hp).2.2; omega
  have hmo := m_most_r (m_lf (m_mm h 24) cc S) P
  have loop3 : ∀ h2 : nv_St, m_frM 24 h h2 → (∀ k, k < 2 ∨ 12 ≤ k → h2 24 0 k = h 24 0 k) → (∀ q, q < P → h2 24 0 (2 + q) = m_lf (m_mm h 24) cc S q) → (∀ s, s < S → h2 24 0 (7 + s) = if h 24 0 0 % 3 = 2 ∧ 0 < cc s ∧ 0 < h 24 0 (7 + s) then h 24 0 (7 + s) - 1 else h 24 0 (7 + s)) →
      ∀ i, i ≤ S → ∀ (j : Int) (h1 : nv_St), j = i → m_frM 24 h h1 → (∀ k, ¬ (12 ≤ k ∧ k < 17) → h1 24 0 k = h2 24 0 k) → (∀ s, s < i → h1 24 0 (12 + s) = m_go (fun s => h 24 0 (12 + s)) (m_lf (m_mm h 24) cc S) P s) → (∀ s, i ≤ s → s < 5 → h1 24 0 (12 + s) = h 24 0 (12 + s)) → nv_V M_X6_hourIn 151 [(0, vr 19 0), (1, vr 24 0), (2, vi hop), (3, vi j)] [] h1 Q := by
    intro h2 hf2 hA2 hL2 hT2
    refine m_down ?_ ?_
    · intro j h1 hj hf1 hA hs1 hs2
      have e28 : h1 24 0 28 = S := by rw [hA 28 (by omega), hA2 28 (by omega)]; exact hS
      have e0 : h1 24 0 0 = h 24 0 0 := by rw [hA 0 (by omega), hA2 0 (by omega)]
      refine nv_go ok_X6_hourIn [151] 60 ?_
      refine w_ix 28 rfl (by omega) ?_
      refine w_ic (by omega) (by omega) (fun c => ?_) (fun c => ?_)
      · refine w_ix 0 rfl (by omega) ?_
        refine w_ix 0 rfl (by omega) ?_
        show Q none (nv_up h1 24 0 0 (h1 24 0 0 + 1))
        rw [← hQ]
        have un : ∀ k, k ≠ 0 → nv_up h1 24 0 0 (h1 24 0 0 + 1) 24 0 k = h1 24 0 k := fun k hk => by simp [nv_up, hk]
        refine ⟨rfl, ⟨fun k hk => ?_, fun p hp => ⟨?_, ?_, ?_⟩, fun s hs => ⟨?_, ?_, ?_⟩⟩, fun k hk => ?_, fun t i hn => ?_⟩
        · have : k = 0 ∨ k = 1 ∨ k = 2 ∨ k = 3 := by omega
          rcases this with rfl | rfl | rfl | rfl
          · show nv_up h1 24 0 0 (h1 24 0 0 + 1) 24 0 17 = h 24 0 17
            rw [un 17 (by omega), hA 17 (by omega), hA2 17 (by omega)]
          · show nv_up h1 24 0 0 (h1 24 0 0 + 1) 24 0 28 = h 24 0 28
            rw [un 28 (by omega), hA 28 (by omega), hA2 28 (by omega)]
          · show nv_up h1 24 0 0 (h1 24 0 0 + 1) 24 0 0 = h 24 0 0 + 1
            rw [nv_up_same, e0]
          · show nv_up h1 24 0 0 (h1 24 0 0 + 1) 24 0 1 = h 24 0 1
            rw [un 1 (by omega), hA 1 (by omega), hA2 1 (by omega)]
        · show nv_up h1 24 0 0 (h1 24 0 0 + 1) 24 0 (18 + p) = h 24 0 (18 + p)
          rw [un _ (by omega), hA _ (by omega), hA2 _ (by omega)]
        · show nv_up h1 24 0 0 (h1 24 0 0 + 1) 24 0 (23 + p) = h 24 0 (23 + p)
          rw [un _ (by omega), hA _ (by omega), hA2 _ (by omega)]
        · show nv_up h1 24 0 0 (h1 24 0 0 + 1) 24 0 (2 + p) = m_lf (m_mm h 24) cc (m_S (m_mm h 24)) p
          rw [un _ (by omega), hA _ (by omega), hL2 p hp, hmS]
        · show nv_up h1 24 0 0 (h1 24 0 0 + 1) 24 0 (29 + s) = h 24 0 (29 + s)
          rw [un _ (by omega), hA _ (by omega), hA2 _ (by omega)]
        · show nv_up h1 24 0 0 (h1 24 0 0 + 1) 24 0 (7 + s) = _
          rw [un _ (by omega), hA _ (by omega), hT2 s hs]
          rfl
        · show nv_up h1 24 0 0 (h1 24 0 0 + 1) 24 0 (12 + s) = _
          rw [un _ (by omega), hs1 s hs]
          unfold m_go
          show _ = (if (0 ≤ h 24 0 (12 + s) ∧ m_lf (m_mm h 24) cc (m_S (m_mm h 24)) (h 24 0 (12 + s)).toNat = 0) ∧ ¬ m_most (m_lf (m_mm h 24) cc (m_S (m_mm h 24))) (m_P (m_mm h 24)) = -4 then m_most (m_lf (m_mm h 24) cc (m_S (m_mm h 24))) (m_P (m_mm h 24)) else h 24 0 (12 + s))
          rw [hmS, hmP]
        · rw [un k (by omega), hA k (by omega), hA2 k (by omega)]
        · rw [← hf1 t i hn]; funext k; unfold nv_up; rw [if_neg]; rintro ⟨rfl, rfl, -⟩; exact hn ⟨Or.inl rfl, rfl⟩
      · exact absurd (by show h1 24 0 28 ≤ j; omega) c
    · intro p hp ih j h1 hj hf1 hA hs1 hs2
      have e28 : h1 24 0 28 = S := by rw [hA 28 (by omega), hA2 28 (by omega)]; exact hS
      have e17 : h1 24 0 17 = P := by rw [hA 17 (by omega), hA2 17 (by omega)]; exact hP
      have eL : ∀ q, q < P → h1 24 0 (2 + q) = m_lf (m_mm h 24) cc S q := fun q hq => by rw [hA _ (by omega), hL2 q hq]
      have e12 := hs2 p (by omega) (by omega)
      have hsp := (hsw p hp).2.2
      have hpl1 : ∀ q, q < P → 0 ≤ h1 24 0 (2 + q) ∧ h1 24 0 (2 + q) ≤ 99 := fun q hq => by rw [eL q hq]; exact hLr q hq
      refine nv_go ok_X6_hourIn [151, 204] 60 ?_
      refine w_ix 28 rfl (by omega) ?_
      refine w_ic (by omega) (by omega) (fun c => ?_) (fun c => ?_)
      · exact absurd c (by show ¬ (h1 24 0 28 ≤ j); omega)
      · have h204 : ∀ x y : Int, y = m_go (fun s => h 24 0 (12 + s)) (m_lf (m_mm h 24) cc S) P p → nv_V M_X6_hourIn 204 [(0, vr 19 0), (1, vr 24 0), (2, vi hop), (3, vi j), (4, vi x)] [vi y, vi (12 + j), vr 24 0] h1 Q := by
          intro x y hy
          refine nv_go ok_X6_hourIn [151] 60 ?_
          refine w_ix (12 + p) (by omega) (by omega) ?_
          refine nv_V.take 4 (ih _ _ (by omega) (fun t i hn => ?_) (fun k hk => ?_) (fun s hs => ?_) (fun s hs hs5 => ?_))
          · rw [← hf1 t i hn]; funext k; unfold nv_up; rw [if_neg]; rintro ⟨rfl, rfl, -⟩; exact hn ⟨Or.inl rfl, rfl⟩
          · rw [← hA k hk]; rw [nv_up_ne (by omega)]
          · by_cases e : s = p
            · subst e; simp [nv_up, hy]
            · rw [← hs1 s (by omega)]; rw [nv_up_ne (by omega)]
          · rw [← hs2 s (by omega) hs5]; rw [nv_up_ne (by omega)]
        refine w_ix (12 + p) (by omega) (by omega) ?_
        refine w_ic (by omega) (by omega) (fun c2 => ?_) (fun c2 => ?_)
        · have c2 : h1 24 0 (12 + p) = -4 := c2
          exact h204 _ _ (by unfold m_go; rw [if_neg (fun q => by have z0 : 0 ≤ h 24 0 (12 + p) := q.1.1; omega)]; exact e12)
        · have c2 : ¬ h1 24 0 (12 + p) = -4 := c2
          obtain ⟨q, hq⟩ : ∃ q : Nat, h1 24 0 (12 + p) = q := ⟨(h1 24 0 (12 + p)).toNat, by omega⟩
          have hqP : q < P := by omega
          have hq' : (h 24 0 (12 + p)).toNat = q := by omega
          have hql := hpl1 q hqP
          refine w_ix (2 + q) (by omega) (by omega) ?_
          refine w_if (by omega) (fun c3 => ?_) (fun c3 => ?_)
          · have d3 : m_lf (m_mm h 24) cc S q = 0 := by rw [← eL q hqP]; exact c3
            refine w_call (r_isAll_24 hP5 e17 hpl1) (fun v h' hv => ?_)
            obtain ⟨rfl, rfl⟩ := hv
            have hiff : (∀ p, p < P → h' 24 0 (2 + p) = 0) ↔ m_most (m_lf (m_mm h 24) cc S) P = -4 := by
              rw [m_most_none]
              constructor
              · intro hz p hp; rw [← eL p hp, hz p hp]; decide
              · intro hz p hp; rw [eL p hp]; have := hz p hp; have := (hLr p hp).1; omega
            refine w_if (by have := nv_b01 (decide (∀ p, p < P → h' 24 0 (2 + p) = 0)); omega) (fun c4 => ?_) (fun c4 => ?_)
            · have d4 : ¬ m_most (m_lf (m_mm h 24) cc S) P = -4 := by
                intro hz
                have : nv_b (decide (∀ p, p < P → h' 24 0 (2 + p) = 0)) = 0 := c4
                rw [decide_eq_true (hiff.mpr hz)] at this
                exact absurd this (by decide)
              refine w_call (r_thickestOf_24 hP5 (by omega) e17 hpl1) (fun v h' hv => ?_)
              obtain ⟨rfl, rfl⟩ := hv
              refine h204 _ _ ?_
              unfold m_go
              show _ = (if (0 ≤ h 24 0 (12 + p) ∧ m_lf (m_mm h 24) cc S (h 24 0 (12 + p)).toNat = 0) ∧ _ then _ else _)
              rw [if_pos ⟨⟨by omega, by rw [hq']; exact d3⟩, d4⟩]
              have e1 : m_most (fun p => h' 24 0 (2 + p)) P = m_most (m_lf (m_mm h 24) cc S) P := m_most_eq (fun p hp => eL p hp)
              rcases m_th_most (f := fun p => h' 24 0 (2 + p)) (n := P) (fun p hp => (hpl1 p hp).1) with hz | hz
              · exact absurd (by rw [← e1]; exact hz.1) d4
              · rw [← e1, hz]
            · have d4 : m_most (m_lf (m_mm h 24) cc S) P = -4 := by
                have c5 : ¬ nv_b (decide (∀ p, p < P → h' 24 0 (2 + p) = 0)) = 0 := c4
                refine hiff.mp ?_
                by_cases hz : ∀ p, p < P → h' 24 0 (2 + p) = 0
                · exact hz
                · rw [decide_eq_false hz] at c5; exact absurd rfl c5
              exact h204 _ _ (by unfold m_go; rw [if_neg (fun q => q.2 d4)]; exact e12)
          · have c3 : ¬ h1 24 0 (2 + q) = 0 := c3
            exact h204 _ _ (by
              unfold m_go
              show _ = (if (0 ≤ h 24 0 (12 + p) ∧ m_lf (m_mm h 24) cc S (h 24 0 (12 + p)).toNat = 0) ∧ _ then _ else _)
              rw [if_neg (fun z => c3 (by rw [eL q hqP, ← hq']; exact z.1.2))]; exact e12)
  have loop2 := m_down (n := S) (G := fun p => ∀ (j : Int) (h1 : nv_St), j = p → m_frM 24 h h1 → (∀ s, s < S → h1 28 0 s = cc s) → (∀ k, k < 2 ∨ 12 ≤ k → h1 24 0 k = h 24 0 k) → (∀ q, q < P → h1 24 0 (2 + q) = m_lf (m_mm h 24) cc p q) → (∀ s, s < p → h1 24 0 (7 + s) = if h 24 0 0 % 3 = 2 ∧ 0 < cc s ∧ 0 < h 24 0 (7 + s) then h 24 0 (7 + s) - 1 else h 24 0 (7 + s)) → (∀ s, p ≤ s → s < 5 → h1 24 0 (7 + s) = h 24 0 (7 + s)) → nv_V M_X6_hourIn 41 [(0, vr 19 0), (1, vr 24 0), (2, vi hop), (3, vi j)] [] h1 Q) ?_ ?_
  rotate_left
  · intro j h1 hj hf1 h28 hA hL hT hT2
    have e28 : h1 24 0 28 = S := by rw [hA 28 (by omega)]; exact hS
    refine nv_go ok_X6_hourIn [41, 151] 60 ?_
    refine w_ix 28 rfl (by omega) ?_
    refine w_ic (by omega) (by omega) (fun c => ?_) (fun c => ?_)
    · exact loop3 h1 hf1 hA hL hT 0 (by omega) _ _ rfl hf1 (fun _ _ => rfl) (fun s hs => absurd hs (by omega)) (fun s _ hs => hA _ (by omega))
    · exact absurd (by show h1 24 0 28 ≤ j; omega) c
  · intro p hp ih j h1 hj hf1 h28 hA hL hT hT2
    have e28 : h1 24 0 28 = S := by rw [hA 28 (by omega)]; exact hS
    have e0 : h1 24 0 0 = h 24 0 0 := hA 0 (by omega)
    have e12 : h1 24 0 (12 + p) = h 24 0 (12 + p) := hA _ (by omega)
    have ec := h28 p hp
    have hc := hcr p hp
    obtain ⟨g1, g2, g3⟩ := hsw p hp
    refine nv_go ok_X6_hourIn [41, 102] 60 ?_
    refine w_ix 28 rfl (by omega) ?_
    refine w_ic (by omega) (by omega) (fun c => ?_) (fun c => ?_)
    · exact absurd c (by show ¬ (h1 24 0 28 ≤ j); omega)
    · have h102 : ∀ (x : Int) (h2 : nv_St), m_frM 24 h h2 → (∀ s, s < S → h2 28 0 s = cc s) → (∀ k, k < 2 ∨ 7 ≤ k → h2 24 0 k = h1 24 0 k) → (∀ q, q < P → h2 24 0 (2 + q) = m_lf (m_mm h 24) cc (p + 1) q) → nv_V M_X6_hourIn 102 [(0, vr 19 0), (1, vr 24 0), (2, vi hop), (3, vi j), (4, vi x)] [] h2 Q := by
        intro x h2 hf2 h282 hA2 hL2
        have e7 : h2 24 0 (7 + p) = h 24 0 (7 + p) := by rw [hA2 _ (by omega), hT2 p (by omega) (by omega)]
        have e00 : h2 24 0 0 = h 24 0 0 := by rw [hA2 0 (by omega), e0]
        have ec2 := h282 p hp
        have h141 : ∀ d : Int, d = (if h 24 0 0 % 3 = 2 ∧ 0 < cc p ∧ 0 < h 24 0 (7 + p) then 1 else 0) → nv_V M_X6_hourIn 141 [(0, vr 19 0), (1, vr 24 0), (2, vi hop), (3, vi j), (4, vi x)] [vi d, vi (h2 24 0 (7 + p)), vi (7 + j), vr 24 0] h2 Q := by
          intro d hd
          refine nv_go ok_X6_hourIn [41] 60 ?_
          refine w_ix (7 + p) (by omega) (by omega) ?_
          refine nv_V.take 4 (ih _ _ (by omega) (fun t i hn => ?_) (fun s hs => ?_) (fun k hk => ?_) (fun q hq => ?_) (fun s hs => ?_) (fun s hs hs5 => ?_))
          · rw [← hf2 t i hn]; funext k; unfold nv_up; rw [if_neg]; rintro ⟨rfl, rfl, -⟩; exact hn ⟨Or.inl rfl, rfl⟩
          · rw [← h282 s hs]; simp [nv_up]
          · rw [← hA k hk, ← hA2 k (by omega)]; rw [nv_up_ne (by omega)]
          · rw [← hL2 q hq]; rw [nv_up_ne (by omega)]
          · by_cases e : s = p
            · subst e
              simp only [nv_up, and_self, if_true]
              rw [e7, hd]
              split <;> omega
            · rw [← hT s (by omega), ← hA2 _ (by omega)]; rw [nv_up_ne (by omega)]
          · rw [← hT2 s (by omega) hs5, ← hA2 _ (by omega)]; rw [nv_up_ne (by omega)]
        refine nv_go ok_X6_hourIn [141] 60 ?_
        refine w_ix (7 + p) (by omega) (by omega) ?_
        refine w_ix 0 rfl (by omega) ?_
        refine w_dv (by omega) (by omega) ?_
        refine w_ic (by omega) (by omega) (fun c2 => ?_) (fun c2 => ?_)
        · have c2 : h 24 0 0 % 3 = 2 := by rw [← e00]; exact c2
          refine w_ix p hj (by omega) ?_
          refine w_if (by omega) (fun c3 => ?_) (fun c3 => ?_)
          · have c3 : h2 28 0 p ≤ 0 := c3
            exact h141 _ (by rw [if_neg (by omega)])
          · have c3 : ¬ h2 28 0 p ≤ 0 := c3
            refine w_ix (7 + p) (by omega) (by omega) ?_
            refine w_if (by omega) (fun c4 => ?_) (fun c4 => ?_)
            · have c4 : h2 24 0 (7 + p) ≤ 0 := c4
              exact h141 _ (by rw [if_neg (by omega)])
            · have c4 : ¬ h2 24 0 (7 + p) ≤ 0 := c4
              exact h141 _ (by rw [if_pos (by omega)])
        · have c2 : ¬ h 24 0 0 % 3 = 2 := by rw [← e00]; exact c2
          exact h141 _ (by rw [if_neg (fun q => c2 q.1)])
      refine w_ix (12 + p) (by omega) (by omega) ?_
      refine w_ic (by omega) (by omega) (fun c2 => ?_) (fun c2 => ?_)
      · have c2 : h1 24 0 (12 + p) = -4 := c2
        refine h102 _ h1 hf1 h28 (fun _ _ => rfl) (fun q hq => ?_)
        rw [hL q hq]
        conv => rhs; unfold m_lf; rw [if_neg (fun z => by have := hc.2 z; omega)]
      · have c2 : ¬ h1 24 0 (12 + p) = -4 := c2
        obtain ⟨q, hq⟩ : ∃ q : Nat, h1 24 0 (12 + p) = q := ⟨(h1 24 0 (12 + p)).toNat, by omega⟩
        have hqP : q < P := by omega
        have hq' : (m_mm h 24 6 p).toNat = q := by show (h 24 0 (12 + p)).toNat = q; omega
        have hl1 := hlr p (by omega) q hqP
        have hl9 := (hpl q hqP).2.2
        have eq1 := hL q hqP
        have fin : ∀ y : Int, y = max 0 (m_lf (m_mm h 24) cc p q - cc p) → nv_V M_X6_hourIn 102 [(0, vr 19 0), (1, vr 24 0), (2, vi hop), (3, vi j), (4, vi (h1 24 0 (12 + p)))] [] (nv_up h1 24 0 (2 + q) y) Q := by
          intro y hy
          refine h102 _ _ (fun t i hn => ?_) (fun s hs => ?_) (fun k hk => ?_) (fun q2 hq2 => ?_)
          · rw [← hf1 t i hn]; funext k; unfold nv_up; rw [if_neg]; rintro ⟨rfl, rfl, -⟩; exact hn ⟨Or.inl rfl, rfl⟩
          · rw [← h28 s hs]; simp [nv_up]
          · rw [nv_up_ne (by omega)]
          · conv => rhs; unfold m_lf; rw [hq']
            by_cases e : q2 = q
            · subst e
              simp only [nv_up, and_self, if_true]
              by_cases hz : 0 < cc p
              · rw [if_pos hz]; unfold m_up; rw [if_pos rfl]; exact hy
              · rw [if_neg hz, hy]; omega
            · have e2 : nv_up h1 24 0 (2 + q) y 24 0 (2 + q2) = h1 24 0 (2 + q2) := by rw [nv_up_ne (by omega)]
              rw [e2, hL q2 hq2]
              split
              · unfold m_up; rw [if_neg e]
              · rfl
        refine w_ix (2 + q) (by omega) (by omega) ?_
        refine w_ix p hj (by omega) ?_
        refine w_ic (by omega) (by omega) (fun c3 => ?_) (fun c3 => ?_)
        · have c3 : h1 24 0 (2 + q) ≤ h1 28 0 p := c3
          refine w_ix (2 + q) (by omega) (by omega) ?_
          exact fin _ (by omega)
        · have c3 : ¬ h1 24 0 (2 + q) ≤ h1 28 0 p := c3
          refine w_ix (2 + q) (by omega) (by omega) ?_
          refine w_ix p hj (by omega) ?_
          refine w_ix (2 + q) (by omega) (by omega) ?_
          exact fin _ (by omega)
  have loop1 := m_down (n := S) (G := fun p => ∀ (j : Int) (h1 : nv_St), j = p → (∀ t i, ¬ (t = 28 ∧ i = 0) → h1 t i = h t i) → (∀ s, s < p → h1 28 0 s = cc s) → nv_V M_X6_hourIn 2 [(0, vr 19 0), (1, vr 24 0), (2, vi hop), (3, vi j)] [] h1 Q) ?_ ?_
  rotate_left
  · intro j h1 hj hI h28
    have eC : h1 24 0 = h 24 0 := hI 24 0 (by omega)
    have e28 : h1 24 0 28 = S := by rw [eC]; exact hS
    refine nv_go ok_X6_hourIn [2, 41] 60 ?_
    refine w_ix 28 rfl (by omega) ?_
    refine w_ic (by omega) (by omega) (fun c => ?_) (fun c => ?_)
    · exact loop2 0 (by omega) _ _ rfl (fun t i hn => hI t i (by rintro ⟨rfl, rfl⟩; exact hn ⟨Or.inr rfl, rfl⟩)) h28 (fun k _ => by rw [eC]) (fun q _ => by rw [eC]; rfl) (fun s hs => absurd hs (by omega)) (fun s _ _ => by rw [eC])
    · exact absurd (by show h1 24 0 28 ≤ j; omega) c
  · intro p hp ih j h1 hj hI h28
    subst hj
    have eC : h1 24 0 = h 24 0 := hI 24 0 (by omega)
    have en : m_mm h1 24 = m_mm h 24 := m_mm_ext eC
    have e28 : h1 24 0 28 = S := by rw [eC]; exact hS
    have fin : ∀ y : Int, y = cc p → nv_V M_X6_hourIn 2 [(0, vr 19 0), (1, vr 24 0), (2, vi hop), (3, vi ((p : Int) + 1))] [] (nv_up h1 28 0 p y) Q := by
      intro y hy
      refine ih _ _ (by omega) (fun t i hn => ?_) (fun s hs => ?_)
      · rw [← hI t i hn]; funext k; unfold nv_up; rw [if_neg]; rintro ⟨rfl, rfl, -⟩; exact hn ⟨rfl, rfl⟩
      · by_cases hs2 : s = p
        · subst hs2; simp [nv_up, hy]
        · rw [← h28 s (by omega)]; simp [nv_up, hs2]
    refine nv_go ok_X6_hourIn [2] 60 ?_
    refine w_ix 28 rfl (by omega) ?_
    refine w_ic (by omega) (by omega) (fun c => ?_) (fun c => ?_)
    · exact absurd c (by show ¬ (h1 24 0 28 ≤ (p : Int)); omega)
    · refine w_call (r_has hh0 hh1 (by omega)) (fun v h' hv => ?_)
      obtain ⟨rfl, rfl⟩ := hv
      refine w_if (by have := nv_b01 (m_bit hop p); omega) (fun c2 => ?_) (fun c2 => ?_)
      · have c2 : m_bit hop p = false := by
          have c3 : nv_b (m_bit hop p) = 0 := c2
          revert c3; cases m_bit hop p <;> simp [nv_b]
        refine w_call (r_cuts_24 (P := P) (S := S) (B := B) (by rw [en]; exact hN) hB hp) (fun v h' hv => ?_)
        obtain ⟨rfl, rfl⟩ := hv
        refine w_ix p rfl (by omega) ?_
        exact fin _ (by rw [← hcc, en]; unfold m_hc; rw [c2]; rfl)
      · have c2 : m_bit hop p = true := by
          have c3 : ¬ nv_b (m_bit hop p) = 0 := c2
          revert c3; cases m_bit hop p <;> simp [nv_b]
        refine w_ix p rfl (by omega) ?_
        exact fin _ (by rw [← hcc]; unfold m_hc; rw [c2]; rfl)
  refine nv_R.of rfl rfl (Nat.le_of_ble_eq_true rfl) ?_
  refine nv_go ok_X6_hourIn [2] 20 ?_
  exact loop1 0 (by omega) _ _ rfl (fun _ _ _ => rfl) (fun s hs => absurd hs (by omega))
set_option maxHeartbeats 8000000 in
set_option maxRecDepth 100000 in
theorem r_hourIn_25 {h : nv_St} {P S : Nat} {B : Int} (hN : m_ok (m_mm h 25) P S B) (hB : B < 1073741824) {hop : Int} (hh0 : 0 ≤ hop) (hh1 : hop < 2147483648) :
    nv_R M_X6_hourIn [vr 19 0, vr 25 0, vi hop] h (fun r h' => r = none ∧ m_eq P S (m_mm h' 25) (m_hourC (m_mm h 25) (m_hc hop (m_mm h 25))) ∧ (∀ k, 34 ≤ k → h' 25 0 k = h 25 0 k) ∧ m_frM 25 h h') := by
  generalize hQ : (fun (r : Option nv_AV) (h' : nv_St) => r = none ∧ m_eq P S (m_mm h' 25) (m_hourC (m_mm h 25) (m_hc hop (m_mm h 25))) ∧ (∀ k, 34 ≤ k → h' 25 0 k = h 25 0 k) ∧ m_frM 25 h h') = Q
  generalize hcc : m_hc hop (m_mm h 25) = cc at hQ
  have hcr : ∀ s, s < S → (0 ≤ cc s ∧ cc s ≤ 18) ∧ (0 < cc s → 0 ≤ h 25 0 (12 + s) ∧ h 25 0 (12 + s) < P) := fun s hs => by rw [← hcc]; exact m_hc_r hN hop hs
  have hmP := m_P_eq hN
  have hmS := m_S_eq hN
  obtain ⟨hP5, hS5, hP, hS, hH, hDr, hpl, hsw⟩ := hN.m
  have hlr : ∀ n, n ≤ S → ∀ p, p < P → 0 ≤ m_lf (m_mm h 25) cc n p ∧ m_lf (m_mm h 25) cc n p ≤ h 25 0 (2 + p) := fun n hn => m_lf_r (N := m_mm h 25) (P := P) (c := cc) n (fun s hs h0 => (hcr s (by omega)).2 h0) (fun p hp => (hpl p hp).2.2.1)
  have hLr : ∀ p, p < P → 0 ≤ m_lf (m_mm h 25) cc S p ∧ m_lf (m_mm h 25) cc S p ≤ 99 := fun p hp => by have := hlr S (Nat.le_refl _) p hp; have := (hpl p hp).2.2; omega
  have hmo := m_most_r (m_lf (m_mm h 25) cc S) P
  have loop3 : ∀ h2 : nv_St, m_frM 25 h h2 → (∀ k, k < 2 ∨ 12 ≤ k → h2 25 0 k = h 25 0 k) → (∀ q, q < P → h2 25 0 (2 + q) = m_lf (m_mm h 25) cc S q) → (∀ s, s < S → h2 25 0 (7 + s) = if h 25 0 0 % 3 = 2 ∧ 0 < cc s ∧ 0 < h 25 0 (7 + s) then h 25 0 (7 + s) - 1 else h 25 0 (7 + s)) →
      ∀ i, i ≤ S → ∀ (j : Int) (h1 : nv_St), j = i → m_frM 25 h h1 → (∀ k, ¬ (12 ≤ k ∧ k < 17) → h1 25 0 k = h2 25 0 k) → (∀ s, s < i → h1 25 0 (12 + s) = m_go (fun s => h 25 0 (12 + s)) (m_lf (m_mm h 25) cc S) P s) → (∀ s, i ≤ s → s < 5 → h1 25 0 (12 + s) = h 25 0 (12 + s)) → nv_V M_X6_hourIn 151 [(0, vr 19 0), (1, vr 25 0), (2, vi hop), (3, vi j)] [] h1 Q := by
    intro h2 hf2 hA2 hL2 hT2
    refine m_down ?_ ?_
    · intro j h1 hj hf1 hA hs1 hs2
      have e28 : h1 25 0 28 = S := by rw [hA 28 (by omega), hA2 28 (by omega)]; exact hS
      have e0 : h1 25 0 0 = h 25 0 0 := by rw [hA 0 (by omega), hA2 0 (by omega)]
      refine nv_go ok_X6_hourIn [151] 60 ?_
      refine w_ix 28 rfl (by omega) ?_
      refine w_ic (by omega) (by omega) (fun c => ?_) (fun c => ?_)
      · refine w_ix 0 rfl (by omega) ?_
        refine w_ix 0 rfl (by omega) ?_
        show Q none (nv_up h1 25 0 0 (h1 25 0 0 + 1))
        rw [← hQ]
        have un : ∀ k, k ≠ 0 → nv_up h1 25 0 0 (h1 25 0 0 + 1) 25 0 k = h1 25 0 k := fun k hk => by simp [nv_up, hk]
        refine ⟨rfl, ⟨fun k hk => ?_, fun p hp => ⟨?_, ?_, ?_⟩, fun s hs => ⟨?_, ?_, ?_⟩⟩, fun k hk => ?_, fun t i hn => ?_⟩
        · have : k = 0 ∨ k = 1 ∨ k = 2 ∨ k = 3 := by omega
          rcases this with rfl | rfl | rfl | rfl
          · show nv_up h1 25 0 0 (h1 25 0 0 + 1) 25 0 17 = h 25 0 17
            rw [un 17 (by omega), hA 17 (by omega), hA2 17 (by omega)]
          · show nv_up h1 25 0 0 (h1 25 0 0 + 1) 25 0 28 = h 25 0 28
            rw [un 28 (by omega), hA 28 (by omega), hA2 28 (by omega)]
          · show nv_up h1 25 0 0 (h1 25 0 0 + 1) 25 0 0 = h 25 0 0 + 1
            rw [nv_up_same, e0]
          · show nv_up h1 25 0 0 (h1 25 0 0 + 1) 25 0 1 = h 25 0 1
            rw [un 1 (by omega), hA 1 (by omega), hA2 1 (by omega)]
        · show nv_up h1 25 0 0 (h1 25 0 0 + 1) 25 0 (18 + p) = h 25 0 (18 + p)
          rw [un _ (by omega), hA _ (by omega), hA2 _ (by omega)]
        · show nv_up h1 25 0 0 (h1 25 0 0 + 1) 25 0 (23 + p) = h 25 0 (23 + p)
          rw [un _ (by omega), hA _ (by omega), hA2 _ (by omega)]
        · show nv_up h1 25 0 0 (h1 25 0 0 + 1) 25 0 (2 + p) = m_lf (m_mm h 25) cc (m_S (m_mm h 25)) p
          rw [un _ (by omega), hA _ (by omega), hL2 p hp, hmS]
        · show nv_up h1 25 0 0 (h1 25 0 0 + 1) 25 0 (29 + s) = h 25 0 (29 + s)
          rw [un _ (by omega), hA _ (by omega), hA2 _ (by omega)]
        · show nv_up h1 25 0 0 (h1 25 0 0 + 1) 25 0 (7 + s) = _
          rw [un _ (by omega), hA _ (by omega), hT2 s hs]
          rfl
        · show nv_up h1 25 0 0 (h1 25 0 0 + 1) 25 0 (12 + s) = _
          rw [un _ (by omega), hs1 s hs]
          unfold m_go
          show _ = (if (0 ≤ h 25 0 (12 + s) ∧ m_lf (m_mm h 25) cc (m_S (m_mm h 25)) (h 25 0 (12 + s)).toNat = 0) ∧ ¬ m_most (m_lf (m_mm h 25) cc (m_S (m_mm h 25))) (m_P (m_mm h 25)) = -4 then m_most (m_lf (m_mm h 25) cc (m_S (m_mm h 25))) (m_P (m_mm h 25)) else h 25 0 (12 + s))
          rw [hmS, hmP]
        · rw [un k (by omega), hA k (by omega), hA2 k (by omega)]
        · rw [← hf1 t i hn]; funext k; unfold nv_up; rw [if_neg]; rintro ⟨rfl, rfl, -⟩; exact hn ⟨Or.inl rfl, rfl⟩
      · exact absurd (by show h1 25 0 28 ≤ j; omega) c
    · intro p hp ih j h1 hj hf1 hA hs1 hs2
      have e28 : h1 25 0 28 = S := by rw [hA 28 (by omega), hA2 28 (by omega)]; exact hS
      have e17 : h1 25 0 17 = P := by rw [hA 17 (by omega), hA2 17 (by omega)]; exact hP
      have eL : ∀ q, q < P → h1 25 0 (2 + q) = m_lf (m_mm h 25) cc S q := fun q hq => by rw [hA _ (by omega), hL2 q hq]
      have e12 := hs2 p (by omega) (by omega)
      have hsp := (hsw p hp).2.2
      have hpl1 : ∀ q, q < P → 0 ≤ h1 25 0 (2 + q) ∧ h1 25 0 (2 + q) ≤ 99 := fun q hq => by rw [eL q hq]; exact hLr q hq
      refine nv_go ok_X6_hourIn [151, 204] 60 ?_
      refine w_ix 28 rfl (by omega) ?_
      refine w_ic (by omega) (by omega) (fun c => ?_) (fun c => ?_)
      · exact absurd c (by show ¬ (h1 25 0 28 ≤ j); omega)
      · have h204 : ∀ x y : Int, y = m_go (fun s => h 25 0 (12 + s)) (m_lf (m_mm h 25) cc S) P p → nv_V M_X6_hourIn 204 [(0, vr 19 0), (1, vr 25 0), (2, vi hop), (3, vi j), (4, vi x)] [vi y, vi (12 + j), vr 25 0] h1 Q := by
          intro x y hy
          refine nv_go ok_X6_hourIn [151] 60 ?_
          refine w_ix (12 + p) (by omega) (by omega) ?_
          refine nv_V.take 4 (ih _ _ (by omega) (fun t i hn => ?_) (fun k hk => ?_) (fun s hs => ?_) (fun s hs hs5 => ?_))
          · rw [← hf1 t i hn]; funext k; unfold nv_up; rw [if_neg]; rintro ⟨rfl, rfl, -⟩; exact hn ⟨Or.inl rfl, rfl⟩
          · rw [← hA k hk]; rw [nv_up_ne (by omega)]
          · by_cases e : s = p
            · subst e; simp [nv_up, hy]
            · rw [← hs1 s (by omega)]; rw [nv_up_ne (by omega)]
          · rw [← hs2 s (by omega) hs5]; rw [nv_up_ne (by omega)]
        refine w_ix (12 + p) (by omega) (by omega) ?_
        refine w_ic (by omega) (by omega) (fun c2 => ?_) (fun c2 => ?_)
        · have c2 : h1 25 0 (12 + p) = -4 := c2
          exact h204 _ _ (by unfold m_go; rw [if_neg (fun q => by have z0 : 0 ≤ h 25 0 (12 + p) := q.1.1; omega)]; exact e12)
        · have c2 : ¬ h1 25 0 (12 + p) = -4 := c2
          obtain ⟨q, hq⟩ : ∃ q : Nat, h1 25 0 (12 + p) = q := ⟨(h1 25 0 (12 + p)).toNat, by omega⟩
          have hqP : q < P := by omega
          have hq' : (h 25 0 (12 + p)).toNat = q := by omega
          have hql := hpl1 q hqP
          refine w_ix (2 + q) (by omega) (by omega) ?_
          refine w_if (by omega) (fun c3 => ?_) (fun c3 => ?_)
          · have d3 : m_lf (m_mm h 25) cc S q = 0 := by rw [← eL q hqP]; exact c3
            refine w_call (r_isAll_25 hP5 e17 hpl1) (fun v h' hv => ?_)
            obtain ⟨rfl, rfl⟩ := hv
            have hiff : (∀ p, p < P → h' 25 0 (2 + p) = 0) ↔ m_most (m_lf (m_mm h 25) cc S) P = -4 := by
              rw [m_most_none]
              constructor
              · intro hz p hp; rw [← eL p hp, hz p hp]; decide
              · intro hz p hp; rw [eL p hp]; have := hz p hp; have := (hLr p hp).1; omega
            refine w_if (by have := nv_b01 (decide (∀ p, p < P → h' 25 0 (2 + p) = 0)); omega) (fun c4 => ?_) (fun c4 => ?_)
            · have d4 : ¬ m_most (m_lf (m_mm h 25) cc S) P = -4 := by
                intro hz
                have : nv_b (decide (∀ p, p < P → h' 25 0 (2 + p) = 0)) = 0 := c4
                rw [decide_eq_true (hiff.mpr hz)] at this
                exact absurd this (by decide)
              refine w_call (r_thickestOf_25 hP5 (by omega) e17 hpl1) (fun v h' hv => ?_)
              obtain ⟨rfl, rfl⟩ := hv
              refine h204 _ _ ?_
              unfold m_go
              show _ = (if (0 ≤ h 25 0 (12 + p) ∧ m_lf (m_mm h 25) cc S (h 25 0 (12 + p)).toNat = 0) ∧ _ then _ else _)
              rw [if_pos ⟨⟨by omega, by rw [hq']; exact d3⟩, d4⟩]
              have e1 : m_most (fun p => h' 25 0 (2 + p)) P = m_most (m_lf (m_mm h 25) cc S) P := m_most_eq (fun p hp => eL p hp)
              rcases m_th_most (f := fun p => h' 25 0 (2 + p)) (n := P) (fun p hp => (hpl1 p hp).1) with hz | hz
              · exact absurd (by rw [← e1]; exact hz.1) d4
              · rw [← e1, hz]
            · have d4 : m_most (m_lf (m_mm h 25) cc S) P = -4 := by
                have c5 : ¬ nv_b (decide (∀ p, p < P → h' 25 0 (2 + p) = 0)) = 0 := c4
                refine hiff.mp ?_
                by_cases hz : ∀ p, p < P → h' 25 0 (2 + p) = 0
                · exact hz
                · rw [decide_eq_false hz] at c5; exact absurd rfl c5
              exact h204 _ _ (by unfold m_go; rw [if_neg (fun q => q.2 d4)]; exact e12)
          · have c3 : ¬ h1 25 0 (2 + q) = 0 := c3
            exact h204 _ _ (by
              unfold m_go
              show _ = (if (0 ≤ h 25 0 (12 + p) ∧ m_lf (m_mm h 25) cc S (h 25 0 (12 + p)).toNat = 0) ∧ _ then _ else _)
              rw [if_neg (fun z => c3 (by rw [eL q hqP, ← hq']; exact z.1.2))]; exact e12)
  have loop2 := m_down (n := S) (G := fun p => ∀ (j : Int) (h1 : nv_St), j = p → m_frM 25 h h1 → (∀ s, s < S → h1 28 0 s = cc s) → (∀ k, k < 2 ∨ 12 ≤ k → h1 25 0 k = h 25 0 k) → (∀ q, q < P → h1 25 0 (2 + q) = m_lf (m_mm h 25) cc p q) → (∀ s, s < p → h1 25 0 (7 + s) = if h 25 0 0 % 3 = 2 ∧ 0 < cc s ∧ 0 < h 25 0 (7 + s) then h 25 0 (7 + s) - 1 else h 25 0 (7 + s)) → (∀ s, p ≤ s → s < 5 → h1 25 0 (7 + s) = h 25 0 (7 + s)) → nv_V M_X6_hourIn 41 [(0, vr 19 0), (1, vr 25 0), (2, vi hop), (3, vi j)] [] h1 Q) ?_ ?_
  rotate_left
  · intro j h1 hj hf1 h28 hA hL hT hT2
    have e28 : h1 25 0 28 = S := by rw [hA 28 (by omega)]; exact hS
    refine nv_go ok_X6_hourIn [41, 151] 60 ?_
    refine w_ix 28 rfl (by omega) ?_
    refine w_ic (by omega) (by omega) (fun c => ?_) (fun c => ?_)
    · exact loop3 h1 hf1 hA hL hT 0 (by omega) _ _ rfl hf1 (fun _ _ => rfl) (fun s hs => absurd hs (by omega)) (fun s _ hs => hA _ (by omega))
    · exact absurd (by show h1 25 0 28 ≤ j; omega) c
  · intro p hp ih j h1 hj hf1 h28 hA hL hT hT2
    have e28 : h1 25 0 28 = S := by rw [hA 28 (by omega)]; exact hS
    have e0 : h1 25 0 0 = h 25 0 0 := hA 0 (by omega)
    have e12 : h1 25 0 (12 + p) = h 25 0 (12 + p) := hA _ (by omega)
    have ec := h28 p hp
    have hc := hcr p hp
    obtain ⟨g1, g2, g3⟩ := hsw p hp
    refine nv_go ok_X6_hourIn [41, 102] 60 ?_
    refine w_ix 28 rfl (by omega) ?_
    refine w_ic (by omega) (by omega) (fun c => ?_) (fun c => ?_)
    · exact absurd c (by show ¬ (h1 25 0 28 ≤ j); omega)
    · have h102 : ∀ (x : Int) (h2 : nv_St), m_frM 25 h h2 → (∀ s, s < S → h2 28 0 s = cc s) → (∀ k, k < 2 ∨ 7 ≤ k → h2 25 0 k = h1 25 0 k) → (∀ q, q < P → h2 25 0 (2 + q) = m_lf (m_mm h 25) cc (p + 1) q) → nv_V M_X6_hourIn 102 [(0, vr 19 0), (1, vr 25 0), (2, vi hop), (3, vi j), (4, vi x)] [] h2 Q := by
        intro x h2 hf2 h282 hA2 hL2
        have e7 : h2 25 0 (7 + p) = h 25 0 (7 + p) := by rw [hA2 _ (by omega), hT2 p (by omega) (by omega)]
        have e00 : h2 25 0 0 = h 25 0 0 := by rw [hA2 0 (by omega), e0]
        have ec2 := h282 p hp
        have h141 : ∀ d : Int, d = (if h 25 0 0 % 3 = 2 ∧ 0 < cc p ∧ 0 < h 25 0 (7 + p) then 1 else 0) → nv_V M_X6_hourIn 141 [(0, vr 19 0), (1, vr 25 0), (2, vi hop), (3, vi j), (4, vi x)] [vi d, vi (h2 25 0 (7 + p)), vi (7 + j), vr 25 0] h2 Q := by
          intro d hd
          refine nv_go ok_X6_hourIn [41] 60 ?_
          refine w_ix (7 + p) (by omega) (by omega) ?_
          refine nv_V.take 4 (ih _ _ (by omega) (fun t i hn => ?_) (fun s hs => ?_) (fun k hk => ?_) (fun q hq => ?_) (fun s hs => ?_) (fun s hs hs5 => ?_))
          · rw [← hf2 t i hn]; funext k; unfold nv_up; rw [if_neg]; rintro ⟨rfl, rfl, -⟩; exact hn ⟨Or.inl rfl, rfl⟩
          · rw [← h282 s hs]; simp [nv_up]
          · rw [← hA k hk, ← hA2 k (by omega)]; rw [nv_up_ne (by omega)]
          · rw [← hL2 q hq]; rw [nv_up_ne (by omega)]
          · by_cases e : s = p
            · subst e
              simp only [nv_up, and_self, if_true]
              rw [e7, hd]
              split <;> omega
            · rw [← hT s (by omega), ← hA2 _ (by omega)]; rw [nv_up_ne (by omega)]
          · rw [← hT2 s (by omega) hs5, ← hA2 _ (by omega)]; rw [nv_up_ne (by omega)]
        refine nv_go ok_X6_hourIn [141] 60 ?_
        refine w_ix (7 + p) (by omega) (by omega) ?_
        refine w_ix 0 rfl (by omega) ?_
        refine w_dv (by omega) (by omega) ?_
        refine w_ic (by omega) (by omega) (fun c2 => ?_) (fun c2 => ?_)
        · have c2 : h 25 0 0 % 3 = 2 := by rw [← e00]; exact c2
          refine w_ix p hj (by omega) ?_
          refine w_if (by omega) (fun c3 => ?_) (fun c3 => ?_)
          · have c3 : h2 28 0 p ≤ 0 := c3
            exact h141 _ (by rw [if_neg (by omega)])
          · have c3 : ¬ h2 28 0 p ≤ 0 := c3
            refine w_ix (7 + p) (by omega) (by omega) ?_
            refine w_if (by omega) (fun c4 => ?_) (fun c4 => ?_)
            · have c4 : h2 25 0 (7 + p) ≤ 0 := c4
              exact h141 _ (by rw [if_neg (by omega)])
            · have c4 : ¬ h2 25 0 (7 + p) ≤ 0 := c4
              exact h141 _ (by rw [if_pos (by omega)])
        · have c2 : ¬ h 25 0 0 % 3 = 2 := by rw [← e00]; exact c2
          exact h141 _ (by rw [if_neg (fun q => c2 q.1)])
      refine w_ix (12 + p) (by omega) (by omega) ?_
      refine w_ic (by omega) (by omega) (fun c2 => ?_) (fun c2 => ?_)
      · have c2 : h1 25 0 (12 + p) = -4 := c2
        refine h102 _ h1 hf1 h28 (fun _ _ => rfl) (fun q hq => ?_)
        rw [hL q hq]
        conv => rhs; unfold m_lf; rw [if_neg (fun z => by have := hc.2 z; omega)]
      · have c2 : ¬ h1 25 0 (12 + p) = -4 := c2
        obtain ⟨q, hq⟩ : ∃ q : Nat, h1 25 0 (12 + p) = q := ⟨(h1 25 0 (12 + p)).toNat, by omega⟩
        have hqP : q < P := by omega
        have hq' : (m_mm h 25 6 p).toNat = q := by show (h 25 0 (12 + p)).toNat = q; omega
        have hl1 := hlr p (by omega) q hqP
        have hl9 := (hpl q hqP).2.2
        have eq1 := hL q hqP
        have fin : ∀ y : Int, y = max 0 (m_lf (m_mm h 25) cc p q - cc p) → nv_V M_X6_hourIn 102 [(0, vr 19 0), (1, vr 25 0), (2, vi hop), (3, vi j), (4, vi (h1 25 0 (12 + p)))] [] (nv_up h1 25 0 (2 + q) y) Q := by
          intro y hy
          refine h102 _ _ (fun t i hn => ?_) (fun s hs => ?_) (fun k hk => ?_) (fun q2 hq2 => ?_)
          · rw [← hf1 t i hn]; funext k; unfold nv_up; rw [if_neg]; rintro ⟨rfl, rfl, -⟩; exact hn ⟨Or.inl rfl, rfl⟩
          · rw [← h28 s hs]; simp [nv_up]
          · rw [nv_up_ne (by omega)]
          · conv => rhs; unfold m_lf; rw [hq']
            by_cases e : q2 = q
            · subst e
              simp only [nv_up, and_self, if_true]
              by_cases hz : 0 < cc p
              · rw [if_pos hz]; unfold m_up; rw [if_pos rfl]; exact hy
              · rw [if_neg hz, hy]; omega
            · have e2 : nv_up h1 25 0 (2 + q) y 25 0 (2 + q2) = h1 25 0 (2 + q2) := by rw [nv_up_ne (by omega)]
              rw [e2, hL q2 hq2]
              split
              · unfold m_up; rw [if_neg e]
              · rfl
        refine w_ix (2 + q) (by omega) (by omega) ?_
        refine w_ix p hj (by omega) ?_
        refine w_ic (by omega) (by omega) (fun c3 => ?_) (fun c3 => ?_)
        · have c3 : h1 25 0 (2 + q) ≤ h1 28 0 p := c3
          refine w_ix (2 + q) (by omega) (by omega) ?_
          exact fin _ (by omega)
        · have c3 : ¬ h1 25 0 (2 + q) ≤ h1 28 0 p := c3
          refine w_ix (2 + q) (by omega) (by omega) ?_
          refine w_ix p hj (by omega) ?_
          refine w_ix (2 + q) (by omega) (by omega) ?_
          exact fin _ (by omega)
  have loop1 := m_down (n := S) (G := fun p => ∀ (j : Int) (h1 : nv_St), j = p → (∀ t i, ¬ (t = 28 ∧ i = 0) → h1 t i = h t i) → (∀ s, s < p → h1 28 0 s = cc s) → nv_V M_X6_hourIn 2 [(0, vr 19 0), (1, vr 25 0), (2, vi hop), (3, vi j)] [] h1 Q) ?_ ?_
  rotate_left
  · intro j h1 hj hI h28
    have eC : h1 25 0 = h 25 0 := hI 25 0 (by omega)
    have e28 : h1 25 0 28 = S := by rw [eC]; exact hS
    refine nv_go ok_X6_hourIn [2, 41] 60 ?_
    refine w_ix 28 rfl (by omega) ?_
    refine w_ic (by omega) (by omega) (fun c => ?_) (fun c => ?_)
    · exact loop2 0 (by omega) _ _ rfl (fun t i hn => hI t i (by rintro ⟨rfl, rfl⟩; exact hn ⟨Or.inr rfl, rfl⟩)) h28 (fun k _ => by rw [eC]) (fun q _ => by rw [eC]; rfl) (fun s hs => absurd hs (by omega)) (fun s _ _ => by rw [eC])
    · exact absurd (by show h1 25 0 28 ≤ j; omega) c
  · intro p hp ih j h1 hj hI h28
    subst hj
    have eC : h1 25 0 = h 25 0 := hI 25 0 (by omega)
    have en : m_mm h1 25 = m_mm h 25 := m_mm_ext eC
    have e28 : h1 25 0 28 = S := by rw [eC]; exact hS
    have fin : ∀ y : Int, y = cc p → nv_V M_X6_hourIn 2 [(0, vr 19 0), (1, vr 25 0), (2, vi hop), (3, vi ((p : Int) + 1))] [] (nv_up h1 28 0 p y) Q := by
      intro y hy
      refine ih _ _ (by omega) (fun t i hn => ?_) (fun s hs => ?_)
      · rw [← hI t i hn]; funext k; unfold nv_up; rw [if_neg]; rintro ⟨rfl, rfl, -⟩; exact hn ⟨rfl, rfl⟩
      · by_cases hs2 : s = p
        · subst hs2; simp [nv_up, hy]
        · rw [← h28 s (by omega)]; simp [nv_up, hs2]
    refine nv_go ok_X6_hourIn [2] 60 ?_
    refine w_ix 28 rfl (by omega) ?_
    refine w_ic (by omega) (by omega) (fun c => ?_) (fun c => ?_)
    · exact absurd c (by show ¬ (h1 25 0 28 ≤ (p : Int)); omega)
    · refine w_call (r_has hh0 hh1 (by omega)) (fun v h' hv => ?_)
      obtain ⟨rfl, rfl⟩ := hv
      refine w_if (by have := nv_b01 (m_bit hop p); omega) (fun c2 => ?_) (fun c2 => ?_)
      · have c2 : m_bit hop p = false := by
          have c3 : nv_b (m_bit hop p) = 0 := c2
          revert c3; cases m_bit hop p <;> simp [nv_b]
        refine w_call (r_cuts_25 (P := P) (S := S) (B := B) (by rw [en]; exact hN) hB hp) (fun v h' hv => ?_)
        obtain ⟨rfl, rfl⟩ := hv
        refine w_ix p rfl (by omega) ?_
        exact fin _ (by rw [← hcc, en]; unfold m_hc; rw [c2]; rfl)
      · have c2 : m_bit hop p = true := by
          have c3 : ¬ nv_b (m_bit hop p) = 0 := c2
          revert c3; cases m_bit hop p <;> simp [nv_b]
        refine w_ix p rfl (by omega) ?_
        exact fin _ (by rw [← hcc]; unfold m_hc; rw [c2]; rfl)
  refine nv_R.of rfl rfl (Nat.le_of_ble_eq_true rfl) ?_
  refine nv_go ok_X6_hourIn [2] 20 ?_
  exact loop1 0 (by omega) _ _ rfl (fun _ _ _ => rfl) (fun s hs => absurd hs (by omega))
end
section
/-! ===== the reference copies; its past ===== -/
set_option maxRecDepth 100000 in
theorem r_bring_24_24 {h : nv_St} {i j n : Nat} (hi : i + n ≤ 171) (hj : j + n ≤ 171) (hov : j ≤ i ∨ i + n ≤ j) : nv_R M_X6_bring [vr 24 0, vi i, vr 24 0, vi j, vi n] h (fun r h' => r = none ∧ (∀ t q, ¬ (t = 24 ∧ q = 0) → h' t q = h t q) ∧ (∀ k, k < n → h' 24 0 (j + k) = h 24 0 (i + k)) ∧ ∀ k, (k < j ∨ j + n ≤ k) → h' 24 0 k = h 24 0 k) := by
  refine nv_R.of rfl rfl (Nat.le_of_ble_eq_true rfl) ?_
  have loop := m_down (n := n) (G := fun p => ∀ (x : Int) (h1 : nv_St), x = p → (∀ t q, ¬ (t = 24 ∧ q = 0) → h1 t q = h t q) → (∀ k, k < p → h1 24 0 (j + k) = h 24 0 (i + k)) → (∀ k, (k < j ∨ j + p ≤ k) → h1 24 0 k = h 24 0 k) → nv_V M_X6_bring 3 [(0, vr 24 0), (1, vi i), (2, vr 24 0), (3, vi j), (4, vi n), (5, vi x)] [] h1 (fun r h' => r = none ∧ (∀ t q, ¬ (t = 24 ∧ q = 0) → h' t q = h t q) ∧ (∀ k, k < n → h' 24 0 (j + k) = h 24 0 (i + k)) ∧ ∀ k, (k < j ∨ j + n ≤ k) → h' 24 0 k = h 24 0 k)) ?_ ?_
  · refine nv_go ok_X6_bring [3] 10 ?_
    exact loop 0 (by omega) _ _ rfl (fun _ _ _ => rfl) (fun k hk => absurd hk (by omega)) (fun _ _ => rfl)
  · intro x h1 hx hf hA hB
    refine nv_go ok_X6_bring [3] 30 ?_
    refine w_ic (by omega) (by omega) (fun c => ?_) (fun c => ?_)
    · exact ⟨rfl, hf, hA, hB⟩
    · exact absurd (by show (n : Int) ≤ x; omega) c
  · intro p hp ih x h1 hx hf hA hB
    have eA : h1 24 0 (i + p) = h 24 0 (i + p) := hB (i + p) (by omega)
    refine nv_go ok_X6_bring [3] 30 ?_
    refine w_ic (by omega) (by omega) (fun c => ?_) (fun c => ?_)
    · exact absurd c (by show ¬ ((n : Int) ≤ x); omega)
    · refine w_ix (i + p) (by omega) (by omega) ?_
      refine w_ix (j + p) (by omega) (by omega) ?_
      refine ih _ _ (by omega) (fun t q hn => ?_) (fun k hk => ?_) (fun k hk => ?_)
      · rw [← hf t q hn]; funext r; unfold nv_up; rw [if_neg]; rintro ⟨rfl, rfl, -⟩; exact hn ⟨rfl, rfl⟩
      · by_cases e : k = p
        · subst e; rw [nv_up_same]; exact eA
        · rw [nv_up_ne (by omega)]; exact hA k (by omega)
      · rw [nv_up_ne (by omega)]; exact hB k (by omega)
set_option maxRecDepth 100000 in
theorem r_bring_24_25 {h : nv_St} {i j n : Nat} (hi : i + n ≤ 171) (hj : j + n ≤ 171) : nv_R M_X6_bring [vr 24 0, vi i, vr 25 0, vi j, vi n] h (fun r h' => r = none ∧ (∀ t q, ¬ (t = 25 ∧ q = 0) → h' t q = h t q) ∧ (∀ k, k < n → h' 25 0 (j + k) = h 24 0 (i + k)) ∧ ∀ k, (k < j ∨ j + n ≤ k) → h' 25 0 k = h 25 0 k) := by
  refine nv_R.of rfl rfl (Nat.le_of_ble_eq_true rfl) ?_
  have loop := m_down (n := n) (G := fun p => ∀ (x : Int) (h1 : nv_St), x = p → (∀ t q, ¬ (t = 25 ∧ q = 0) → h1 t q = h t q) → (∀ k, k < p → h1 25 0 (j + k) = h 24 0 (i + k)) → (∀ k, (k < j ∨ j + p ≤ k) → h1 25 0 k = h 25 0 k) → nv_V M_X6_bring 3 [(0, vr 24 0), (1, vi i), (2, vr 25 0), (3, vi j), (4, vi n), (5, vi x)] [] h1 (fun r h' => r = none ∧ (∀ t q, ¬ (t = 25 ∧ q = 0) → h' t q = h t q) ∧ (∀ k, k < n → h' 25 0 (j + k) = h 24 0 (i + k)) ∧ ∀ k, (k < j ∨ j + n ≤ k) → h' 25 0 k = h 25 0 k)) ?_ ?_
  · refine nv_go ok_X6_bring [3] 10 ?_
    exact loop 0 (by omega) _ _ rfl (fun _ _ _ => rfl) (fun k hk => absurd hk (by omega)) (fun _ _ => rfl)
  · intro x h1 hx hf hA hB
    refine nv_go ok_X6_bring [3] 30 ?_
    refine w_ic (by omega) (by omega) (fun c => ?_) (fun c => ?_)
    · exact ⟨rfl, hf, hA, hB⟩
    · exact absurd (by show (n : Int) ≤ x; omega) c
  · intro p hp ih x h1 hx hf hA hB
    have eA : h1 24 0 (i + p) = h 24 0 (i + p) := by rw [hf 24 0 (by omega)]
    refine nv_go ok_X6_bring [3] 30 ?_
    refine w_ic (by omega) (by omega) (fun c => ?_) (fun c => ?_)
    · exact absurd c (by show ¬ ((n : Int) ≤ x); omega)
    · refine w_ix (i + p) (by omega) (by omega) ?_
      refine w_ix (j + p) (by omega) (by omega) ?_
      refine ih _ _ (by omega) (fun t q hn => ?_) (fun k hk => ?_) (fun k hk => ?_)
      · rw [← hf t q hn]; funext r; unfold nv_up; rw [if_neg]; rintro ⟨rfl, rfl, -⟩; exact hn ⟨rfl, rfl⟩
      · by_cases e : k = p
        · subst e; rw [nv_up_same]; exact eA
        · rw [nv_up_ne (by omega)]; exact hA k (by omega)
      · rw [nv_up_ne (by omega)]; exact hB k (by omega)
set_option maxRecDepth 100000 in
theorem r_bring_24_27 {h : nv_St} {i j n : Nat} (hi : i + n ≤ 171) (hj : j + n ≤ 171) : nv_R M_X6_bring [vr 24 0, vi i, vr 27 0, vi j, vi n] h (fun r h' => r = none ∧ (∀ t q, ¬ (t = 27 ∧ q = 0) → h' t q = h t q) ∧ (∀ k, k < n → h' 27 0 (j + k) = h 24 0 (i + k)) ∧ ∀ k, (k < j ∨ j + n ≤ k) → h' 27 0 k = h 27 0 k) := by
  refine nv_R.of rfl rfl (Nat.le_of_ble_eq_true rfl) ?_
  have loop := m_down (n := n) (G := fun p => ∀ (x : Int) (h1 : nv_St), x = p → (∀ t q, ¬ (t = 27 ∧ q = 0) → h1 t q = h t q) → (∀ k, k < p → h1 27 0 (j + k) = h 24 0 (i + k)) → (∀ k, (k < j ∨ j + p ≤ k) → h1 27 0 k = h 27 0 k) → nv_V M_X6_bring 3 [(0, vr 24 0), (1, vi i), (2, vr 27 0), (3, vi j), (4, vi n), (5, vi x)] [] h1 (fun r h' => r = none ∧ (∀ t q, ¬ (t = 27 ∧ q = 0) → h' t q = h t q) ∧ (∀ k, k < n → h' 27 0 (j + k) = h 24 0 (i + k)) ∧ ∀ k, (k < j ∨ j + n ≤ k) → h' 27 0 k = h 27 0 k)) ?_ ?_
  · refine nv_go ok_X6_bring [3] 10 ?_
    exact loop 0 (by omega) _ _ rfl (fun _ _ _ => rfl) (fun k hk => absurd hk (by omega)) (fun _ _ => rfl)
  · intro x h1 hx hf hA hB
    refine nv_go ok_X6_bring [3] 30 ?_
    refine w_ic (by omega) (by omega) (fun c => ?_) (fun c => ?_)
    · exact ⟨rfl, hf, hA, hB⟩
    · exact absurd (by show (n : Int) ≤ x; omega) c
  · intro p hp ih x h1 hx hf hA hB
    have eA : h1 24 0 (i + p) = h 24 0 (i + p) := by rw [hf 24 0 (by omega)]
    refine nv_go ok_X6_bring [3] 30 ?_
    refine w_ic (by omega) (by omega) (fun c => ?_) (fun c => ?_)
    · exact absurd c (by show ¬ ((n : Int) ≤ x); omega)
    · refine w_ix (i + p) (by omega) (by omega) ?_
      refine w_ix (j + p) (by omega) (by omega) ?_
      refine ih _ _ (by omega) (fun t q hn => ?_) (fun k hk => ?_) (fun k hk => ?_)
      · rw [← hf t q hn]; funext r; unfold nv_up; rw [if_neg]; rintro ⟨rfl, rfl, -⟩; exact hn ⟨rfl, rfl⟩
      · by_cases e : k = p
        · subst e; rw [nv_up_same]; exact eA
        · rw [nv_up_ne (by omega)]; exact hA k (by omega)
      · rw [nv_up_ne (by omega)]; exact hB k (by omega)
set_option maxRecDepth 100000 in
theorem r_bring_27_24 {h : nv_St} {i j n : Nat} (hi : i + n ≤ 171) (hj : j + n ≤ 171) : nv_R M_X6_bring [vr 27 0, vi i, vr 24 0, vi j, vi n] h (fun r h' => r = none ∧ (∀ t q, ¬ (t = 24 ∧ q = 0) → h' t q = h t q) ∧ (∀ k, k < n → h' 24 0 (j + k) = h 27 0 (i + k)) ∧ ∀ k, (k < j ∨ j + n ≤ k) → h' 24 0 k = h 24 0 k) := by
  refine nv_R.of rfl rfl (Nat.le_of_ble_eq_true rfl) ?_
  have loop := m_down (n := n) (G := fun p => ∀ (x : Int) (h1 : nv_St), x = p → (∀ t q, ¬ (t = 24 ∧ q = 0) → h1 t q = h t q) → (∀ k, k < p → h1 24 0 (j + k) = h 27 0 (i + k)) → (∀ k, (k < j ∨ j + p ≤ k) → h1 24 0 k = h 24 0 k) → nv_V M_X6_bring 3 [(0, vr 27 0), (1, vi i), (2, vr 24 0), (3, vi j), (4, vi n), (5, vi x)] [] h1 (fun r h' => r = none ∧ (∀ t q, ¬ (t = 24 ∧ q = 0) → h' t q = h t q) ∧ (∀ k, k < n → h' 24 0 (j + k) = h 27 0 (i + k)) ∧ ∀ k, (k < j ∨ j + n ≤ k) → h' 24 0 k = h 24 0 k)) ?_ ?_
  · refine nv_go ok_X6_bring [3] 10 ?_
    exact loop 0 (by omega) _ _ rfl (fun _ _ _ => rfl) (fun k hk => absurd hk (by omega)) (fun _ _ => rfl)
  · intro x h1 hx hf hA hB
    refine nv_go ok_X6_bring [3] 30 ?_
    refine w_ic (by omega) (by omega) (fun c => ?_) (fun c => ?_)
    · exact ⟨rfl, hf, hA, hB⟩
    · exact absurd (by show (n : Int) ≤ x; omega) c
  · intro p hp ih x h1 hx hf hA hB
    have eA : h1 27 0 (i + p) = h 27 0 (i + p) := by rw [hf 27 0 (by omega)]
    refine nv_go ok_X6_bring [3] 30 ?_
    refine w_ic (by omega) (by omega) (fun c => ?_) (fun c => ?_)
    · exact absurd c (by show ¬ ((n : Int) ≤ x); omega)
    · refine w_ix (i + p) (by omega) (by omega) ?_
      refine w_ix (j + p) (by omega) (by omega) ?_
      refine ih _ _ (by omega) (fun t q hn => ?_) (fun k hk => ?_) (fun k hk => ?_)
      · rw [← hf t q hn]; funext r; unfold nv_up; rw [if_neg]; rintro ⟨rfl, rfl, -⟩; exact hn ⟨rfl, rfl⟩
      · by_cases e : k = p
        · subst e; rw [nv_up_same]; exact eA
        · rw [nv_up_ne (by omega)]; exact hA k (by omega)
      · rw [nv_up_ne (by omega)]; exact hB k (by omega)
set_option maxRecDepth 100000 in
theorem r_bring_26_24 {h : nv_St} {i j n : Nat} (hi : i + n ≤ 171) (hj : j + n ≤ 171) : nv_R M_X6_bring [vr 26 0, vi i, vr 24 0, vi j, vi n] h (fun r h' => r = none ∧ (∀ t q, ¬ (t = 24 ∧ q = 0) → h' t q = h t q) ∧ (∀ k, k < n → h' 24 0 (j + k) = h 26 0 (i + k)) ∧ ∀ k, (k < j ∨ j + n ≤ k) → h' 24 0 k = h 24 0 k) := by
  refine nv_R.of rfl rfl (Nat.le_of_ble_eq_true rfl) ?_
  have loop := m_down (n := n) (G := fun p => ∀ (x : Int) (h1 : nv_St), x = p → (∀ t q, ¬ (t = 24 ∧ q = 0) → h1 t q = h t q) → (∀ k, k < p → h1 24 0 (j + k) = h 26 0 (i + k)) → (∀ k, (k < j ∨ j + p ≤ k) → h1 24 0 k = h 24 0 k) → nv_V M_X6_bring 3 [(0, vr 26 0), (1, vi i), (2, vr 24 0), (3, vi j), (4, vi n), (5, vi x)] [] h1 (fun r h' => r = none ∧ (∀ t q, ¬ (t = 24 ∧ q = 0) → h' t q = h t q) ∧ (∀ k, k < n → h' 24 0 (j + k) = h 26 0 (i + k)) ∧ ∀ k, (k < j ∨ j + n ≤ k) → h' 24 0 k = h 24 0 k)) ?_ ?_
  · refine nv_go ok_X6_bring [3] 10 ?_
    exact loop 0 (by omega) _ _ rfl (fun _ _ _ => rfl) (fun k hk => absurd hk (by omega)) (fun _ _ => rfl)
  · intro x h1 hx hf hA hB
    refine nv_go ok_X6_bring [3] 30 ?_
    refine w_ic (by omega) (by omega) (fun c => ?_) (fun c => ?_)
    · exact ⟨rfl, hf, hA, hB⟩
    · exact absurd (by show (n : Int) ≤ x; omega) c
  · intro p hp ih x h1 hx hf hA hB
    have eA : h1 26 0 (i + p) = h 26 0 (i + p) := by rw [hf 26 0 (by omega)]
    refine nv_go ok_X6_bring [3] 30 ?_
    refine w_ic (by omega) (by omega) (fun c => ?_) (fun c => ?_)
    · exact absurd c (by show ¬ ((n : Int) ≤ x); omega)
    · refine w_ix (i + p) (by omega) (by omega) ?_
      refine w_ix (j + p) (by omega) (by omega) ?_
      refine ih _ _ (by omega) (fun t q hn => ?_) (fun k hk => ?_) (fun k hk => ?_)
      · rw [← hf t q hn]; funext r; unfold nv_up; rw [if_neg]; rintro ⟨rfl, rfl, -⟩; exact hn ⟨rfl, rfl⟩
      · by_cases e : k = p
        · subst e; rw [nv_up_same]; exact eA
        · rw [nv_up_ne (by omega)]; exact hA k (by omega)
      · rw [nv_up_ne (by omega)]; exact hB k (by omega)
set_option maxRecDepth 100000 in
theorem r_bring_25_29 {h : nv_St} {i j n : Nat} (hi : i + n ≤ 171) (hj : j + n ≤ 5) : nv_R M_X6_bring [vr 25 0, vi i, vr 29 0, vi j, vi n] h (fun r h' => r = none ∧ (∀ t q, ¬ (t = 29 ∧ q = 0) → h' t q = h t q) ∧ (∀ k, k < n → h' 29 0 (j + k) = h 25 0 (i + k)) ∧ ∀ k, (k < j ∨ j + n ≤ k) → h' 29 0 k = h 29 0 k) := by
  refine nv_R.of rfl rfl (Nat.le_of_ble_eq_true rfl) ?_
  have loop := m_down (n := n) (G := fun p => ∀ (x : Int) (h1 : nv_St), x = p → (∀ t q, ¬ (t = 29 ∧ q = 0) → h1 t q = h t q) → (∀ k, k < p → h1 29 0 (j + k) = h 25 0 (i + k)) → (∀ k, (k < j ∨ j + p ≤ k) → h1 29 0 k = h 29 0 k) → nv_V M_X6_bring 3 [(0, vr 25 0), (1, vi i), (2, vr 29 0), (3, vi j), (4, vi n), (5, vi x)] [] h1 (fun r h' => r = none ∧ (∀ t q, ¬ (t = 29 ∧ q = 0) → h' t q = h t q) ∧ (∀ k, k < n → h' 29 0 (j + k) = h 25 0 (i + k)) ∧ ∀ k, (k < j ∨ j + n ≤ k) → h' 29 0 k = h 29 0 k)) ?_ ?_
  · refine nv_go ok_X6_bring [3] 10 ?_
    exact loop 0 (by omega) _ _ rfl (fun _ _ _ => rfl) (fun k hk => absurd hk (by omega)) (fun _ _ => rfl)
  · intro x h1 hx hf hA hB
    refine nv_go ok_X6_bring [3] 30 ?_
    refine w_ic (by omega) (by omega) (fun c => ?_) (fun c => ?_)
    · exact ⟨rfl, hf, hA, hB⟩
    · exact absurd (by show (n : Int) ≤ x; omega) c
  · intro p hp ih x h1 hx hf hA hB
    have eA : h1 25 0 (i + p) = h 25 0 (i + p) := by rw [hf 25 0 (by omega)]
    refine nv_go ok_X6_bring [3] 30 ?_
    refine w_ic (by omega) (by omega) (fun c => ?_) (fun c => ?_)
    · exact absurd c (by show ¬ ((n : Int) ≤ x); omega)
    · refine w_ix (i + p) (by omega) (by omega) ?_
      refine w_ix (j + p) (by omega) (by omega) ?_
      refine ih _ _ (by omega) (fun t q hn => ?_) (fun k hk => ?_) (fun k hk => ?_)
      · rw [← hf t q hn]; funext r; unfold nv_up; rw [if_neg]; rintro ⟨rfl, rfl, -⟩; exact hn ⟨rfl, rfl⟩
      · by_cases e : k = p
        · subst e; rw [nv_up_same]; exact eA
        · rw [nv_up_ne (by omega)]; exact hA k (by omega)
      · rw [nv_up_ne (by omega)]; exact hB k (by omega)
/-- a moment in the reference's array -/
def g_m (h : nv_St) (c b : Nat) : m_NN := fun t j => match t with
  | 0 => if j = 2 then h c 0 b else if j = 3 then h c 0 (b + 1) else 0
  | 3 => h c 0 (b + 2 + j)
  | 5 => h c 0 (b + 7 + j)
  | 6 => h c 0 (b + 12 + j)
  | _ => 0
def g_past (h : nv_St) (c P S : Nat) (pl : List m_NN) : Prop := h c 0 34 = pl.length ∧ pl.length ≤ 8 ∧ ∀ k (M : m_NN), pl[k]? = some M → m_eqm P S (g_m h c (35 + 17 * (pl.length - 1 - k))) M
theorem g_past.kept {h h' : nv_St} {c P S : Nat} {pl : List m_NN} (k : g_past h c P S pl) (e : ∀ q, 34 ≤ q → h' c 0 q = h c 0 q) : g_past h' c P S pl := by
  refine ⟨by rw [e 34 (by omega)]; exact k.1, k.2.1, fun i M hM => ?_⟩
  have := k.2.2 i M hM
  obtain ⟨a1, a2, a3, a4⟩ := this
  refine ⟨?_, ?_, fun p hp => ?_, fun s hs => ⟨?_, ?_⟩⟩
  · rw [← a1]; show h' c 0 _ = h c 0 _; exact e _ (by omega)
  · rw [← a2]; show h' c 0 _ = h c 0 _; exact e _ (by omega)
  · rw [← a3 p hp]; show h' c 0 _ = h c 0 _; exact e _ (by omega)
  · rw [← (a4 s hs).1]; show h' c 0 _ = h c 0 _; exact e _ (by omega)
  · rw [← (a4 s hs).2]; show h' c 0 _ = h c 0 _; exact e _ (by omega)
set_option maxRecDepth 100000 in
theorem r_note {h : nv_St} {P S : Nat} {pl : List m_NN} (hP : P ≤ 5) (hS : S ≤ 5) (k : g_past h 24 P S pl) :
    nv_R M_X6_note [vr 19 0] h (fun r h' => r = none ∧ g_past h' 24 P S ((m_mm h 24 :: pl).take 8) ∧ (∀ q, q < 34 → h' 24 0 q = h 24 0 q) ∧ ∀ t i, ¬ (t = 24 ∧ i = 0) → h' t i = h t i) := by
  obtain ⟨a1, a2, a3⟩ := k
  refine nv_R.of rfl rfl (Nat.le_of_ble_eq_true rfl) ?_
  generalize hQ : (fun (r : Option nv_AV) (h' : nv_St) => r = none ∧ g_past h' 24 P S ((m_mm h 24 :: pl).take 8) ∧ (∀ q, q < 34 → h' 24 0 q = h 24 0 q) ∧ ∀ t i, ¬ (t = 24 ∧ i = 0) → h' t i = h t i) = Q
  have h41 : ∀ (h1 : nv_St) (pm : List m_NN), pm.length ≤ 7 → (m_mm h 24 :: pl).take 8 = m_mm h 24 :: pm → g_past h1 24 P S pm → (∀ q, q < 34 → h1 24 0 q = h 24 0 q) → (∀ t i, ¬ (t = 24 ∧ i = 0) → h1 t i = h t i) → nv_V M_X6_note 40 [(0, vr 19 0)] [] h1 Q := by
    intro h1 pm hpm htk ⟨b1, b2, b3⟩ hlo hf
    refine nv_go ok_X6_note [] 60 ?_
    refine w_ix 34 rfl (by omega) ?_
    have e1 : (35 : Int) + 17 * h1 24 0 34 = ((35 + 17 * pm.length : Nat) : Int) := by rw [b1]; omega
    refine w_call (P' := fun r h' => r = none ∧ (∀ t q, ¬ (t = 24 ∧ q = 0) → h' t q = h1 t q) ∧ (∀ k, k < 17 → h' 24 0 (35 + 17 * pm.length + k) = h1 24 0 (0 + k)) ∧ ∀ k, (k < 35 + 17 * pm.length ∨ 35 + 17 * pm.length + 17 ≤ k) → h' 24 0 k = h1 24 0 k) ?_ (fun v h' hv => ?_)
    · have := r_bring_24_24 (h := h1) (i := 0) (j := 35 + 17 * pm.length) (n := 17) (by omega) (by omega) (by omega)
      rw [← e1] at this
      exact this
    obtain ⟨rfl, c1, c2, c3⟩ := hv
    have c34 : h' 24 0 34 = pm.length := by rw [c3 34 (by omega)]; exact b1
    refine w_ix 34 rfl (by omega) ?_
    refine w_ix 34 rfl (by omega) ?_
    show Q none (nv_up h' 24 0 34 (h' 24 0 34 + 1))
    rw [← hQ, htk]
    have u : ∀ q, q ≠ 34 → nv_up h' 24 0 34 (h' 24 0 34 + 1) 24 0 q = h' 24 0 q := fun q hq => nv_up_ne hq
    refine ⟨rfl, ⟨by rw [nv_up_same, c34]; simp, by simp; omega, fun i M hM => ?_⟩, fun q hq => by rw [u q (by omega), c3 q (by omega), hlo q hq], fun t i hn => ?_⟩
    · have hl : (m_mm h 24 :: pm).length - 1 - i = pm.length - i := by simp
      rw [hl]
      cases i with
      | zero =>
        simp at hM
        subst hM
        have g : ∀ q, q < 17 → nv_up h' 24 0 34 (h' 24 0 34 + 1) 24 0 (35 + 17 * (pm.length - 0) + q) = h 24 0 q := by
          intro q hq
          rw [u _ (by omega), Nat.sub_zero, c2 q hq, Nat.zero_add, hlo q (by omega)]
        refine ⟨?_, ?_, fun p hp => ?_, fun s hs => ⟨?_, ?_⟩⟩
        · exact g 0 (by omega)
        · exact g 1 (by omega)
        · show nv_up h' 24 0 34 (h' 24 0 34 + 1) 24 0 (35 + 17 * (pm.length - 0) + 2 + p) = h 24 0 (2 + p)
          rw [Nat.add_assoc]; exact g (2 + p) (by omega)
        · show nv_up h' 24 0 34 (h' 24 0 34 + 1) 24 0 (35 + 17 * (pm.length - 0) + 7 + s) = h 24 0 (7 + s)
          rw [Nat.add_assoc]; exact g (7 + s) (by omega)
        · show nv_up h' 24 0 34 (h' 24 0 34 + 1) 24 0 (35 + 17 * (pm.length - 0) + 12 + s) = h 24 0 (12 + s)
          rw [Nat.add_assoc]; exact g (12 + s) (by omega)
      | succ i =>
        have hM : pm[i]? = some M := by simpa using hM
        have hil := (List.getElem?_eq_some_iff.mp hM).1
        have e : pm.length - (i + 1) = pm.length - 1 - i := by omega
        rw [e]
        obtain ⟨d1, d2, d3, d4⟩ := b3 i M hM
        have g : ∀ q, q < 17 → nv_up h' 24 0 34 (h' 24 0 34 + 1) 24 0 (35 + 17 * (pm.length - 1 - i) + q) = h1 24 0 (35 + 17 * (pm.length - 1 - i) + q) := by
          intro q hq
          rw [u _ (by omega), c3 _ (by omega)]
        refine ⟨?_, ?_, fun p hp => ?_, fun s hs => ⟨?_, ?_⟩⟩
        · rw [← d1]; exact g 0 (by omega)
        · rw [← d2]; exact g 1 (by omega)
        · rw [← d3 p hp]
          show nv_up h' 24 0 34 (h' 24 0 34 + 1) 24 0 (35 + 17 * (pm.length - 1 - i) + 2 + p) = h1 24 0 (35 + 17 * (pm.length - 1 - i) + 2 + p)
          rw [Nat.add_assoc]; exact g (2 + p) (by omega)
        · rw [← (d4 s hs).1]
          show nv_up h' 24 0 34 (h' 24 0 34 + 1) 24 0 (35 + 17 * (pm.length - 1 - i) + 7 + s) = h1 24 0 (35 + 17 * (pm.length - 1 - i) + 7 + s)
          rw [Nat.add_assoc]; exact g (7 + s) (by omega)
        · rw [← (d4 s hs).2]
          show nv_up h' 24 0 34 (h' 24 0 34 + 1) 24 0 (35 + 17 * (pm.length - 1 - i) + 12 + s) = h1 24 0 (35 + 17 * (pm.length - 1 - i) + 12 + s)
          rw [Nat.add_assoc]; exact g (12 + s) (by omega)
    · rw [← hf t i hn, ← c1 t i hn]; funext r; unfold nv_up; rw [if_neg]; rintro ⟨rfl, rfl, -⟩; exact hn ⟨rfl, rfl⟩
  refine nv_go ok_X6_note [40] 60 ?_
  refine w_ix 34 rfl (by omega) ?_
  refine w_ic (by omega) (by omega) (fun c => ?_) (fun c => ?_)
  · have c : h 24 0 34 = 8 := c
    have hl8 : pl.length = 8 := by omega
    refine w_call (r_bring_24_24 (h := h) (i := 52) (j := 35) (n := 119) (by omega) (by omega) (by omega)) (fun v h' hv => ?_)
    obtain ⟨rfl, c1, c2, c3⟩ := hv
    have c34 : h' 24 0 34 = 8 := by rw [c3 34 (by omega)]; exact c
    refine w_ix 34 rfl (by omega) ?_
    refine w_ix 34 rfl (by omega) ?_
    have u : ∀ q, q ≠ 34 → nv_up h' 24 0 34 (h' 24 0 34 - 1) 24 0 q = h' 24 0 q := fun q hq => nv_up_ne hq
    refine h41 _ (pl.take 7) (by simp; omega) (by simp) ⟨by rw [nv_up_same, c34]; simp; omega, by simp; omega, fun i M hM => ?_⟩ (fun q hq => by rw [u q (by omega), c3 q (by omega)]) (fun t i hn => ?_)
    · have hl7 : (pl.take 7).length = 7 := by simp; omega
      have hi7 : i < 7 := by
        have := (List.getElem?_eq_some_iff.mp hM).1
        omega
      have hM : pl[i]? = some M := by
        rw [List.getElem?_take, if_pos hi7] at hM
        exact hM
      rw [hl7]
      obtain ⟨d1, d2, d3, d4⟩ := a3 i M hM
      rw [hl8] at d1 d2 d3 d4
      have g : ∀ q, q < 17 → nv_up h' 24 0 34 (h' 24 0 34 - 1) 24 0 (35 + 17 * (7 - 1 - i) + q) = h 24 0 (35 + 17 * (8 - 1 - i) + q) := by
        intro q hq
        have := c2 (17 * (7 - 1 - i) + q) (by omega)
        rw [u _ (by omega), show 35 + 17 * (7 - 1 - i) + q = 35 + (17 * (7 - 1 - i) + q) by omega, this]
        congr 1
        omega
      refine ⟨?_, ?_, fun p hp => ?_, fun s hs => ⟨?_, ?_⟩⟩
      · rw [← d1]; exact g 0 (by omega)
      · rw [← d2]; exact g 1 (by omega)
      · rw [← d3 p hp]
        show nv_up h' 24 0 34 (h' 24 0 34 - 1) 24 0 (35 + 17 * (7 - 1 - i) + 2 + p) = h 24 0 (35 + 17 * (8 - 1 - i) + 2 + p)
        rw [Nat.add_assoc, g (2 + p) (by omega)]; congr 1; omega
      · rw [← (d4 s hs).1]
        show nv_up h' 24 0 34 (h' 24 0 34 - 1) 24 0 (35 + 17 * (7 - 1 - i) + 7 + s) = h 24 0 (35 + 17 * (8 - 1 - i) + 7 + s)
        rw [Nat.add_assoc, g (7 + s) (by omega)]; congr 1; omega
      · rw [← (d4 s hs).2]
        show nv_up h' 24 0 34 (h' 24 0 34 - 1) 24 0 (35 + 17 * (7 - 1 - i) + 12 + s) = h 24 0 (35 + 17 * (8 - 1 - i) + 12 + s)
        rw [Nat.add_assoc, g (12 + s) (by omega)]; congr 1; omega
    · rw [← c1 t i hn]; funext r; unfold nv_up; rw [if_neg]; rintro ⟨rfl, rfl, -⟩; exact hn ⟨rfl, rfl⟩
  · have c : ¬ h 24 0 34 = 8 := c
    exact h41 h pl (by omega) (by rw [List.take_of_length_le (by simp; omega)]) ⟨a1, a2, a3⟩ (fun _ _ => rfl) (fun _ _ _ => rfl)
set_option maxRecDepth 100000 in
theorem r_begin {h : nv_St} : nv_R M_X6_begin [vr 19 0] h (fun r h' => r = none ∧ (∀ q, q < 34 → h' 25 0 q = h 24 0 q) ∧ ∀ t i, ¬ (t = 25 ∧ i = 0) → h' t i = h t i) := by
  refine nv_R.of rfl rfl (Nat.le_of_ble_eq_true rfl) ?_
  refine nv_go ok_X6_begin [] 60 ?_
  refine w_call (r_bring_24_25 (h := h) (i := 0) (j := 0) (n := 34) (by omega) (by omega)) (fun v h' hv => ?_)
  obtain ⟨rfl, c1, c2, c3⟩ := hv
  refine ⟨rfl, fun q hq => ?_, c1⟩
  have := c2 q hq
  rwa [Nat.zero_add] at this
theorem g_eq {h h' : nv_St} {a b P S : Nat} (hP : P ≤ 5) (hS : S ≤ 5) (k : ∀ q, q < 34 → h' a 0 q = h b 0 q) : m_eq P S (m_mm h' a) (m_mm h b) := by
  refine ⟨fun j hj => ?_, fun p hp => ⟨?_, ?_, ?_⟩, fun s hs => ⟨?_, ?_, ?_⟩⟩
  · have : j = 0 ∨ j = 1 ∨ j = 2 ∨ j = 3 := by omega
    rcases this with rfl | rfl | rfl | rfl
    · exact k 17 (by omega)
    · exact k 28 (by omega)
    · exact k 0 (by omega)
    · exact k 1 (by omega)
  · exact k (18 + p) (by omega)
  · exact k (23 + p) (by omega)
  · exact k (2 + p) (by omega)
  · exact k (29 + s) (by omega)
  · exact k (7 + s) (by omega)
  · exact k (12 + s) (by omega)
set_option maxRecDepth 100000 in
theorem r_goOn {h : nv_St} {P S n : Nat} {B : Int} (hN : m_ok (m_mm h 25) P S B) (hB : B + n < 1073741824) (hn : n < 1000) :
    nv_R M_X6_goOn [vr 19 0, vi n] h (fun r h' => r = none ∧ m_eq P S (m_mm h' 25) (m_it n (m_mm h 25)) ∧ m_frM 25 h h') := by
  refine nv_R.of rfl rfl (Nat.le_of_ble_eq_true rfl) ?_
  have loop := m_down (n := n) (G := fun k => ∀ (j : Int) (h1 : nv_St), j = k → m_eq P S (m_mm h1 25) (m_it k (m_mm h 25)) → m_frM 25 h h1 → nv_V M_X6_goOn 2 [(0, vr 19 0), (1, vi n), (2, vi j)] [] h1 (fun r h' => r = none ∧ m_eq P S (m_mm h' 25) (m_it n (m_mm h 25)) ∧ m_frM 25 h h')) ?_ ?_
  · refine nv_go ok_X6_goOn [2] 10 ?_
    exact loop 0 (by omega) _ _ rfl m_eq.rfl' m_frM.rfl'
  · intro j h1 hj he hf
    refine nv_go ok_X6_goOn [2] 10 ?_
    refine w_ic (by omega) (by omega) (fun c => ?_) (fun c => ?_)
    · exact ⟨rfl, he, hf⟩
    · exact absurd (by show (n : Int) ≤ j; omega) c
  · intro k hk ih j h1 hj he hf
    refine nv_go ok_X6_goOn [2] 10 ?_
    refine w_ic (by omega) (by omega) (fun c => ?_) (fun c => ?_)
    · exact absurd c (by show ¬ ((n : Int) ≤ j); omega)
    · have hok := he.ok (m_it_ok hN k)
      refine w_call (r_hourIn_25 hok (by omega) (hop := 0) (by decide) (by decide)) (fun v h' hv => ?_)
      obtain ⟨rfl, he', -, hf'⟩ := hv
      rw [m_hc_0, m_hourC_cut] at he'
      exact ih _ _ (by omega) (he'.trans' (m_hour_eq he hok)) (hf.trans' hf')
set_option maxRecDepth 100000 in
theorem r_isPlank {h : nv_St} {P : Nat} {v : Int} (hP5 : P ≤ 5) (hP : h 24 0 17 = P) (hv : nv_InR v) : nv_R M_X6_isPlank [vr 19 0, vi v] h (fun r h' => h' = h ∧ r = some (vi (nv_b (decide (0 ≤ v) && decide (v < P))))) := by
  refine nv_R.of rfl rfl (Nat.le_of_ble_eq_true rfl) ?_
  refine nv_go ok_X6_isPlank [] 30 ?_
  refine w_ix 17 rfl (by omega) ?_
  refine w_call (r_in hv (by omega) (by omega)) (fun r h' hr => ?_)
  obtain ⟨rfl, rfl⟩ := hr
  refine And.intro (nv_b01 _) ⟨rfl, ?_⟩
  rw [show decide (v ≤ h' 24 0 17 - 1) = decide (v < (P : Int)) from by rw [hP]; exact decide_eq_decide.mpr (by omega)]
set_option maxRecDepth 100000 in
theorem r_isSawyer {h : nv_St} {S : Nat} {v : Int} (hS5 : S ≤ 5) (hS : h 24 0 28 = S) (hv : nv_InR v) : nv_R M_X6_isSawyer [vr 19 0, vi v] h (fun r h' => h' = h ∧ r = some (vi (nv_b (decide (0 ≤ v) && decide (v < S))))) := by
  refine nv_R.of rfl rfl (Nat.le_of_ble_eq_true rfl) ?_
  refine nv_go ok_X6_isSawyer [] 30 ?_
  refine w_ix 28 rfl (by omega) ?_
  refine w_call (r_in hv (by omega) (by omega)) (fun r h' hr => ?_)
  obtain ⟨rfl, rfl⟩ := hr
  refine And.intro (nv_b01 _) ⟨rfl, ?_⟩
  rw [show decide (v ≤ h' 24 0 28 - 1) = decide (v < (S : Int)) from by rw [hS]; exact decide_eq_decide.mpr (by omega)]
end
