-- ===== PART A: goes FIRST, ahead of the names: the tables' words, and 'selects' of the private methods out of them =====
/-- a private method of a class that the tables say can be made, by its rows of tables_1 -/
def lw_okq (q : MethodName × Nat) : Prop := (q.1.cls ≠ "java/lang/invoke/MethodHandle" ∧ q.1.cls ≠ "java/lang/invoke/VarHandle") ∧ Cond.instantiable q.1.cls q.2 ∈ tables_1 ∧ Cond.privateMethod q.1 ∈ tables_1 ∧ Cond.instanceMethod q.1 ∈ tables_1
theorem lw_p0 : lw_okq (⟨"FountainTalk", "error", "(I)I"⟩, 8) := ⟨⟨by decide +kernel, by decide +kernel⟩, List.mem_of_getElem? (i := 17) (by decide +kernel), List.mem_of_getElem? (i := 258) (by decide +kernel), List.mem_of_getElem? (i := 259) (by decide +kernel)⟩
theorem lw_p1 : lw_okq (⟨"FountainTalk", "isFountain", "(I)Z"⟩, 8) := ⟨⟨by decide +kernel, by decide +kernel⟩, List.mem_of_getElem? (i := 17) (by decide +kernel), List.mem_of_getElem? (i := 267) (by decide +kernel), List.mem_of_getElem? (i := 268) (by decide +kernel)⟩
theorem lw_p2 : lw_okq (⟨"FountainTalk", "isSaying", "(II)Z"⟩, 8) := ⟨⟨by decide +kernel, by decide +kernel⟩, List.mem_of_getElem? (i := 17) (by decide +kernel), List.mem_of_getElem? (i := 288) (by decide +kernel), List.mem_of_getElem? (i := 289) (by decide +kernel)⟩
theorem lw_p3 : lw_okq (⟨"FountainTalk$City", "withAdded", "(II)I"⟩, 18) := ⟨⟨by decide +kernel, by decide +kernel⟩, List.mem_of_getElem? (i := 25) (by decide +kernel), List.mem_of_getElem? (i := 296) (by decide +kernel), List.mem_of_getElem? (i := 297) (by decide +kernel)⟩
theorem lw_p4 : lw_okq (⟨"FountainTalk", "isPipe", "(I)Z"⟩, 8) := ⟨⟨by decide +kernel, by decide +kernel⟩, List.mem_of_getElem? (i := 17) (by decide +kernel), List.mem_of_getElem? (i := 335) (by decide +kernel), List.mem_of_getElem? (i := 336) (by decide +kernel)⟩
theorem lw_p5 : lw_okq (⟨"FountainTalk$Text", "readLevel", "(II)V"⟩, 9) := ⟨⟨by decide +kernel, by decide +kernel⟩, List.mem_of_getElem? (i := 32) (by decide +kernel), List.mem_of_getElem? (i := 368) (by decide +kernel), List.mem_of_getElem? (i := 369) (by decide +kernel)⟩
theorem lw_p6 : lw_okq (⟨"FountainTalk$Text", "readPart", "(I)V"⟩, 9) := ⟨⟨by decide +kernel, by decide +kernel⟩, List.mem_of_getElem? (i := 32) (by decide +kernel), List.mem_of_getElem? (i := 372) (by decide +kernel), List.mem_of_getElem? (i := 373) (by decide +kernel)⟩
theorem lw_p7 : lw_okq (⟨"FountainTalk$Text", "peek", "()I"⟩, 9) := ⟨⟨by decide +kernel, by decide +kernel⟩, List.mem_of_getElem? (i := 32) (by decide +kernel), List.mem_of_getElem? (i := 376) (by decide +kernel), List.mem_of_getElem? (i := 377) (by decide +kernel)⟩
theorem lw_p8 : lw_okq (⟨"FountainTalk$Text", "readNumber", "()V"⟩, 9) := ⟨⟨by decide +kernel, by decide +kernel⟩, List.mem_of_getElem? (i := 32) (by decide +kernel), List.mem_of_getElem? (i := 380) (by decide +kernel), List.mem_of_getElem? (i := 381) (by decide +kernel)⟩
theorem lw_p9 : lw_okq (⟨"FountainTalk$Text", "addStep", "(I)V"⟩, 9) := ⟨⟨by decide +kernel, by decide +kernel⟩, List.mem_of_getElem? (i := 32) (by decide +kernel), List.mem_of_getElem? (i := 384) (by decide +kernel), List.mem_of_getElem? (i := 385) (by decide +kernel)⟩
theorem lw_p10 : lw_okq (⟨"FountainTalk$Text", "readOpened", "(II)V"⟩, 9) := ⟨⟨by decide +kernel, by decide +kernel⟩, List.mem_of_getElem? (i := 32) (by decide +kernel), List.mem_of_getElem? (i := 388) (by decide +kernel), List.mem_of_getElem? (i := 389) (by decide +kernel)⟩
theorem lw_p11 : lw_okq (⟨"FountainTalk$Text", "readName", "(I)V"⟩, 9) := ⟨⟨by decide +kernel, by decide +kernel⟩, List.mem_of_getElem? (i := 32) (by decide +kernel), List.mem_of_getElem? (i := 392) (by decide +kernel), List.mem_of_getElem? (i := 393) (by decide +kernel)⟩
theorem lw_p12 : lw_okq (⟨"FountainTalk$Text", "takeSign", "(I)I"⟩, 9) := ⟨⟨by decide +kernel, by decide +kernel⟩, List.mem_of_getElem? (i := 32) (by decide +kernel), List.mem_of_getElem? (i := 478) (by decide +kernel), List.mem_of_getElem? (i := 479) (by decide +kernel)⟩
theorem lw_p13 : lw_okq (⟨"FountainTalk$Hearing", "arrive", "(III)V"⟩, 5) := ⟨⟨by decide +kernel, by decide +kernel⟩, List.mem_of_getElem? (i := 148) (by decide +kernel), List.mem_of_getElem? (i := 516) (by decide +kernel), List.mem_of_getElem? (i := 517) (by decide +kernel)⟩
theorem lw_p14 : lw_okq (⟨"FountainTalk$Hearing", "sayOver", "(II)V"⟩, 5) := ⟨⟨by decide +kernel, by decide +kernel⟩, List.mem_of_getElem? (i := 148) (by decide +kernel), List.mem_of_getElem? (i := 522) (by decide +kernel), List.mem_of_getElem? (i := 523) (by decide +kernel)⟩
theorem lw_p15 : lw_okq (⟨"FountainTalk$Hearing", "nextToHear", "()I"⟩, 5) := ⟨⟨by decide +kernel, by decide +kernel⟩, List.mem_of_getElem? (i := 148) (by decide +kernel), List.mem_of_getElem? (i := 527) (by decide +kernel), List.mem_of_getElem? (i := 528) (by decide +kernel)⟩
def lw_privs_1 : List (MethodName × Nat) := [(⟨"FountainTalk", "error", "(I)I"⟩, 8), (⟨"FountainTalk", "isFountain", "(I)Z"⟩, 8), (⟨"FountainTalk", "isSaying", "(II)Z"⟩, 8), (⟨"FountainTalk$City", "withAdded", "(II)I"⟩, 18), (⟨"FountainTalk", "isPipe", "(I)Z"⟩, 8), (⟨"FountainTalk$Text", "readLevel", "(II)V"⟩, 9), (⟨"FountainTalk$Text", "readPart", "(I)V"⟩, 9), (⟨"FountainTalk$Text", "peek", "()I"⟩, 9), (⟨"FountainTalk$Text", "readNumber", "()V"⟩, 9), (⟨"FountainTalk$Text", "addStep", "(I)V"⟩, 9), (⟨"FountainTalk$Text", "readOpened", "(II)V"⟩, 9), (⟨"FountainTalk$Text", "readName", "(I)V"⟩, 9), (⟨"FountainTalk$Text", "takeSign", "(I)I"⟩, 9), (⟨"FountainTalk$Hearing", "arrive", "(III)V"⟩, 5), (⟨"FountainTalk$Hearing", "sayOver", "(II)V"⟩, 5), (⟨"FountainTalk$Hearing", "nextToHear", "()I"⟩, 5)]
theorem lw_r1 : ∀ q ∈ lw_privs_1, lw_okq q := List.forall_mem_cons.mpr ⟨lw_p0, List.forall_mem_cons.mpr ⟨lw_p1, List.forall_mem_cons.mpr ⟨lw_p2, List.forall_mem_cons.mpr ⟨lw_p3, List.forall_mem_cons.mpr ⟨lw_p4, List.forall_mem_cons.mpr ⟨lw_p5, List.forall_mem_cons.mpr ⟨lw_p6, List.forall_mem_cons.mpr ⟨lw_p7, List.forall_mem_cons.mpr ⟨lw_p8, List.forall_mem_cons.mpr ⟨lw_p9, List.forall_mem_cons.mpr ⟨lw_p10, List.forall_mem_cons.mpr ⟨lw_p11, List.forall_mem_cons.mpr ⟨lw_p12, List.forall_mem_cons.mpr ⟨lw_p13, List.forall_mem_cons.mpr ⟨lw_p14, List.forall_mem_cons.mpr ⟨lw_p15, fun _ h => absurd h List.not_mem_nil⟩⟩⟩⟩⟩⟩⟩⟩⟩⟩⟩⟩⟩⟩⟩⟩
theorem lw_p16 : lw_okq (⟨"FountainTalk", "letOut", "(II)I"⟩, 8) := ⟨⟨by decide +kernel, by decide +kernel⟩, List.mem_of_getElem? (i := 17) (by decide +kernel), List.mem_of_getElem? (i := 544) (by decide +kernel), List.mem_of_getElem? (i := 545) (by decide +kernel)⟩
theorem lw_p17 : lw_okq (⟨"FountainTalk", "fewestToShut", "(III)I"⟩, 8) := ⟨⟨by decide +kernel, by decide +kernel⟩, List.mem_of_getElem? (i := 17) (by decide +kernel), List.mem_of_getElem? (i := 575) (by decide +kernel), List.mem_of_getElem? (i := 576) (by decide +kernel)⟩
theorem lw_p18 : lw_okq (⟨"FountainTalk", "fewestToOpen", "(IIII)I"⟩, 8) := ⟨⟨by decide +kernel, by decide +kernel⟩, List.mem_of_getElem? (i := 17) (by decide +kernel), List.mem_of_getElem? (i := 589) (by decide +kernel), List.mem_of_getElem? (i := 590) (by decide +kernel)⟩
theorem lw_p19 : lw_okq (⟨"FountainTalk", "isHeardAsIn", "(LFountainTalk$Sheet;)Z"⟩, 8) := ⟨⟨by decide +kernel, by decide +kernel⟩, List.mem_of_getElem? (i := 17) (by decide +kernel), List.mem_of_getElem? (i := 611) (by decide +kernel), List.mem_of_getElem? (i := 612) (by decide +kernel)⟩
theorem lw_p20 : lw_okq (⟨"FountainTalk$Speaker", "speak", "(IIII)I"⟩, 6) := ⟨⟨by decide +kernel, by decide +kernel⟩, List.mem_of_getElem? (i := 175) (by decide +kernel), List.mem_of_getElem? (i := 623) (by decide +kernel), List.mem_of_getElem? (i := 624) (by decide +kernel)⟩
theorem lw_p21 : lw_okq (⟨"FountainTalk$Speaker", "begin", "(I)V"⟩, 6) := ⟨⟨by decide +kernel, by decide +kernel⟩, List.mem_of_getElem? (i := 175) (by decide +kernel), List.mem_of_getElem? (i := 630) (by decide +kernel), List.mem_of_getElem? (i := 631) (by decide +kernel)⟩
theorem lw_p22 : lw_okq (⟨"FountainTalk$Speaker", "part", "(I)I"⟩, 6) := ⟨⟨by decide +kernel, by decide +kernel⟩, List.mem_of_getElem? (i := 175) (by decide +kernel), List.mem_of_getElem? (i := 634) (by decide +kernel), List.mem_of_getElem? (i := 635) (by decide +kernel)⟩
theorem lw_p23 : lw_okq (⟨"FountainTalkModel", "error", "(I)I"⟩, 22) := ⟨⟨by decide +kernel, by decide +kernel⟩, List.mem_of_getElem? (i := 705) (by decide +kernel), List.mem_of_getElem? (i := 789) (by decide +kernel), List.mem_of_getElem? (i := 790) (by decide +kernel)⟩
theorem lw_p24 : lw_okq (⟨"FountainTalkModel", "isFountain", "(I)Z"⟩, 22) := ⟨⟨by decide +kernel, by decide +kernel⟩, List.mem_of_getElem? (i := 705) (by decide +kernel), List.mem_of_getElem? (i := 799) (by decide +kernel), List.mem_of_getElem? (i := 800) (by decide +kernel)⟩
theorem lw_p25 : lw_okq (⟨"FountainTalkModel", "of", "(II)I"⟩, 22) := ⟨⟨by decide +kernel, by decide +kernel⟩, List.mem_of_getElem? (i := 705) (by decide +kernel), List.mem_of_getElem? (i := 803) (by decide +kernel), List.mem_of_getElem? (i := 804) (by decide +kernel)⟩
theorem lw_p26 : lw_okq (⟨"FountainTalkModel", "becomes", "(II)I"⟩, 22) := ⟨⟨by decide +kernel, by decide +kernel⟩, List.mem_of_getElem? (i := 705) (by decide +kernel), List.mem_of_getElem? (i := 811) (by decide +kernel), List.mem_of_getElem? (i := 812) (by decide +kernel)⟩
theorem lw_p27 : lw_okq (⟨"FountainTalkModel", "saidOf", "(II)I"⟩, 22) := ⟨⟨by decide +kernel, by decide +kernel⟩, List.mem_of_getElem? (i := 705) (by decide +kernel), List.mem_of_getElem? (i := 827) (by decide +kernel), List.mem_of_getElem? (i := 828) (by decide +kernel)⟩
theorem lw_p28 : lw_okq (⟨"FountainTalkModel", "addsOf", "(II)I"⟩, 22) := ⟨⟨by decide +kernel, by decide +kernel⟩, List.mem_of_getElem? (i := 705) (by decide +kernel), List.mem_of_getElem? (i := 831) (by decide +kernel), List.mem_of_getElem? (i := 832) (by decide +kernel)⟩
theorem lw_p29 : lw_okq (⟨"FountainTalkModel", "gives", "(IIII)I"⟩, 22) := ⟨⟨by decide +kernel, by decide +kernel⟩, List.mem_of_getElem? (i := 705) (by decide +kernel), List.mem_of_getElem? (i := 835) (by decide +kernel), List.mem_of_getElem? (i := 836) (by decide +kernel)⟩
theorem lw_p30 : lw_okq (⟨"FountainTalkModel", "works", "(I)I"⟩, 22) := ⟨⟨by decide +kernel, by decide +kernel⟩, List.mem_of_getElem? (i := 705) (by decide +kernel), List.mem_of_getElem? (i := 839) (by decide +kernel), List.mem_of_getElem? (i := 840) (by decide +kernel)⟩
theorem lw_p31 : lw_okq (⟨"FountainTalkModel", "doesSayOn", "(II)Z"⟩, 22) := ⟨⟨by decide +kernel, by decide +kernel⟩, List.mem_of_getElem? (i := 705) (by decide +kernel), List.mem_of_getElem? (i := 853) (by decide +kernel), List.mem_of_getElem? (i := 854) (by decide +kernel)⟩
def lw_privs_2 : List (MethodName × Nat) := [(⟨"FountainTalk", "letOut", "(II)I"⟩, 8), (⟨"FountainTalk", "fewestToShut", "(III)I"⟩, 8), (⟨"FountainTalk", "fewestToOpen", "(IIII)I"⟩, 8), (⟨"FountainTalk", "isHeardAsIn", "(LFountainTalk$Sheet;)Z"⟩, 8), (⟨"FountainTalk$Speaker", "speak", "(IIII)I"⟩, 6), (⟨"FountainTalk$Speaker", "begin", "(I)V"⟩, 6), (⟨"FountainTalk$Speaker", "part", "(I)I"⟩, 6), (⟨"FountainTalkModel", "error", "(I)I"⟩, 22), (⟨"FountainTalkModel", "isFountain", "(I)Z"⟩, 22), (⟨"FountainTalkModel", "of", "(II)I"⟩, 22), (⟨"FountainTalkModel", "becomes", "(II)I"⟩, 22), (⟨"FountainTalkModel", "saidOf", "(II)I"⟩, 22), (⟨"FountainTalkModel", "addsOf", "(II)I"⟩, 22), (⟨"FountainTalkModel", "gives", "(IIII)I"⟩, 22), (⟨"FountainTalkModel", "works", "(I)I"⟩, 22), (⟨"FountainTalkModel", "doesSayOn", "(II)Z"⟩, 22)]
theorem lw_r2 : ∀ q ∈ lw_privs_2, lw_okq q := List.forall_mem_cons.mpr ⟨lw_p16, List.forall_mem_cons.mpr ⟨lw_p17, List.forall_mem_cons.mpr ⟨lw_p18, List.forall_mem_cons.mpr ⟨lw_p19, List.forall_mem_cons.mpr ⟨lw_p20, List.forall_mem_cons.mpr ⟨lw_p21, List.forall_mem_cons.mpr ⟨lw_p22, List.forall_mem_cons.mpr ⟨lw_p23, List.forall_mem_cons.mpr ⟨lw_p24, List.forall_mem_cons.mpr ⟨lw_p25, List.forall_mem_cons.mpr ⟨lw_p26, List.forall_mem_cons.mpr ⟨lw_p27, List.forall_mem_cons.mpr ⟨lw_p28, List.forall_mem_cons.mpr ⟨lw_p29, List.forall_mem_cons.mpr ⟨lw_p30, List.forall_mem_cons.mpr ⟨lw_p31, fun _ h => absurd h List.not_mem_nil⟩⟩⟩⟩⟩⟩⟩⟩⟩⟩⟩⟩⟩⟩⟩⟩
theorem lw_p32 : lw_okq (⟨"FountainTalkModel", "isPipe", "(I)Z"⟩, 22) := ⟨⟨by decide +kernel, by decide +kernel⟩, List.mem_of_getElem? (i := 705) (by decide +kernel), List.mem_of_getElem? (i := 866) (by decide +kernel), List.mem_of_getElem? (i := 867) (by decide +kernel)⟩
theorem lw_p33 : lw_okq (⟨"FountainTalkModel", "about", "(II)I"⟩, 22) := ⟨⟨by decide +kernel, by decide +kernel⟩, List.mem_of_getElem? (i := 705) (by decide +kernel), List.mem_of_getElem? (i := 870) (by decide +kernel), List.mem_of_getElem? (i := 871) (by decide +kernel)⟩
theorem lw_p34 : lw_okq (⟨"FountainTalkModel", "slowOf", "(I)I"⟩, 22) := ⟨⟨by decide +kernel, by decide +kernel⟩, List.mem_of_getElem? (i := 705) (by decide +kernel), List.mem_of_getElem? (i := 874) (by decide +kernel), List.mem_of_getElem? (i := 875) (by decide +kernel)⟩
theorem lw_p35 : lw_okq (⟨"FountainTalkModel", "any", "()V"⟩, 22) := ⟨⟨by decide +kernel, by decide +kernel⟩, List.mem_of_getElem? (i := 705) (by decide +kernel), List.mem_of_getElem? (i := 895) (by decide +kernel), List.mem_of_getElem? (i := 896) (by decide +kernel)⟩
theorem lw_p36 : lw_okq (⟨"FountainTalkModel", "all", "()V"⟩, 22) := ⟨⟨by decide +kernel, by decide +kernel⟩, List.mem_of_getElem? (i := 705) (by decide +kernel), List.mem_of_getElem? (i := 899) (by decide +kernel), List.mem_of_getElem? (i := 900) (by decide +kernel)⟩
theorem lw_p37 : lw_okq (⟨"FountainTalkModel", "compares", "()V"⟩, 22) := ⟨⟨by decide +kernel, by decide +kernel⟩, List.mem_of_getElem? (i := 705) (by decide +kernel), List.mem_of_getElem? (i := 903) (by decide +kernel), List.mem_of_getElem? (i := 904) (by decide +kernel)⟩
theorem lw_p38 : lw_okq (⟨"FountainTalkModel", "sum", "()V"⟩, 22) := ⟨⟨by decide +kernel, by decide +kernel⟩, List.mem_of_getElem? (i := 705) (by decide +kernel), List.mem_of_getElem? (i := 907) (by decide +kernel), List.mem_of_getElem? (i := 908) (by decide +kernel)⟩
theorem lw_p39 : lw_okq (⟨"FountainTalkModel", "times", "()V"⟩, 22) := ⟨⟨by decide +kernel, by decide +kernel⟩, List.mem_of_getElem? (i := 705) (by decide +kernel), List.mem_of_getElem? (i := 911) (by decide +kernel), List.mem_of_getElem? (i := 912) (by decide +kernel)⟩
theorem lw_p40 : lw_okq (⟨"FountainTalkModel", "one", "()V"⟩, 22) := ⟨⟨by decide +kernel, by decide +kernel⟩, List.mem_of_getElem? (i := 705) (by decide +kernel), List.mem_of_getElem? (i := 915) (by decide +kernel), List.mem_of_getElem? (i := 916) (by decide +kernel)⟩
theorem lw_p41 : lw_okq (⟨"FountainTalkModel", "look", "()I"⟩, 22) := ⟨⟨by decide +kernel, by decide +kernel⟩, List.mem_of_getElem? (i := 705) (by decide +kernel), List.mem_of_getElem? (i := 919) (by decide +kernel), List.mem_of_getElem? (i := 920) (by decide +kernel)⟩
theorem lw_p42 : lw_okq (⟨"FountainTalkModel", "nameOf", "(I)I"⟩, 22) := ⟨⟨by decide +kernel, by decide +kernel⟩, List.mem_of_getElem? (i := 705) (by decide +kernel), List.mem_of_getElem? (i := 923) (by decide +kernel), List.mem_of_getElem? (i := 924) (by decide +kernel)⟩
theorem lw_p43 : lw_okq (⟨"FountainTalkModel", "lays", "(II)V"⟩, 22) := ⟨⟨by decide +kernel, by decide +kernel⟩, List.mem_of_getElem? (i := 705) (by decide +kernel), List.mem_of_getElem? (i := 927) (by decide +kernel), List.mem_of_getElem? (i := 928) (by decide +kernel)⟩
theorem lw_p44 : lw_okq (⟨"FountainTalkModel", "opens", "(I)V"⟩, 22) := ⟨⟨by decide +kernel, by decide +kernel⟩, List.mem_of_getElem? (i := 705) (by decide +kernel), List.mem_of_getElem? (i := 931) (by decide +kernel), List.mem_of_getElem? (i := 932) (by decide +kernel)⟩
theorem lw_p45 : lw_okq (⟨"FountainTalkModel", "number", "()V"⟩, 22) := ⟨⟨by decide +kernel, by decide +kernel⟩, List.mem_of_getElem? (i := 705) (by decide +kernel), List.mem_of_getElem? (i := 935) (by decide +kernel), List.mem_of_getElem? (i := 936) (by decide +kernel)⟩
theorem lw_p46 : lw_okq (⟨"FountainTalkModel", "spreadsNow", "(II)V"⟩, 22) := ⟨⟨by decide +kernel, by decide +kernel⟩, List.mem_of_getElem? (i := 705) (by decide +kernel), List.mem_of_getElem? (i := 951) (by decide +kernel), List.mem_of_getElem? (i := 952) (by decide +kernel)⟩
theorem lw_p47 : lw_okq (⟨"FountainTalkModel", "findSlow", "()V"⟩, 22) := ⟨⟨by decide +kernel, by decide +kernel⟩, List.mem_of_getElem? (i := 705) (by decide +kernel), List.mem_of_getElem? (i := 955) (by decide +kernel), List.mem_of_getElem? (i := 956) (by decide +kernel)⟩
def lw_privs_3 : List (MethodName × Nat) := [(⟨"FountainTalkModel", "isPipe", "(I)Z"⟩, 22), (⟨"FountainTalkModel", "about", "(II)I"⟩, 22), (⟨"FountainTalkModel", "slowOf", "(I)I"⟩, 22), (⟨"FountainTalkModel", "any", "()V"⟩, 22), (⟨"FountainTalkModel", "all", "()V"⟩, 22), (⟨"FountainTalkModel", "compares", "()V"⟩, 22), (⟨"FountainTalkModel", "sum", "()V"⟩, 22), (⟨"FountainTalkModel", "times", "()V"⟩, 22), (⟨"FountainTalkModel", "one", "()V"⟩, 22), (⟨"FountainTalkModel", "look", "()I"⟩, 22), (⟨"FountainTalkModel", "nameOf", "(I)I"⟩, 22), (⟨"FountainTalkModel", "lays", "(II)V"⟩, 22), (⟨"FountainTalkModel", "opens", "(I)V"⟩, 22), (⟨"FountainTalkModel", "number", "()V"⟩, 22), (⟨"FountainTalkModel", "spreadsNow", "(II)V"⟩, 22), (⟨"FountainTalkModel", "findSlow", "()V"⟩, 22)]
theorem lw_r3 : ∀ q ∈ lw_privs_3, lw_okq q := List.forall_mem_cons.mpr ⟨lw_p32, List.forall_mem_cons.mpr ⟨lw_p33, List.forall_mem_cons.mpr ⟨lw_p34, List.forall_mem_cons.mpr ⟨lw_p35, List.forall_mem_cons.mpr ⟨lw_p36, List.forall_mem_cons.mpr ⟨lw_p37, List.forall_mem_cons.mpr ⟨lw_p38, List.forall_mem_cons.mpr ⟨lw_p39, List.forall_mem_cons.mpr ⟨lw_p40, List.forall_mem_cons.mpr ⟨lw_p41, List.forall_mem_cons.mpr ⟨lw_p42, List.forall_mem_cons.mpr ⟨lw_p43, List.forall_mem_cons.mpr ⟨lw_p44, List.forall_mem_cons.mpr ⟨lw_p45, List.forall_mem_cons.mpr ⟨lw_p46, List.forall_mem_cons.mpr ⟨lw_p47, fun _ h => absurd h List.not_mem_nil⟩⟩⟩⟩⟩⟩⟩⟩⟩⟩⟩⟩⟩⟩⟩⟩
theorem lw_p48 : lw_okq (⟨"FountainTalkModel", "opened", "()I"⟩, 22) := ⟨⟨by decide +kernel, by decide +kernel⟩, List.mem_of_getElem? (i := 705) (by decide +kernel), List.mem_of_getElem? (i := 959) (by decide +kernel), List.mem_of_getElem? (i := 960) (by decide +kernel)⟩
theorem lw_p49 : lw_okq (⟨"FountainTalkModel", "spreads", "(III)V"⟩, 22) := ⟨⟨by decide +kernel, by decide +kernel⟩, List.mem_of_getElem? (i := 705) (by decide +kernel), List.mem_of_getElem? (i := 963) (by decide +kernel), List.mem_of_getElem? (i := 964) (by decide +kernel)⟩
theorem lw_p50 : lw_okq (⟨"FountainTalkModel", "saysOn", "(II)V"⟩, 22) := ⟨⟨by decide +kernel, by decide +kernel⟩, List.mem_of_getElem? (i := 705) (by decide +kernel), List.mem_of_getElem? (i := 967) (by decide +kernel), List.mem_of_getElem? (i := 968) (by decide +kernel)⟩
theorem lw_p51 : lw_okq (⟨"FountainTalkModel", "hearers", "()I"⟩, 22) := ⟨⟨by decide +kernel, by decide +kernel⟩, List.mem_of_getElem? (i := 705) (by decide +kernel), List.mem_of_getElem? (i := 971) (by decide +kernel), List.mem_of_getElem? (i := 972) (by decide +kernel)⟩
theorem lw_p52 : lw_okq (⟨"FountainTalkModel", "lets", "(II)I"⟩, 22) := ⟨⟨by decide +kernel, by decide +kernel⟩, List.mem_of_getElem? (i := 705) (by decide +kernel), List.mem_of_getElem? (i := 984) (by decide +kernel), List.mem_of_getElem? (i := 985) (by decide +kernel)⟩
theorem lw_p53 : lw_okq (⟨"FountainTalkModel", "draw", "()I"⟩, 22) := ⟨⟨by decide +kernel, by decide +kernel⟩, List.mem_of_getElem? (i := 705) (by decide +kernel), List.mem_of_getElem? (i := 997) (by decide +kernel), List.mem_of_getElem? (i := 998) (by decide +kernel)⟩
theorem lw_p54 : lw_okq (⟨"FountainTalkModel", "isSo", "(I)Z"⟩, 22) := ⟨⟨by decide +kernel, by decide +kernel⟩, List.mem_of_getElem? (i := 705) (by decide +kernel), List.mem_of_getElem? (i := 1028) (by decide +kernel), List.mem_of_getElem? (i := 1029) (by decide +kernel)⟩
theorem lw_p55 : lw_okq (⟨"FountainTalkModel", "splashes", "(II)I"⟩, 22) := ⟨⟨by decide +kernel, by decide +kernel⟩, List.mem_of_getElem? (i := 705) (by decide +kernel), List.mem_of_getElem? (i := 1036) (by decide +kernel), List.mem_of_getElem? (i := 1037) (by decide +kernel)⟩
theorem lw_p56 : lw_okq (⟨"FountainTalkModel", "lionSplashes", "(II)I"⟩, 22) := ⟨⟨by decide +kernel, by decide +kernel⟩, List.mem_of_getElem? (i := 705) (by decide +kernel), List.mem_of_getElem? (i := 1040) (by decide +kernel), List.mem_of_getElem? (i := 1041) (by decide +kernel)⟩
theorem lw_p57 : lw_okq (⟨"FountainTalkModel", "begins", "(I)V"⟩, 22) := ⟨⟨by decide +kernel, by decide +kernel⟩, List.mem_of_getElem? (i := 705) (by decide +kernel), List.mem_of_getElem? (i := 1044) (by decide +kernel), List.mem_of_getElem? (i := 1045) (by decide +kernel)⟩
theorem lw_p58 : lw_okq (⟨"FountainTalkModel", "plainSplashes", "(II)I"⟩, 22) := ⟨⟨by decide +kernel, by decide +kernel⟩, List.mem_of_getElem? (i := 705) (by decide +kernel), List.mem_of_getElem? (i := 1048) (by decide +kernel), List.mem_of_getElem? (i := 1049) (by decide +kernel)⟩
theorem lw_p59 : lw_okq (⟨"FountainTalkModel", "lisps", "(II)I"⟩, 22) := ⟨⟨by decide +kernel, by decide +kernel⟩, List.mem_of_getElem? (i := 705) (by decide +kernel), List.mem_of_getElem? (i := 1052) (by decide +kernel), List.mem_of_getElem? (i := 1053) (by decide +kernel)⟩
theorem lw_p60 : lw_okq (⟨"FountainTalkModel", "dolphinLisps", "(II)I"⟩, 22) := ⟨⟨by decide +kernel, by decide +kernel⟩, List.mem_of_getElem? (i := 705) (by decide +kernel), List.mem_of_getElem? (i := 1056) (by decide +kernel), List.mem_of_getElem? (i := 1057) (by decide +kernel)⟩
theorem lw_p61 : lw_okq (⟨"FountainTalkModel", "plainLisps", "(II)I"⟩, 22) := ⟨⟨by decide +kernel, by decide +kernel⟩, List.mem_of_getElem? (i := 705) (by decide +kernel), List.mem_of_getElem? (i := 1060) (by decide +kernel), List.mem_of_getElem? (i := 1061) (by decide +kernel)⟩
theorem lw_p62 : lw_okq (⟨"FountainTalkModel", "drips", "(II)I"⟩, 22) := ⟨⟨by decide +kernel, by decide +kernel⟩, List.mem_of_getElem? (i := 705) (by decide +kernel), List.mem_of_getElem? (i := 1064) (by decide +kernel), List.mem_of_getElem? (i := 1065) (by decide +kernel)⟩
theorem lw_p63 : lw_okq (⟨"FountainTalkModel", "plainDrips", "(II)I"⟩, 22) := ⟨⟨by decide +kernel, by decide +kernel⟩, List.mem_of_getElem? (i := 705) (by decide +kernel), List.mem_of_getElem? (i := 1068) (by decide +kernel), List.mem_of_getElem? (i := 1069) (by decide +kernel)⟩
def lw_privs_4 : List (MethodName × Nat) := [(⟨"FountainTalkModel", "opened", "()I"⟩, 22), (⟨"FountainTalkModel", "spreads", "(III)V"⟩, 22), (⟨"FountainTalkModel", "saysOn", "(II)V"⟩, 22), (⟨"FountainTalkModel", "hearers", "()I"⟩, 22), (⟨"FountainTalkModel", "lets", "(II)I"⟩, 22), (⟨"FountainTalkModel", "draw", "()I"⟩, 22), (⟨"FountainTalkModel", "isSo", "(I)Z"⟩, 22), (⟨"FountainTalkModel", "splashes", "(II)I"⟩, 22), (⟨"FountainTalkModel", "lionSplashes", "(II)I"⟩, 22), (⟨"FountainTalkModel", "begins", "(I)V"⟩, 22), (⟨"FountainTalkModel", "plainSplashes", "(II)I"⟩, 22), (⟨"FountainTalkModel", "lisps", "(II)I"⟩, 22), (⟨"FountainTalkModel", "dolphinLisps", "(II)I"⟩, 22), (⟨"FountainTalkModel", "plainLisps", "(II)I"⟩, 22), (⟨"FountainTalkModel", "drips", "(II)I"⟩, 22), (⟨"FountainTalkModel", "plainDrips", "(II)I"⟩, 22)]
theorem lw_r4 : ∀ q ∈ lw_privs_4, lw_okq q := List.forall_mem_cons.mpr ⟨lw_p48, List.forall_mem_cons.mpr ⟨lw_p49, List.forall_mem_cons.mpr ⟨lw_p50, List.forall_mem_cons.mpr ⟨lw_p51, List.forall_mem_cons.mpr ⟨lw_p52, List.forall_mem_cons.mpr ⟨lw_p53, List.forall_mem_cons.mpr ⟨lw_p54, List.forall_mem_cons.mpr ⟨lw_p55, List.forall_mem_cons.mpr ⟨lw_p56, List.forall_mem_cons.mpr ⟨lw_p57, List.forall_mem_cons.mpr ⟨lw_p58, List.forall_mem_cons.mpr ⟨lw_p59, List.forall_mem_cons.mpr ⟨lw_p60, List.forall_mem_cons.mpr ⟨lw_p61, List.forall_mem_cons.mpr ⟨lw_p62, List.forall_mem_cons.mpr ⟨lw_p63, fun _ h => absurd h List.not_mem_nil⟩⟩⟩⟩⟩⟩⟩⟩⟩⟩⟩⟩⟩⟩⟩⟩
theorem lw_p64 : lw_okq (⟨"FountainTalkModel", "partsBy", "(II)I"⟩, 22) := ⟨⟨by decide +kernel, by decide +kernel⟩, List.mem_of_getElem? (i := 705) (by decide +kernel), List.mem_of_getElem? (i := 1072) (by decide +kernel), List.mem_of_getElem? (i := 1073) (by decide +kernel)⟩
theorem lw_p65 : lw_okq (⟨"FountainTalkModel", "plainParts", "(II)I"⟩, 22) := ⟨⟨by decide +kernel, by decide +kernel⟩, List.mem_of_getElem? (i := 705) (by decide +kernel), List.mem_of_getElem? (i := 1076) (by decide +kernel), List.mem_of_getElem? (i := 1077) (by decide +kernel)⟩
theorem lw_p66 : lw_okq (⟨"FountainTalkModel", "notThere", "(I)I"⟩, 22) := ⟨⟨by decide +kernel, by decide +kernel⟩, List.mem_of_getElem? (i := 705) (by decide +kernel), List.mem_of_getElem? (i := 1093) (by decide +kernel), List.mem_of_getElem? (i := 1094) (by decide +kernel)⟩
theorem lw_p67 : lw_okq (⟨"FountainTalkModel", "notMoved", "(IIIII)I"⟩, 22) := ⟨⟨by decide +kernel, by decide +kernel⟩, List.mem_of_getElem? (i := 705) (by decide +kernel), List.mem_of_getElem? (i := 1101) (by decide +kernel), List.mem_of_getElem? (i := 1102) (by decide +kernel)⟩
def lw_privs_5 : List (MethodName × Nat) := [(⟨"FountainTalkModel", "partsBy", "(II)I"⟩, 22), (⟨"FountainTalkModel", "plainParts", "(II)I"⟩, 22), (⟨"FountainTalkModel", "notThere", "(I)I"⟩, 22), (⟨"FountainTalkModel", "notMoved", "(IIIII)I"⟩, 22)]
theorem lw_r5 : ∀ q ∈ lw_privs_5, lw_okq q := List.forall_mem_cons.mpr ⟨lw_p64, List.forall_mem_cons.mpr ⟨lw_p65, List.forall_mem_cons.mpr ⟨lw_p66, List.forall_mem_cons.mpr ⟨lw_p67, fun _ h => absurd h List.not_mem_nil⟩⟩⟩⟩
def lw_privs : List (MethodName × Nat) := lw_privs_1 ++ (lw_privs_2 ++ (lw_privs_3 ++ (lw_privs_4 ++ (lw_privs_5))))
def lw_tbl : List Cond := k2_sels lw_privs ++ tables_1
theorem lw_privs_ok : ∀ q ∈ lw_privs, lw_okq q := by
  show ∀ q ∈ lw_privs_1 ++ (lw_privs_2 ++ (lw_privs_3 ++ (lw_privs_4 ++ (lw_privs_5)))), lw_okq q
  exact List.forall_mem_append.mpr ⟨lw_r1, List.forall_mem_append.mpr ⟨lw_r2, List.forall_mem_append.mpr ⟨lw_r3, List.forall_mem_append.mpr ⟨lw_r4, lw_r5⟩⟩⟩⟩
/-! ===== BEGIN words of one list among another's, by their places ===== -/
theorem goodIn_r {big : List Cond} (ws : List Cond) (ps : List Nat) (hp : ws = ps.filterMap (fun i => big[i]?)) (h : ws.all goodWord = true) : GoodIn big ws := by
  intro w hw
  have h1 := List.all_eq_true.mp h w hw
  rw [hp] at hw
  obtain ⟨i, -, hi⟩ := List.mem_filterMap.mp hw
  have hm : w ∈ big := by first | exact List.mem_of_getElem? hi | exact List.getElem?_mem hi
  exact ⟨hm, good_of_word h1⟩
theorem goodIn_app {big a b : List Cond} (ha : GoodIn big a) (hb : GoodIn big b) : GoodIn big (a ++ b) := fun w h => (List.mem_append.mp h).elim (ha w) (hb w)
theorem goodIn_ca {big a b : List Cond} {c : Cond} (ha : GoodIn big (c :: a)) (hb : GoodIn big b) : GoodIn big (c :: (a ++ b)) := fun w h => (List.mem_cons.mp h).elim (fun e => ha w (List.mem_cons.mpr (Or.inl e))) (fun h => (List.mem_append.mp h).elim (fun h => ha w (List.mem_cons.mpr (Or.inr h))) (hb w))
theorem goodIn_sub {big ws : List Cond} (hm : ∀ w ∈ ws, w ∈ big) (h : ws.all goodWord = true) : GoodIn big ws := fun w hw => ⟨hm w hw, good_of_word (List.all_eq_true.mp h w hw)⟩
/-! ===== END ===== -/

/-! ===== BEGIN printed: names, fields, word lists, decode rows ===== -/
def RX0 : String := "FountainTalk$City"
def TX0 : u_T := fun k => match k with
  | 0 => ("FountainTalk$City", "fountains", "I", false)
  | 1 => ("FountainTalk$City", "kind", "[I", true)
  | 2 => ("FountainTalk$City", "m", "[I", true)
  | 3 => ("FountainTalk$City", "height", "[I", true)
  | 4 => ("FountainTalk$City", "talk", "[I", true)
  | 5 => ("FountainTalk$City", "pipes", "I", false)
  | 6 => ("FountainTalk$City", "from", "[I", true)
  | 7 => ("FountainTalk$City", "to", "[I", true)
  | 8 => ("FountainTalk$City", "delay", "[I", true)
  | 9 => ("FountainTalk$City", "open", "I", false)
  | 10 => ("FountainTalk$City", "frost", "I", false)
  | 11 => ("FountainTalk$City", "day", "I", false)
  | 12 => ("FountainTalk$City", "z", "I", false)
  | 13 => ("FountainTalk$City", "tape", "[I", true)
  | 14 => ("FountainTalk$City", "taped", "I", false)
  | 15 => ("FountainTalk$City", "texts", "[LFountainTalk$Text;", true)
  | 16 => ("FountainTalk$City", "waiting", "[I", true)
  | _ => ("FountainTalk$City", "waits", "I", false)
def tyX0 : Nat → FieldType := fun k => match k with
  | 0 => .int
  | 1 => .array .int
  | 2 => .array .int
  | 3 => .array .int
  | 4 => .array .int
  | 5 => .int
  | 6 => .array .int
  | 7 => .array .int
  | 8 => .array .int
  | 9 => .int
  | 10 => .int
  | 11 => .int
  | 12 => .int
  | 13 => .array .int
  | 14 => .int
  | 15 => .array (.object "FountainTalk$Text")
  | 16 => .array .int
  | _ => .int
abbrev wsX00 : List Cond := u_ws RX0 TX0 18
theorem nmX0 : ∀ a, a < 18 → ∀ b, b < 18 → a ≠ b → (TX0 a).2.1 ≠ (TX0 b).2.1 := by decide +kernel
theorem tyX0_ok : ∀ k, k < 18 → parseFieldDescriptor (TX0 k).2.2.1 = some (tyX0 k) := by decide +kernel
abbrev cX0_init : ByteArray := prog_2_method_1_code
def yX0_init : MethodName := ⟨RX0, "<init>", "()V"⟩
abbrev cX0_madeOf : ByteArray := prog_2_method_2_code
def yX0_madeOf : MethodName := ⟨RX0, "madeOf", "(II)I"⟩
abbrev cX0_withAdded : ByteArray := prog_2_method_3_code
def yX0_withAdded : MethodName := ⟨RX0, "withAdded", "(II)I"⟩
abbrev cX0_isSaidOn : ByteArray := prog_2_method_4_code
def yX0_isSaidOn : MethodName := ⟨RX0, "isSaidOn", "(II)Z"⟩
abbrev cX0_howSlow : ByteArray := prog_2_method_5_code
def yX0_howSlow : MethodName := ⟨RX0, "howSlow", "(I)I"⟩
abbrev cX0_given : ByteArray := prog_2_method_6_code
def yX0_given : MethodName := ⟨RX0, "given", "(IIII)I"⟩
abbrev cX0_passDay : ByteArray := prog_2_method_7_code
def yX0_passDay : MethodName := ⟨RX0, "passDay", "()V"⟩
abbrev cX0_draw : ByteArray := prog_2_method_8_code
def yX0_draw : MethodName := ⟨RX0, "draw", "()I"⟩
abbrev cX0_copyFrom : ByteArray := prog_2_method_9_code
def yX0_copyFrom : MethodName := ⟨RX0, "copyFrom", "(LFountainTalk$City;)V"⟩
def RX1 : String := "FountainTalk$Hearing"
def TX1 : u_T := fun k => match k with
  | 0 => ("FountainTalk$Hearing", "city", "LFountainTalk$City;", true)
  | 1 => ("FountainTalk$Hearing", "slow", "[I", true)
  | 2 => ("FountainTalk$Hearing", "when", "[I", true)
  | 3 => ("FountainTalk$Hearing", "sizes", "[I", true)
  | _ => ("FountainTalk$Hearing", "hearers", "I", false)
def tyX1 : Nat → FieldType := fun k => match k with
  | 0 => .object "FountainTalk$City"
  | 1 => .array .int
  | 2 => .array .int
  | 3 => .array .int
  | _ => .int
abbrev wsX10 : List Cond := u_ws RX1 TX1 5
theorem nmX1 : ∀ a, a < 5 → ∀ b, b < 5 → a ≠ b → (TX1 a).2.1 ≠ (TX1 b).2.1 := by decide +kernel
theorem tyX1_ok : ∀ k, k < 5 → parseFieldDescriptor (TX1 k).2.2.1 = some (tyX1 k) := by decide +kernel
abbrev cX1_init : ByteArray := prog_3_method_1_code
def yX1_init : MethodName := ⟨RX1, "<init>", "(LFountainTalk$City;)V"⟩
abbrev cX1_learnSlow : ByteArray := prog_3_method_2_code
def yX1_learnSlow : MethodName := ⟨RX1, "learnSlow", "()V"⟩
abbrev cX1_spread : ByteArray := prog_3_method_3_code
def yX1_spread : MethodName := ⟨RX1, "spread", "(III)V"⟩
abbrev cX1_isHeardAt : ByteArray := prog_3_method_4_code
def yX1_isHeardAt : MethodName := ⟨RX1, "isHeardAt", "(I)Z"⟩
abbrev cX1_nextToHear : ByteArray := prog_3_method_5_code
def yX1_nextToHear : MethodName := ⟨RX1, "nextToHear", "()I"⟩
abbrev cX1_sayOver : ByteArray := prog_3_method_6_code
def yX1_sayOver : MethodName := ⟨RX1, "sayOver", "(II)V"⟩
abbrev cX1_arrive : ByteArray := prog_3_method_7_code
def yX1_arrive : MethodName := ⟨RX1, "arrive", "(III)V"⟩
def RX2 : String := "FountainTalk$Sheet"
def TX2 : u_T := fun k => match k with
  | 0 => ("FountainTalk$Sheet", "bits", "I", false)
  | 1 => ("FountainTalk$Sheet", "length", "I", false)
  | _ => ("FountainTalk$Sheet", "numbers", "[I", true)
def tyX2 : Nat → FieldType := fun k => match k with
  | 0 => .int
  | 1 => .int
  | _ => .array .int
abbrev wsX20 : List Cond := u_ws RX2 TX2 3
theorem nmX2 : ∀ a, a < 3 → ∀ b, b < 3 → a ≠ b → (TX2 a).2.1 ≠ (TX2 b).2.1 := by decide +kernel
theorem tyX2_ok : ∀ k, k < 3 → parseFieldDescriptor (TX2 k).2.2.1 = some (tyX2 k) := by decide +kernel
abbrev cX2_init : ByteArray := prog_4_method_1_code
def yX2_init : MethodName := ⟨RX2, "<init>", "()V"⟩
abbrev cX2_begin : ByteArray := prog_4_method_2_code
def yX2_begin : MethodName := ⟨RX2, "begin", "(II)V"⟩
abbrev cX2_isMissing : ByteArray := prog_4_method_3_code
def yX2_isMissing : MethodName := ⟨RX2, "isMissing", "()Z"⟩
abbrev cX2_has : ByteArray := prog_4_method_4_code
def yX2_has : MethodName := ⟨RX2, "has", "(II)Z"⟩
abbrev cX2_lowestBits : ByteArray := prog_4_method_5_code
def yX2_lowestBits : MethodName := ⟨RX2, "lowestBits", "(I)I"⟩
def RX3 : String := "FountainTalk$Speaker"
def TX3 : u_T := fun k => match k with
  | 0 => ("FountainTalk$Speaker", "kind", "I", false)
  | 1 => ("FountainTalk$Speaker", "k", "I", false)
  | 2 => ("FountainTalk$Speaker", "m", "I", false)
  | 3 => ("FountainTalk$Speaker", "parted", "Z", false)
  | 4 => ("FountainTalk$Speaker", "bodies", "[I", true)
  | _ => ("FountainTalk$Speaker", "begun", "I", false)
def tyX3 : Nat → FieldType := fun k => match k with
  | 0 => .int
  | 1 => .int
  | 2 => .int
  | 3 => .boolean
  | 4 => .array .int
  | _ => .int
abbrev wsX30 : List Cond := u_ws RX3 TX3 6
theorem nmX3 : ∀ a, a < 6 → ∀ b, b < 6 → a ≠ b → (TX3 a).2.1 ≠ (TX3 b).2.1 := by decide +kernel
theorem tyX3_ok : ∀ k, k < 6 → parseFieldDescriptor (TX3 k).2.2.1 = some (tyX3 k) := by decide +kernel
abbrev cX3_init : ByteArray := prog_5_method_1_code
def yX3_init : MethodName := ⟨RX3, "<init>", "()V"⟩
abbrev cX3_answer : ByteArray := prog_5_method_2_code
def yX3_answer : MethodName := ⟨RX3, "answer", "(LFountainTalk$City;III)I"⟩
abbrev cX3_speak : ByteArray := prog_5_method_3_code
def yX3_speak : MethodName := ⟨RX3, "speak", "(IIII)I"⟩
abbrev cX3_part : ByteArray := prog_5_method_4_code
def yX3_part : MethodName := ⟨RX3, "part", "(I)I"⟩
abbrev cX3_begin : ByteArray := prog_5_method_5_code
def yX3_begin : MethodName := ⟨RX3, "begin", "(I)V"⟩
def RX4 : String := "FountainTalk$Text"
def TX4 : u_T := fun k => match k with
  | 0 => ("FountainTalk$Text", "stands", "Z", false)
  | 1 => ("FountainTalk$Text", "length", "I", false)
  | 2 => ("FountainTalk$Text", "steps", "[I", true)
  | 3 => ("FountainTalk$Text", "stack", "[I", true)
  | 4 => ("FountainTalk$Text", "tape", "[I", false)
  | 5 => ("FountainTalk$Text", "end", "I", false)
  | 6 => ("FountainTalk$Text", "at", "I", false)
  | 7 => ("FountainTalk$Text", "stuck", "Z", false)
  | _ => ("FountainTalk$Text", "names", "Ljava/lang/String;", false)
def tyX4 : Nat → FieldType := fun k => match k with
  | 0 => .boolean
  | 1 => .int
  | 2 => .array .int
  | 3 => .array .int
  | 4 => .array .int
  | 5 => .int
  | 6 => .int
  | 7 => .boolean
  | _ => .object "java/lang/String"
abbrev wsX40 : List Cond := u_ws RX4 TX4 9
theorem nmX4 : ∀ a, a < 9 → ∀ b, b < 9 → a ≠ b → (TX4 a).2.1 ≠ (TX4 b).2.1 := by decide +kernel
theorem tyX4_ok : ∀ k, k < 9 → parseFieldDescriptor (TX4 k).2.2.1 = some (tyX4 k) := by decide +kernel
abbrev cX4_init : ByteArray := prog_6_method_1_code
def yX4_init : MethodName := ⟨RX4, "<init>", "()V"⟩
abbrev cX4_copyFrom : ByteArray := prog_6_method_2_code
def yX4_copyFrom : MethodName := ⟨RX4, "copyFrom", "(LFountainTalk$Text;)V"⟩
abbrev cX4_value : ByteArray := prog_6_method_3_code
def yX4_value : MethodName := ⟨RX4, "value", "(III)I"⟩
abbrev cX4_joined : ByteArray := prog_6_method_4_code
def yX4_joined : MethodName := ⟨RX4, "joined", "(III)I"⟩
abbrev cX4_read : ByteArray := prog_6_method_5_code
def yX4_read : MethodName := ⟨RX4, "read", "([IILjava/lang/String;)I"⟩
abbrev cX4_readLevel : ByteArray := prog_6_method_6_code
def yX4_readLevel : MethodName := ⟨RX4, "readLevel", "(II)V"⟩
abbrev cX4_readPart : ByteArray := prog_6_method_7_code
def yX4_readPart : MethodName := ⟨RX4, "readPart", "(I)V"⟩
abbrev cX4_readNumber : ByteArray := prog_6_method_8_code
def yX4_readNumber : MethodName := ⟨RX4, "readNumber", "()V"⟩
abbrev cX4_readName : ByteArray := prog_6_method_9_code
def yX4_readName : MethodName := ⟨RX4, "readName", "(I)V"⟩
abbrev cX4_readOpened : ByteArray := prog_6_method_10_code
def yX4_readOpened : MethodName := ⟨RX4, "readOpened", "(II)V"⟩
abbrev cX4_peek : ByteArray := prog_6_method_11_code
def yX4_peek : MethodName := ⟨RX4, "peek", "()I"⟩
abbrev cX4_takeSign : ByteArray := prog_6_method_12_code
def yX4_takeSign : MethodName := ⟨RX4, "takeSign", "(I)I"⟩
abbrev cX4_levelOf : ByteArray := prog_6_method_13_code
def yX4_levelOf : MethodName := ⟨RX4, "levelOf", "(I)I"⟩
abbrev cX4_addStep : ByteArray := prog_6_method_14_code
def yX4_addStep : MethodName := ⟨RX4, "addStep", "(I)V"⟩
def RX5 : String := "FountainTalk"
def TX5 : u_T := fun k => match k with
  | 0 => ("FountainTalk", "city", "LFountainTalk$City;", true)
  | 1 => ("FountainTalk", "kept", "LFountainTalk$City;", true)
  | 2 => ("FountainTalk", "images", "I", false)
  | 3 => ("FountainTalk", "hearing", "LFountainTalk$Hearing;", true)
  | 4 => ("FountainTalk", "draft", "LFountainTalk$Text;", true)
  | 5 => ("FountainTalk", "speaker", "LFountainTalk$Speaker;", true)
  | 6 => ("FountainTalk", "sheets", "[LFountainTalk$Sheet;", true)
  | _ => ("FountainTalk", "errors", "[I", true)
def tyX5 : Nat → FieldType := fun k => match k with
  | 0 => .object "FountainTalk$City"
  | 1 => .object "FountainTalk$City"
  | 2 => .int
  | 3 => .object "FountainTalk$Hearing"
  | 4 => .object "FountainTalk$Text"
  | 5 => .object "FountainTalk$Speaker"
  | 6 => .array (.object "FountainTalk$Sheet")
  | _ => .array .int
abbrev wsX50 : List Cond := u_ws RX5 TX5 8
theorem nmX5 : ∀ a, a < 8 → ∀ b, b < 8 → a ≠ b → (TX5 a).2.1 ≠ (TX5 b).2.1 := by decide +kernel
theorem tyX5_ok : ∀ k, k < 8 → parseFieldDescriptor (TX5 k).2.2.1 = some (tyX5 k) := by decide +kernel
abbrev cX5_init : ByteArray := prog_1_method_1_code
def yX5_init : MethodName := ⟨RX5, "<init>", "()V"⟩
abbrev cX5_fountain : ByteArray := prog_1_method_2_code
def yX5_fountain : MethodName := ⟨RX5, "fountain", "(II)I"⟩
abbrev cX5_fountainIs : ByteArray := prog_1_method_3_code
def yX5_fountainIs : MethodName := ⟨RX5, "fountainIs", "(II)I"⟩
abbrev cX5_become : ByteArray := prog_1_method_4_code
def yX5_become : MethodName := ⟨RX5, "become", "(II)I"⟩
abbrev cX5_as : ByteArray := prog_1_method_5_code
def yX5_as : MethodName := ⟨RX5, "as", "(II)I"⟩
abbrev cX5_says : ByteArray := prog_1_method_6_code
def yX5_says : MethodName := ⟨RX5, "says", "(II)I"⟩
abbrev cX5_goesOn : ByteArray := prog_1_method_7_code
def yX5_goesOn : MethodName := ⟨RX5, "goesOn", "(II)I"⟩
abbrev cX5_pipe : ByteArray := prog_1_method_8_code
def yX5_pipe : MethodName := ⟨RX5, "pipe", "(III)I"⟩
abbrev cX5_pipeIs : ByteArray := prog_1_method_9_code
def yX5_pipeIs : MethodName := ⟨RX5, "pipeIs", "(II)I"⟩
abbrev cX5_turn : ByteArray := prog_1_method_10_code
def yX5_turn : MethodName := ⟨RX5, "turn", "(II)I"⟩
abbrev cX5_freeze : ByteArray := prog_1_method_11_code
def yX5_freeze : MethodName := ⟨RX5, "freeze", "(I)I"⟩
abbrev cX5_feed : ByteArray := prog_1_method_12_code
def yX5_feed : MethodName := ⟨RX5, "feed", "(JI)I"⟩
abbrev cX5_text : ByteArray := prog_1_method_13_code
def yX5_text : MethodName := ⟨RX5, "text", "(I)I"⟩
abbrev cX5_untell : ByteArray := prog_1_method_14_code
def yX5_untell : MethodName := ⟨RX5, "untell", "(I)I"⟩
abbrev cX5_law : ByteArray := prog_1_method_15_code
def yX5_law : MethodName := ⟨RX5, "law", "(IIII)I"⟩
abbrev cX5_hears : ByteArray := prog_1_method_16_code
def yX5_hears : MethodName := ⟨RX5, "hears", "(II)I"⟩
abbrev cX5_heard : ByteArray := prog_1_method_17_code
def yX5_heard : MethodName := ⟨RX5, "heard", "(IIII)I"⟩
abbrev cX5_let : ByteArray := prog_1_method_18_code
def yX5_let : MethodName := ⟨RX5, "let", "(II)I"⟩
abbrev cX5_days : ByteArray := prog_1_method_19_code
def yX5_days : MethodName := ⟨RX5, "days", "(I)I"⟩
abbrev cX5_loose : ByteArray := prog_1_method_20_code
def yX5_loose : MethodName := ⟨RX5, "loose", "(I)I"⟩
abbrev cX5_seed : ByteArray := prog_1_method_21_code
def yX5_seed : MethodName := ⟨RX5, "seed", "(I)I"⟩
abbrev cX5_hush : ByteArray := prog_1_method_22_code
def yX5_hush : MethodName := ⟨RX5, "hush", "(IIII)I"⟩
abbrev cX5_reach : ByteArray := prog_1_method_23_code
def yX5_reach : MethodName := ⟨RX5, "reach", "(IIIII)I"⟩
abbrev cX5_odds : ByteArray := prog_1_method_24_code
def yX5_odds : MethodName := ⟨RX5, "odds", "(III)I"⟩
abbrev cX5_fits : ByteArray := prog_1_method_25_code
def yX5_fits : MethodName := ⟨RX5, "fits", "(II)I"⟩
abbrev cX5_voice : ByteArray := prog_1_method_26_code
def yX5_voice : MethodName := ⟨RX5, "voice", "(III)I"⟩
abbrev cX5_body : ByteArray := prog_1_method_27_code
def yX5_body : MethodName := ⟨RX5, "body", "(I)I"⟩
abbrev cX5_sheet : ByteArray := prog_1_method_28_code
def yX5_sheet : MethodName := ⟨RX5, "sheet", "(III)I"⟩
abbrev cX5_put : ByteArray := prog_1_method_29_code
def yX5_put : MethodName := ⟨RX5, "put", "(III)I"⟩
abbrev cX5_move : ByteArray := prog_1_method_30_code
def yX5_move : MethodName := ⟨RX5, "move", "(IIIII)I"⟩
abbrev cX5_talks : ByteArray := prog_1_method_31_code
def yX5_talks : MethodName := ⟨RX5, "talks", "(I)I"⟩
abbrev cX5_judge : ByteArray := prog_1_method_32_code
def yX5_judge : MethodName := ⟨RX5, "judge", "(I)I"⟩
abbrev cX5_image : ByteArray := prog_1_method_33_code
def yX5_image : MethodName := ⟨RX5, "image", "()I"⟩
abbrev cX5_restore : ByteArray := prog_1_method_34_code
def yX5_restore : MethodName := ⟨RX5, "restore", "()I"⟩
abbrev cX5_tell : ByteArray := prog_1_method_35_code
def yX5_tell : MethodName := ⟨RX5, "tell", "(I)I"⟩
abbrev cX5_check : ByteArray := prog_1_method_36_code
def yX5_check : MethodName := ⟨RX5, "check", "()I"⟩
abbrev cX5_count : ByteArray := prog_1_method_37_code
def yX5_count : MethodName := ⟨RX5, "count", "(I)I"⟩
abbrev cX5_told : ByteArray := prog_1_method_38_code
def yX5_told : MethodName := ⟨RX5, "told", "(I)I"⟩
abbrev cX5_error : ByteArray := prog_1_method_39_code
def yX5_error : MethodName := ⟨RX5, "error", "(I)I"⟩
abbrev cX5_isBit : ByteArray := prog_1_method_40_code
def yX5_isBit : MethodName := ⟨RX5, "isBit", "(I)Z"⟩
abbrev cX5_isDigit : ByteArray := prog_1_method_41_code
def yX5_isDigit : MethodName := ⟨RX5, "isDigit", "(I)Z"⟩
abbrev cX5_isKindAndM : ByteArray := prog_1_method_42_code
def yX5_isKindAndM : MethodName := ⟨RX5, "isKindAndM", "(I)Z"⟩
abbrev cX5_isFountain : ByteArray := prog_1_method_43_code
def yX5_isFountain : MethodName := ⟨RX5, "isFountain", "(I)Z"⟩
abbrev cX5_isPipe : ByteArray := prog_1_method_44_code
def yX5_isPipe : MethodName := ⟨RX5, "isPipe", "(I)Z"⟩
abbrev cX5_isSaying : ByteArray := prog_1_method_45_code
def yX5_isSaying : MethodName := ⟨RX5, "isSaying", "(II)Z"⟩
abbrev cX5_isSheet : ByteArray := prog_1_method_46_code
def yX5_isSheet : MethodName := ⟨RX5, "isSheet", "(I)Z"⟩
abbrev cX5_isUnder : ByteArray := prog_1_method_47_code
def yX5_isUnder : MethodName := ⟨RX5, "isUnder", "(II)Z"⟩
abbrev cX5_commonDivisor : ByteArray := prog_1_method_48_code
def yX5_commonDivisor : MethodName := ⟨RX5, "commonDivisor", "(II)I"⟩
abbrev cX5_letOut : ByteArray := prog_1_method_49_code
def yX5_letOut : MethodName := ⟨RX5, "letOut", "(II)I"⟩
abbrev cX5_fewestToShut : ByteArray := prog_1_method_50_code
def yX5_fewestToShut : MethodName := ⟨RX5, "fewestToShut", "(III)I"⟩
abbrev cX5_fewestToOpen : ByteArray := prog_1_method_51_code
def yX5_fewestToOpen : MethodName := ⟨RX5, "fewestToOpen", "(IIII)I"⟩
abbrev cX5_isHeardAsIn : ByteArray := prog_1_method_52_code
def yX5_isHeardAsIn : MethodName := ⟨RX5, "isHeardAsIn", "(LFountainTalk$Sheet;)Z"⟩
def RX6 : String := "FountainTalkModel"
def TX6 : u_T := fun k => match k with
  | 0 => ("FountainTalkModel", "row", "[I", true)
  | 1 => ("FountainTalkModel", "kept", "[I", true)
  | 2 => ("FountainTalkModel", "images", "I", false)
  | 3 => ("FountainTalkModel", "errors", "[I", true)
  | 4 => ("FountainTalkModel", "bitsOf", "[I", true)
  | 5 => ("FountainTalkModel", "sizeOf", "[I", true)
  | 6 => ("FountainTalkModel", "cells", "[I", true)
  | 7 => ("FountainTalkModel", "act", "[I", true)
  | 8 => ("FountainTalkModel", "with", "[I", true)
  | 9 => ("FountainTalkModel", "facts", "[I", true)
  | 10 => ("FountainTalkModel", "pile", "[I", true)
  | 11 => ("FountainTalkModel", "laid", "I", false)
  | 12 => ("FountainTalkModel", "here", "I", false)
  | 13 => ("FountainTalkModel", "opened", "I", false)
  | 14 => ("FountainTalkModel", "bad", "Z", false)
  | 15 => ("FountainTalkModel", "using", "I", false)
  | 16 => ("FountainTalkModel", "when", "[I", true)
  | 17 => ("FountainTalkModel", "heardAs", "[I", true)
  | 18 => ("FountainTalkModel", "slow", "[I", true)
  | 19 => ("FountainTalkModel", "trace", "[I", true)
  | 20 => ("FountainTalkModel", "traced", "I", false)
  | _ => ("FountainTalkModel", "isParted", "Z", false)
def tyX6 : Nat → FieldType := fun k => match k with
  | 0 => .array .int
  | 1 => .array .int
  | 2 => .int
  | 3 => .array .int
  | 4 => .array .int
  | 5 => .array .int
  | 6 => .array .int
  | 7 => .array .int
  | 8 => .array .int
  | 9 => .array .int
  | 10 => .array .int
  | 11 => .int
  | 12 => .int
  | 13 => .int
  | 14 => .boolean
  | 15 => .int
  | 16 => .array .int
  | 17 => .array .int
  | 18 => .array .int
  | 19 => .array .int
  | 20 => .int
  | _ => .boolean
abbrev wsX60 : List Cond := u_ws RX6 TX6 22
theorem nmX6 : ∀ a, a < 22 → ∀ b, b < 22 → a ≠ b → (TX6 a).2.1 ≠ (TX6 b).2.1 := by decide +kernel
theorem tyX6_ok : ∀ k, k < 22 → parseFieldDescriptor (TX6 k).2.2.1 = some (tyX6 k) := by decide +kernel
abbrev cX6_init : ByteArray := prog_8_method_1_code
def yX6_init : MethodName := ⟨RX6, "<init>", "()V"⟩
abbrev cX6_error : ByteArray := prog_8_method_2_code
def yX6_error : MethodName := ⟨RX6, "error", "(I)I"⟩
abbrev cX6_in : ByteArray := prog_8_method_3_code
def yX6_in : MethodName := ⟨RX6, "in", "(III)Z"⟩
abbrev cX6_held : ByteArray := prog_8_method_4_code
def yX6_held : MethodName := ⟨RX6, "held", "(III)I"⟩
abbrev cX6_copyAll : ByteArray := prog_8_method_5_code
def yX6_copyAll : MethodName := ⟨RX6, "copyAll", "([I[I)V"⟩
abbrev cX6_bits : ByteArray := prog_8_method_6_code
def yX6_bits : MethodName := ⟨RX6, "bits", "(I)I"⟩
abbrev cX6_isFountain : ByteArray := prog_8_method_7_code
def yX6_isFountain : MethodName := ⟨RX6, "isFountain", "(I)Z"⟩
abbrev cX6_isPipe : ByteArray := prog_8_method_8_code
def yX6_isPipe : MethodName := ⟨RX6, "isPipe", "(I)Z"⟩
abbrev cX6_isSize : ByteArray := prog_8_method_9_code
def yX6_isSize : MethodName := ⟨RX6, "isSize", "(I)Z"⟩
abbrev cX6_becomes : ByteArray := prog_8_method_10_code
def yX6_becomes : MethodName := ⟨RX6, "becomes", "(II)I"⟩
abbrev cX6_of : ByteArray := prog_8_method_11_code
def yX6_of : MethodName := ⟨RX6, "of", "(II)I"⟩
abbrev cX6_about : ByteArray := prog_8_method_12_code
def yX6_about : MethodName := ⟨RX6, "about", "(II)I"⟩
abbrev cX6_addsOf : ByteArray := prog_8_method_13_code
def yX6_addsOf : MethodName := ⟨RX6, "addsOf", "(II)I"⟩
abbrev cX6_saidOf : ByteArray := prog_8_method_14_code
def yX6_saidOf : MethodName := ⟨RX6, "saidOf", "(II)I"⟩
abbrev cX6_doesSayOn : ByteArray := prog_8_method_15_code
def yX6_doesSayOn : MethodName := ⟨RX6, "doesSayOn", "(II)Z"⟩
abbrev cX6_slowOf : ByteArray := prog_8_method_16_code
def yX6_slowOf : MethodName := ⟨RX6, "slowOf", "(I)I"⟩
abbrev cX6_isKm : ByteArray := prog_8_method_17_code
def yX6_isKm : MethodName := ⟨RX6, "isKm", "(I)Z"⟩
abbrev cX6_fountain : ByteArray := prog_8_method_18_code
def yX6_fountain : MethodName := ⟨RX6, "fountain", "(II)I"⟩
abbrev cX6_fountainIs : ByteArray := prog_8_method_19_code
def yX6_fountainIs : MethodName := ⟨RX6, "fountainIs", "(II)I"⟩
abbrev cX6_become : ByteArray := prog_8_method_20_code
def yX6_become : MethodName := ⟨RX6, "become", "(II)I"⟩
abbrev cX6_as : ByteArray := prog_8_method_21_code
def yX6_as : MethodName := ⟨RX6, "as", "(II)I"⟩
abbrev cX6_says : ByteArray := prog_8_method_22_code
def yX6_says : MethodName := ⟨RX6, "says", "(II)I"⟩
abbrev cX6_goesOn : ByteArray := prog_8_method_23_code
def yX6_goesOn : MethodName := ⟨RX6, "goesOn", "(II)I"⟩
abbrev cX6_pipe : ByteArray := prog_8_method_24_code
def yX6_pipe : MethodName := ⟨RX6, "pipe", "(III)I"⟩
abbrev cX6_pipeIs : ByteArray := prog_8_method_25_code
def yX6_pipeIs : MethodName := ⟨RX6, "pipeIs", "(II)I"⟩
abbrev cX6_turn : ByteArray := prog_8_method_26_code
def yX6_turn : MethodName := ⟨RX6, "turn", "(II)I"⟩
abbrev cX6_freeze : ByteArray := prog_8_method_27_code
def yX6_freeze : MethodName := ⟨RX6, "freeze", "(I)I"⟩
abbrev cX6_feed : ByteArray := prog_8_method_28_code
def yX6_feed : MethodName := ⟨RX6, "feed", "(JI)I"⟩
abbrev cX6_look : ByteArray := prog_8_method_29_code
def yX6_look : MethodName := ⟨RX6, "look", "()I"⟩
abbrev cX6_lays : ByteArray := prog_8_method_30_code
def yX6_lays : MethodName := ⟨RX6, "lays", "(II)V"⟩
abbrev cX6_nameOf : ByteArray := prog_8_method_31_code
def yX6_nameOf : MethodName := ⟨RX6, "nameOf", "(I)I"⟩
abbrev cX6_number : ByteArray := prog_8_method_32_code
def yX6_number : MethodName := ⟨RX6, "number", "()V"⟩
abbrev cX6_opens : ByteArray := prog_8_method_33_code
def yX6_opens : MethodName := ⟨RX6, "opens", "(I)V"⟩
abbrev cX6_one : ByteArray := prog_8_method_34_code
def yX6_one : MethodName := ⟨RX6, "one", "()V"⟩
abbrev cX6_times : ByteArray := prog_8_method_35_code
def yX6_times : MethodName := ⟨RX6, "times", "()V"⟩
abbrev cX6_sum : ByteArray := prog_8_method_36_code
def yX6_sum : MethodName := ⟨RX6, "sum", "()V"⟩
abbrev cX6_compares : ByteArray := prog_8_method_37_code
def yX6_compares : MethodName := ⟨RX6, "compares", "()V"⟩
abbrev cX6_all : ByteArray := prog_8_method_38_code
def yX6_all : MethodName := ⟨RX6, "all", "()V"⟩
abbrev cX6_any : ByteArray := prog_8_method_39_code
def yX6_any : MethodName := ⟨RX6, "any", "()V"⟩
abbrev cX6_text : ByteArray := prog_8_method_40_code
def yX6_text : MethodName := ⟨RX6, "text", "(I)I"⟩
abbrev cX6_untell : ByteArray := prog_8_method_41_code
def yX6_untell : MethodName := ⟨RX6, "untell", "(I)I"⟩
abbrev cX6_twoOf : ByteArray := prog_8_method_42_code
def yX6_twoOf : MethodName := ⟨RX6, "twoOf", "(III)I"⟩
abbrev cX6_works : ByteArray := prog_8_method_43_code
def yX6_works : MethodName := ⟨RX6, "works", "(I)I"⟩
abbrev cX6_gives : ByteArray := prog_8_method_44_code
def yX6_gives : MethodName := ⟨RX6, "gives", "(IIII)I"⟩
abbrev cX6_law : ByteArray := prog_8_method_45_code
def yX6_law : MethodName := ⟨RX6, "law", "(IIII)I"⟩
abbrev cX6_findSlow : ByteArray := prog_8_method_46_code
def yX6_findSlow : MethodName := ⟨RX6, "findSlow", "()V"⟩
abbrev cX6_opened : ByteArray := prog_8_method_47_code
def yX6_opened : MethodName := ⟨RX6, "opened", "()I"⟩
abbrev cX6_saysOn : ByteArray := prog_8_method_48_code
def yX6_saysOn : MethodName := ⟨RX6, "saysOn", "(II)V"⟩
abbrev cX6_spreads : ByteArray := prog_8_method_49_code
def yX6_spreads : MethodName := ⟨RX6, "spreads", "(III)V"⟩
abbrev cX6_hearers : ByteArray := prog_8_method_50_code
def yX6_hearers : MethodName := ⟨RX6, "hearers", "()I"⟩
abbrev cX6_spreadsNow : ByteArray := prog_8_method_51_code
def yX6_spreadsNow : MethodName := ⟨RX6, "spreadsNow", "(II)V"⟩
abbrev cX6_hears : ByteArray := prog_8_method_52_code
def yX6_hears : MethodName := ⟨RX6, "hears", "(II)I"⟩
abbrev cX6_heard : ByteArray := prog_8_method_53_code
def yX6_heard : MethodName := ⟨RX6, "heard", "(IIII)I"⟩
abbrev cX6_lets : ByteArray := prog_8_method_54_code
def yX6_lets : MethodName := ⟨RX6, "lets", "(II)I"⟩
abbrev cX6_let : ByteArray := prog_8_method_55_code
def yX6_let : MethodName := ⟨RX6, "let", "(II)I"⟩
abbrev cX6_days : ByteArray := prog_8_method_56_code
def yX6_days : MethodName := ⟨RX6, "days", "(I)I"⟩
abbrev cX6_draw : ByteArray := prog_8_method_57_code
def yX6_draw : MethodName := ⟨RX6, "draw", "()I"⟩
abbrev cX6_loose : ByteArray := prog_8_method_58_code
def yX6_loose : MethodName := ⟨RX6, "loose", "(I)I"⟩
abbrev cX6_seed : ByteArray := prog_8_method_59_code
def yX6_seed : MethodName := ⟨RX6, "seed", "(I)I"⟩
abbrev cX6_hush : ByteArray := prog_8_method_60_code
def yX6_hush : MethodName := ⟨RX6, "hush", "(IIII)I"⟩
abbrev cX6_reach : ByteArray := prog_8_method_61_code
def yX6_reach : MethodName := ⟨RX6, "reach", "(IIIII)I"⟩
abbrev cX6_odds : ByteArray := prog_8_method_62_code
def yX6_odds : MethodName := ⟨RX6, "odds", "(III)I"⟩
abbrev cX6_isSo : ByteArray := prog_8_method_63_code
def yX6_isSo : MethodName := ⟨RX6, "isSo", "(I)Z"⟩
abbrev cX6_fits : ByteArray := prog_8_method_64_code
def yX6_fits : MethodName := ⟨RX6, "fits", "(II)I"⟩
abbrev cX6_begins : ByteArray := prog_8_method_65_code
def yX6_begins : MethodName := ⟨RX6, "begins", "(I)V"⟩
abbrev cX6_plainSplashes : ByteArray := prog_8_method_66_code
def yX6_plainSplashes : MethodName := ⟨RX6, "plainSplashes", "(II)I"⟩
abbrev cX6_lionSplashes : ByteArray := prog_8_method_67_code
def yX6_lionSplashes : MethodName := ⟨RX6, "lionSplashes", "(II)I"⟩
abbrev cX6_splashes : ByteArray := prog_8_method_68_code
def yX6_splashes : MethodName := ⟨RX6, "splashes", "(II)I"⟩
abbrev cX6_plainLisps : ByteArray := prog_8_method_69_code
def yX6_plainLisps : MethodName := ⟨RX6, "plainLisps", "(II)I"⟩
abbrev cX6_dolphinLisps : ByteArray := prog_8_method_70_code
def yX6_dolphinLisps : MethodName := ⟨RX6, "dolphinLisps", "(II)I"⟩
abbrev cX6_lisps : ByteArray := prog_8_method_71_code
def yX6_lisps : MethodName := ⟨RX6, "lisps", "(II)I"⟩
abbrev cX6_plainDrips : ByteArray := prog_8_method_72_code
def yX6_plainDrips : MethodName := ⟨RX6, "plainDrips", "(II)I"⟩
abbrev cX6_drips : ByteArray := prog_8_method_73_code
def yX6_drips : MethodName := ⟨RX6, "drips", "(II)I"⟩
abbrev cX6_plainParts : ByteArray := prog_8_method_74_code
def yX6_plainParts : MethodName := ⟨RX6, "plainParts", "(II)I"⟩
abbrev cX6_partsBy : ByteArray := prog_8_method_75_code
def yX6_partsBy : MethodName := ⟨RX6, "partsBy", "(II)I"⟩
abbrev cX6_voice : ByteArray := prog_8_method_76_code
def yX6_voice : MethodName := ⟨RX6, "voice", "(III)I"⟩
abbrev cX6_body : ByteArray := prog_8_method_77_code
def yX6_body : MethodName := ⟨RX6, "body", "(I)I"⟩
abbrev cX6_isSheet : ByteArray := prog_8_method_78_code
def yX6_isSheet : MethodName := ⟨RX6, "isSheet", "(I)Z"⟩
abbrev cX6_sheet : ByteArray := prog_8_method_79_code
def yX6_sheet : MethodName := ⟨RX6, "sheet", "(III)I"⟩
abbrev cX6_notThere : ByteArray := prog_8_method_80_code
def yX6_notThere : MethodName := ⟨RX6, "notThere", "(I)I"⟩
abbrev cX6_put : ByteArray := prog_8_method_81_code
def yX6_put : MethodName := ⟨RX6, "put", "(III)I"⟩
abbrev cX6_notMoved : ByteArray := prog_8_method_82_code
def yX6_notMoved : MethodName := ⟨RX6, "notMoved", "(IIIII)I"⟩
abbrev cX6_move : ByteArray := prog_8_method_83_code
def yX6_move : MethodName := ⟨RX6, "move", "(IIIII)I"⟩
abbrev cX6_talks : ByteArray := prog_8_method_84_code
def yX6_talks : MethodName := ⟨RX6, "talks", "(I)I"⟩
abbrev cX6_judge : ByteArray := prog_8_method_85_code
def yX6_judge : MethodName := ⟨RX6, "judge", "(I)I"⟩
abbrev cX6_image : ByteArray := prog_8_method_86_code
def yX6_image : MethodName := ⟨RX6, "image", "()I"⟩
abbrev cX6_restore : ByteArray := prog_8_method_87_code
def yX6_restore : MethodName := ⟨RX6, "restore", "()I"⟩
abbrev cX6_tell : ByteArray := prog_8_method_88_code
def yX6_tell : MethodName := ⟨RX6, "tell", "(I)I"⟩
abbrev cX6_check : ByteArray := prog_8_method_89_code
def yX6_check : MethodName := ⟨RX6, "check", "()I"⟩
abbrev cX6_count : ByteArray := prog_8_method_90_code
def yX6_count : MethodName := ⟨RX6, "count", "(I)I"⟩
abbrev cX6_told : ByteArray := prog_8_method_91_code
def yX6_told : MethodName := ⟨RX6, "told", "(I)I"⟩
def RJ11 : String := "java/lang/Character"
def TJ11 : u_T := fun k => match k with
  | _ => ("", "", "", false)
def tyJ11 : Nat → FieldType := fun k => match k with
  | _ => .int
abbrev wsJ110 : List Cond := u_ws RJ11 TJ11 0
theorem nmJ11 : ∀ a, a < 0 → ∀ b, b < 0 → a ≠ b → (TJ11 a).2.1 ≠ (TJ11 b).2.1 := by decide +kernel
theorem tyJ11_ok : ∀ k, k < 0 → parseFieldDescriptor (TJ11 k).2.2.1 = some (tyJ11 k) := by decide +kernel
abbrev cJ11_isValidCodePoint_9a6ad : ByteArray := prog_9_method_11_code
def yJ11_isValidCodePoint_9a6ad : MethodName := ⟨RJ11, "isValidCodePoint", "(I)Z"⟩
abbrev cJ11_highSurrogate_5068e : ByteArray := prog_9_method_28_code
def yJ11_highSurrogate_5068e : MethodName := ⟨RJ11, "highSurrogate", "(I)C"⟩
abbrev cJ11_lowSurrogate_5068e : ByteArray := prog_9_method_29_code
def yJ11_lowSurrogate_5068e : MethodName := ⟨RJ11, "lowSurrogate", "(I)C"⟩
def RJ6 : String := "java/lang/Integer"
def TJ6 : u_T := fun k => match k with
  | _ => ("", "", "", false)
def tyJ6 : Nat → FieldType := fun k => match k with
  | _ => .int
abbrev wsJ60 : List Cond := u_ws RJ6 TJ6 0
theorem nmJ6 : ∀ a, a < 0 → ∀ b, b < 0 → a ≠ b → (TJ6 a).2.1 ≠ (TJ6 b).2.1 := by decide +kernel
theorem tyJ6_ok : ∀ k, k < 0 → parseFieldDescriptor (TJ6 k).2.2.1 = some (tyJ6 k) := by decide +kernel
abbrev cJ6_bitCount_0f7a4 : ByteArray := prog_10_method_49_code
def yJ6_bitCount_0f7a4 : MethodName := ⟨RJ6, "bitCount", "(I)I"⟩
def RJ9 : String := "java/lang/Math"
def TJ9 : u_T := fun k => match k with
  | _ => ("", "", "", false)
def tyJ9 : Nat → FieldType := fun k => match k with
  | _ => .int
abbrev wsJ90 : List Cond := u_ws RJ9 TJ9 0
theorem nmJ9 : ∀ a, a < 0 → ∀ b, b < 0 → a ≠ b → (TJ9 a).2.1 ≠ (TJ9 b).2.1 := by decide +kernel
theorem tyJ9_ok : ∀ k, k < 0 → parseFieldDescriptor (TJ9 k).2.2.1 = some (tyJ9 k) := by decide +kernel
abbrev cJ9_max_7cf53 : ByteArray := prog_11_method_65_code
def yJ9_max_7cf53 : MethodName := ⟨RJ9, "max", "(II)I"⟩
abbrev cJ9_min_7cf53 : ByteArray := prog_11_method_69_code
def yJ9_min_7cf53 : MethodName := ⟨RJ9, "min", "(II)I"⟩
def RJ0 : String := "java/lang/String"
def TJ0 : u_T := fun k => match k with
  | _ => ("", "", "", false)
def tyJ0 : Nat → FieldType := fun k => match k with
  | _ => .int
abbrev wsJ00 : List Cond := u_ws RJ0 TJ0 0
theorem nmJ0 : ∀ a, a < 0 → ∀ b, b < 0 → a ≠ b → (TJ0 a).2.1 ≠ (TJ0 b).2.1 := by decide +kernel
theorem tyJ0_ok : ∀ k, k < 0 → parseFieldDescriptor (TJ0 k).2.2.1 = some (tyJ0 k) := by decide +kernel
abbrev cJ0_length_8abf5 : ByteArray := prog_12_method_54_code
def yJ0_length_8abf5 : MethodName := ⟨RJ0, "length", "()I"⟩
abbrev cJ0_indexOf_0f7a4 : ByteArray := prog_12_method_79_code
def yJ0_indexOf_0f7a4 : MethodName := ⟨RJ0, "indexOf", "(I)I"⟩
abbrev cJ0_indexOf_7cf53 : ByteArray := prog_12_method_80_code
def yJ0_indexOf_7cf53 : MethodName := ⟨RJ0, "indexOf", "(II)I"⟩
abbrev cJ0_coder_7d493 : ByteArray := prog_12_method_152_code
def yJ0_coder_7d493 : MethodName := ⟨RJ0, "coder", "()B"⟩
abbrev cJ0_isLatin1_aae02 : ByteArray := prog_12_method_154_code
def yJ0_isLatin1_aae02 : MethodName := ⟨RJ0, "isLatin1", "()Z"⟩
abbrev cJ0_checkBoundsBeginEnd_23922 : ByteArray := prog_12_method_158_code
def yJ0_checkBoundsBeginEnd_23922 : MethodName := ⟨RJ0, "checkBoundsBeginEnd", "(III)V"⟩
def RJ1 : String := "java/lang/StringLatin1"
def TJ1 : u_T := fun k => match k with
  | _ => ("", "", "", false)
def tyJ1 : Nat → FieldType := fun k => match k with
  | _ => .int
abbrev wsJ10 : List Cond := u_ws RJ1 TJ1 0
theorem nmJ1 : ∀ a, a < 0 → ∀ b, b < 0 → a ≠ b → (TJ1 a).2.1 ≠ (TJ1 b).2.1 := by decide +kernel
theorem tyJ1_ok : ∀ k, k < 0 → parseFieldDescriptor (TJ1 k).2.2.1 = some (tyJ1 k) := by decide +kernel
abbrev cJ1_canEncode_9a6ad : ByteArray := prog_13_method_4_code
def yJ1_canEncode_9a6ad : MethodName := ⟨RJ1, "canEncode", "(I)Z"⟩
abbrev cJ1_indexOf_4cfef : ByteArray := prog_13_method_22_code
def yJ1_indexOf_4cfef : MethodName := ⟨RJ1, "indexOf", "([BIII)I"⟩
abbrev cJ1_indexOfChar_4cfef : ByteArray := prog_13_method_23_code
def yJ1_indexOfChar_4cfef : MethodName := ⟨RJ1, "indexOfChar", "([BIII)I"⟩
def RJ2 : String := "java/lang/StringUTF16"
def TJ2 : u_T := fun k => match k with
  | _ => ("", "", "", false)
def tyJ2 : Nat → FieldType := fun k => match k with
  | _ => .int
abbrev wsJ20 : List Cond := u_ws RJ2 TJ2 0
theorem nmJ2 : ∀ a, a < 0 → ∀ b, b < 0 → a ≠ b → (TJ2 a).2.1 ≠ (TJ2 b).2.1 := by decide +kernel
theorem tyJ2_ok : ∀ k, k < 0 → parseFieldDescriptor (TJ2 k).2.2.1 = some (tyJ2 k) := by decide +kernel
abbrev cJ2_getChar_3b067 : ByteArray := prog_14_method_5_code
def yJ2_getChar_3b067 : MethodName := ⟨RJ2, "getChar", "([BI)C"⟩
abbrev cJ2_length_9d52b : ByteArray := prog_14_method_6_code
def yJ2_length_9d52b : MethodName := ⟨RJ2, "length", "([B)I"⟩
abbrev cJ2_indexOf_4cfef : ByteArray := prog_14_method_40_code
def yJ2_indexOf_4cfef : MethodName := ⟨RJ2, "indexOf", "([BIII)I"⟩
abbrev cJ2_indexOfChar_4cfef : ByteArray := prog_14_method_47_code
def yJ2_indexOfChar_4cfef : MethodName := ⟨RJ2, "indexOfChar", "([BIII)I"⟩
abbrev cJ2_indexOfCharUnsafe_4cfef : ByteArray := prog_14_method_48_code
def yJ2_indexOfCharUnsafe_4cfef : MethodName := ⟨RJ2, "indexOfCharUnsafe", "([BIII)I"⟩
abbrev cJ2_indexOfSupplementary_4cfef : ByteArray := prog_14_method_49_code
def yJ2_indexOfSupplementary_4cfef : MethodName := ⟨RJ2, "indexOfSupplementary", "([BIII)I"⟩
abbrev cJ2_checkBoundsBeginEnd_d044e : ByteArray := prog_14_method_93_code
def yJ2_checkBoundsBeginEnd_d044e : MethodName := ⟨RJ2, "checkBoundsBeginEnd", "(II[B)V"⟩
def RJ10 : String := "java/lang/System"
def TJ10 : u_T := fun k => match k with
  | _ => ("", "", "", false)
def tyJ10 : Nat → FieldType := fun k => match k with
  | _ => .int
abbrev wsJ100 : List Cond := u_ws RJ10 TJ10 0
theorem nmJ10 : ∀ a, a < 0 → ∀ b, b < 0 → a ≠ b → (TJ10 a).2.1 ≠ (TJ10 b).2.1 := by decide +kernel
theorem tyJ10_ok : ∀ k, k < 0 → parseFieldDescriptor (TJ10 k).2.2.1 = some (tyJ10 k) := by decide +kernel
def RJ3 : String := "jdk/internal/util/Preconditions"
def TJ3 : u_T := fun k => match k with
  | _ => ("", "", "", false)
def tyJ3 : Nat → FieldType := fun k => match k with
  | _ => .int
abbrev wsJ30 : List Cond := u_ws RJ3 TJ3 0
theorem nmJ3 : ∀ a, a < 0 → ∀ b, b < 0 → a ≠ b → (TJ3 a).2.1 ≠ (TJ3 b).2.1 := by decide +kernel
theorem tyJ3_ok : ∀ k, k < 0 → parseFieldDescriptor (TJ3 k).2.2.1 = some (tyJ3 k) := by decide +kernel
abbrev cJ3_checkFromToIndex_8c36e : ByteArray := prog_16_method_12_code
def yJ3_checkFromToIndex_8c36e : MethodName := ⟨RJ3, "checkFromToIndex", "(IIILjava/util/function/BiFunction;)I"⟩
def RL : String := "FountainTalkLaw"
abbrev cL_law : ByteArray := code
def yL_law : MethodName := ⟨RL, "law", "([I)Z"⟩
def wsX4_init : List Cond := .code yX4_init cX4_init 1 none :: ([.methodLink RX4 3 objectInit, .instanceMethod objectInit, .code objectInit ⟨#[0xb1]⟩ 1 none, .arrayClass .int, .fieldLink RX4 9 "FountainTalk$Text" "steps" "[I", .fieldLink RX4 15 "FountainTalk$Text" "stack" "[I"] ++ wsX40)
abbrev vwCl : List vw_C := [(RX0, TX0, 18), (RX1, TX1, 5), (RX2, TX2, 3), (RX3, TX3, 6), (RX4, TX4, 9), (RX5, TX5, 8), (RX6, TX6, 22)]
