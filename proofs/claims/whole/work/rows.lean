section
-- ===== PART A: goes FIRST, ahead of the names: the tables' words, and 'selects' of the private methods out of them =====
/-- a private method of a class that the tables say can be made, by its rows of tables_1 -/
def lw_okq (q : MethodName × Nat) : Prop := (q.1.cls ≠ "java/lang/invoke/MethodHandle" ∧ q.1.cls ≠ "java/lang/invoke/VarHandle") ∧ Cond.instantiable q.1.cls q.2 ∈ tables_1 ∧ Cond.privateMethod q.1 ∈ tables_1 ∧ Cond.instanceMethod q.1 ∈ tables_1
theorem lw_p0 : lw_okq (⟨"FountainTalk", "error", "(I)I"⟩, 8) := ⟨⟨by decide +kernel, by decide +kernel⟩, List.mem_of_getElem? (i := 17) (by decide +kernel), List.mem_of_getElem? (i := 258) (by decide +kernel), List.mem_of_getElem? (i := 259) (by decide +kernel)⟩
theorem lw_p1 : lw_okq (⟨"FountainTalk", "isFountain", "(I)Z"⟩, 8) := ⟨⟨by decide +kernel, by decide +kernel⟩, List.mem_of_getElem? (i := 17) (by decide +kernel), List.mem_of_getElem? (i := 267) (by decide +kernel), List.mem_of_getElem? (i := 268) (by decide +kernel)⟩
theorem lw_p2 : lw_okq (⟨"FountainTalk", "isSaying", "(II)Z"⟩, 8) := ⟨⟨by decide +kernel, by decide +kernel⟩, List.mem_of_getElem? (i := 17) (by decide +kernel), List.mem_of_getElem? (i := 288) (by decide +kernel), List.mem_of_getElem? (i := 289) (by decide +kernel)⟩
theorem lw_p3 : lw_okq (⟨"FountainTalk$City", "withAdded", "(II)I"⟩, 18) := ⟨⟨by decide +kernel, by decide +kernel⟩, List.mem_of_getElem? (i := 25) (by decide +kernel), List.mem_of_getElem? (i := 296) (by decide +kernel), List.mem_of_getElem? (i := 297) (by decide +kernel)⟩
theorem lw_p4 : lw_okq (⟨"FountainTalk", "isPipe", "(I)Z"⟩, 8) := ⟨⟨by decide +kernel, by decide +kernel⟩, List.mem_of_getElem? (i := 17) (by decide +kernel), List.mem_of_getElem? (i := 335) (by decide +kernel), List.mem_of_getElem? (i := 336) (by decide +kernel)⟩
theorem lw_p5 : lw_okq (⟨"FountainTalk$Text", "readLevel", "(II)V"⟩, 9) := ⟨⟨by decide +kernel, by decide +kernel⟩, List.mem_of_getElem? (i := 32) (by decide +kernel), List.mem_of_getElem? (i := 368) (by decide +kernel), List.mem_of_getElem? (i := 369) (by decide +kernel)⟩
theorem lw_p6 : lw_okq (⟨"FountainTalk$Text", "readPart", "(I)V"⟩, 9) := ⟨⟨by decide +kernel, by decide +kernel⟩, List.mem_of_getElem? (i := 32) (by decide +kernel), List.mem_of_getElem? (i := 372) (by decide +kernel), List.mem_of_getElem? (i := 373) (by decide +kernel)⟩
theorem lw_p7 : lw_okq (⟨"FountainTalk$Text", "peek", "()I"⟩, 9) := ⟨⟨by decide +kernel, by decide +kernel⟩, List.mem_of_getElem? (i := 32) (by decide +kernel), List.mem_of_getElem? (i := 376) (by decide +kernel), List.mem_of_getElem? (i := 377) (by decide +kernel)⟩
theorem lw_p8 : lw_okq (⟨"FountainTalk$Text", "readNumber", "()V"⟩, 9) := ⟨⟨by decide +kernel, by decide +kernel⟩, List.mem_of_getElem? (i := 32) (by decide +kernel), List.mem_of_getElem? (i := 380) (by decide +kernel), List.mem_of_getElem? (i := 381) (by decide +kernel)⟩
theorem lw_p9 : lw_okq (⟨"FountainTalk$Text", "addStep", "(I)V"⟩, 9) := ⟨⟨by decide +kernel, by decide +kernel⟩, List.mem_of_getElem? (i := 32) (by decide +kernel), List.mem_of_getElem? (i := 384) (by decide +kernel), List.mem_of_getElem? (i := 385) (by decide +kernel)⟩
theorem lw_p10 : lw_okq (⟨"FountainTalk$Text", "readOpened", "(II)V"⟩, 9) := ⟨⟨by decide +kernel, by decide +kernel⟩, List.mem_of_getElem? (i := 32) (by decide +kernel), List.mem_of_getElem? (i := 388) (by decide +kernel), List.mem_of_getElem? (i := 389) (by decide +kernel)⟩
theorem lw_p11 : lw_okq (⟨"FountainTalk$Text", "readName", "(I)V"⟩, 9) := ⟨⟨by decide +kernel, by decide +kernel⟩, List.mem_of_getElem? (i := 32) (by decide +kernel), List.mem_of_getElem? (i := 392) (by decide +kernel), List.mem_of_getElem? (i := 393) (by decide +kernel)⟩
theorem lw_p12 : lw_okq (⟨"FountainTalk$Text", "takeSign", "(I)I"⟩, 9) := ⟨⟨by decide +kernel, by decide +kernel⟩, List.mem_of_getElem? (i := 32) (by decide +kernel), List.mem_of_getElem? (i := 478) (by decide +kernel), List.mem_of_getElem? (i := 479) (by decide +kernel)⟩
theorem lw_p13 : lw_okq (⟨"FountainTalk$Hearing", "arrive", "(III)V"⟩, 5) := ⟨⟨by decide +kernel, by decide +kernel⟩, List.mem_of_getElem? (i := 148) (by decide +kernel), List.mem_of_getElem? (i := 516) (by decide +kernel), List.mem_of_getElem? (i := 517) (by decide +kernel)⟩
theorem lw_p14 : lw_okq (⟨"FountainTalk$Hearing", "sayOver", "(II)V"⟩, 5) := ⟨⟨by decide +kernel, by decide +kernel⟩, List.mem_of_getElem? (i := 148) (by decide +kernel), List.mem_of_getElem? (i := 522) (by decide +kernel), List.mem_of_getElem? (i := 523) (by decide +kernel)⟩
theorem lw_p15 : lw_okq (⟨"FountainTalk$Hearing", "nextToHear", "()I"⟩, 5) := ⟨⟨by decide +kernel, by decide +kernel⟩, List.mem_of_getElem? (i := 148) (by decide +kernel), List.mem_of_getElem? (i := 527) (by decide +kernel), List.mem_of_getElem? (i := 528) (by decide +kernel)⟩
def lw_privs_1 : List (MethodName × Nat) := [(⟨"FountainTalk", "error", "(I)I"⟩, 8), (⟨"FountainTalk", "isFountain", "(I)Z"⟩, 8), (⟨"FountainTalk", "isSaying", "(II)Z"⟩, 8), (⟨"FountainTalk$City", "withAdded", "(II)I"⟩, 18), (⟨"FountainTalk", "isPipe", "(I)Z"⟩, 8), (⟨"FountainTalk$Text", "readLevel", "(II)V"⟩, 9), (⟨"FountainTalk$Text", "readPart", "(I)V"⟩, 9), (⟨"FountainTalk$Text", "peek", "()I"⟩, 9), (⟨"FountainTalk$Text", "readNumber", "()V"⟩, 9), (⟨"FountainTalk$Text", "addStep", "(I)V"⟩, 9), (⟨"FountainTalk$Text", "readOpened", "(II)V"⟩, 9), (⟨"FountainTalk$Text", "readName", "(I)V"⟩, 9), (⟨"FountainTalk$Text", "takeSign", "(I)I"⟩, 9), (⟨"FountainTalk$Hearing", "arrive", "(III)V"⟩, 5), (⟨"FountainTalk$Hearing", "sayOver", "(II)V"⟩, 5), (⟨"FountainTalk$Hearing", "nextToHear", "()I"⟩, 5)]
theorem lw_r1 : ∀ q ∈ lw_privs_1, lw_okq q := List.forall_mem_cons.mpr ⟨lw_p0, List.forall_mem_cons.mpr ⟨lw_p1, List.forall_mem_cons.mpr ⟨lw_p2, List.forall_mem_cons.mpr ⟨lw_p3, List.forall_mem_cons.mpr ⟨lw_p4, List.forall_mem_cons.mpr ⟨lw_p5, List.forall_mem_cons.mpr ⟨lw_p6, List.forall_mem_cons.mpr ⟨lw_p7, List.forall_mem_cons.mpr ⟨lw_p8, List.forall_mem_cons.mpr ⟨lw_p9, List.forall_mem_cons.mpr ⟨lw_p10, List.forall_mem_cons.mpr ⟨lw_p11, List.forall_mem_cons.mpr ⟨lw_p12, List.forall_mem_cons.mpr ⟨lw_p13, List.forall_mem_cons.mpr ⟨lw_p14, List.forall_mem_cons.mpr ⟨lw_p15, fun _ h => absurd h List.not_mem_nil⟩⟩⟩⟩⟩⟩⟩⟩⟩⟩⟩⟩⟩⟩⟩⟩
theorem lw_p16 : lw_okq (⟨"FountainTalk", "letOut", "(II)I"⟩, 8) := ⟨⟨by decide +kernel, by decide +kernel⟩, List.mem_of_getElem? (i := 17) (by decide +kernel), List.mem_of_getElem? (i := 544) (by decide +kernel), List.mem_of_getElem? (i := 545) (by decide +kernel)⟩
theorem lw_p17 : lw_okq (⟨"FountainTalk", "fewestToShut", "(III)I"⟩, 8) := ⟨⟨by decide +kernel, by decide +kernel⟩, List.mem_of_getElem? (i := 17) (by decide +kernel), List.mem_of_getElem? (i := 575) (by decide +kernel), List.mem_of_getElem? (i := 576) (by decide +kernel)⟩
theorem lw_p18 : lw_okq (⟨"FountainTalk", "fewestToOpen", "(IIII)I"⟩, 8) := ⟨⟨by decide +kernel, by decide +kernel⟩, List.mem_of_getElem? (i := 17) (by decide +kernel), List.mem_of_getElem? (i := 589) (by decide +kernel), List.mem_of_getElem? (i := 590) (by decide +kernel)⟩
theorem lw_p19 : lw_okq (⟨"FountainTalk", "isHeardAsIn", "(LFountainTalk$Sheet;)Z"⟩, 8) := ⟨⟨by decide +kernel, by decide +kernel⟩, List.mem_of_getElem? (i := 17) (by decide +kernel), List.mem_of_getElem? (i := 611) (by decide +kernel), List.mem_of_getElem? (i := 612) (by decide +kernel)⟩
theorem lw_p20 : lw_okq (⟨"FountainTalk$Speaker", "speak", "(IIII)I"⟩, 6) := ⟨⟨by decide +kernel, by decide +kernel⟩, List.mem_of_getElem? (i := 175) (by decide +kernel), List.mem_of_getElem? (i := 623) (by decide +kernel), List.mem_of_getElem? (i := 624) (by decide +kernel)⟩
theorem lw_p21 : lw_okq (⟨"FountainTalk$Speaker", "begin", "(I)V"⟩, 6) := ⟨⟨by decide +kernel, by decide +kernel⟩, List.mem_of_getElem? (i := 175) (by decide +kernel), List.mem_of_getElem? (i := 630) (by decide +kernel), List.mem_of_getElem? (i := 631) (by decide +kernel)⟩
theorem lw_p22 : lw_okq (⟨"FountainTalk$Speaker", "part", "(I)I"⟩, 6) := ⟨⟨by decide +kernel, by decide +kernel⟩, List.mem_of_getElem? (i := 175) (by decide +kernel), List.mem_of_getElem? (i := 634) (by decide +kernel), List.mem_of_getElem? (i := 635) (by decide +kernel)⟩
theorem lw_p23 : lw_okq (⟨"FountainTalkModel", "error", "(I)I"⟩, 22) := ⟨⟨by decide +kernel, by decide +kernel⟩, List.mem_of_getElem? (i := 705) (by decide +kernel), List.mem_of_getElem? (i := 789) (by decide +kernel), List.mem_of_getElem? (i := 790) (by decide +kernel)⟩
theorem lw_p24 : lw_okq (⟨"FountainTalkModel", "isFountain", "(I)Z"⟩, 22) := ⟨⟨by decide +kernel, by decide +kernel⟩, List.mem_of_getElem? (i := 705) (by decide +kernel), List.mem_of_getElem? (i := 799) (by decide +kernel), List.mem_of_getElem? (i := 800) (by decide +kernel)⟩
theorem lw_p25 : lw_okq (⟨"FountainTalkModel", "of", "(II)I"⟩, 22) := ⟨⟨by decide +kernel, by decide +kernel⟩, List.mem_of_getElem? (i := 705) (by decide +kernel), List.mem_of_getElem? (i := 803) (by decide +kernel), List.mem_of_getElem? (i := 804) (by decide +kernel)⟩
theorem lw_p26 : lw_okq (⟨"FountainTalkModel", "becomes", "(II)I"⟩, 22) := ⟨⟨by decide +kernel, by decide +kernel⟩, List.mem_of_getElem? (i := 705) (by decide +kernel), List.mem_of_getElem? (i := 811) (by decide +kernel), List.mem_of_getElem? (i := 812) (by decide +kernel)⟩
theorem lw_p27 : lw_okq (⟨"FountainTalkModel", "saidOf", "(II)I"⟩, 22) := ⟨⟨by decide +kernel, by decide +kernel⟩, List.mem_of_getElem? (i := 705) (by decide +kernel), List.mem_of_getElem? (i := 827) (by decide +kernel), List.mem_of_getElem? (i := 828) (by decide +kernel)⟩
theorem lw_p28 : lw_okq (⟨"FountainTalkModel", "addsOf", "(II)I"⟩, 22) := ⟨⟨by decide +kernel, by decide +kernel⟩, List.mem_of_getElem? (i := 705) (by decide +kernel), List.mem_of_getElem? (i := 831) (by decide +kernel), List.mem_of_getElem? (i := 832) (by decide +kernel)⟩
theorem lw_p29 : lw_okq (⟨"FountainTalkModel", "gives", "(IIII)I"⟩, 22) := ⟨⟨by decide +kernel, by decide +kernel⟩, List.mem_of_getElem? (i := 705) (by decide +kernel), List.mem_of_getElem? (i := 835) (by decide +kernel), List.mem_of_getElem? (i := 836) (by decide +kernel)⟩
theorem lw_p30 : lw_okq (⟨"FountainTalkModel", "works", "(I)I"⟩, 22) := ⟨⟨by decide +kernel, by decide +kernel⟩, List.mem_of_getElem? (i := 705) (by decide +kernel), List.mem_of_getElem? (i := 839) (by decide +kernel), List.mem_of_getElem? (i := 840) (by decide +kernel)⟩
theorem lw_p31 : lw_okq (⟨"FountainTalkModel", "doesSayOn", "(II)Z"⟩, 22) := ⟨⟨by decide +kernel, by decide +kernel⟩, List.mem_of_getElem? (i := 705) (by decide +kernel), List.mem_of_getElem? (i := 853) (by decide +kernel), List.mem_of_getElem? (i := 854) (by decide +kernel)⟩
def lw_privs_2 : List (MethodName × Nat) := [(⟨"FountainTalk", "letOut", "(II)I"⟩, 8), (⟨"FountainTalk", "fewestToShut", "(III)I"⟩, 8), (⟨"FountainTalk", "fewestToOpen", "(IIII)I"⟩, 8), (⟨"FountainTalk", "isHeardAsIn", "(LFountainTalk$Sheet;)Z"⟩, 8), (⟨"FountainTalk$Speaker", "speak", "(IIII)I"⟩, 6), (⟨"FountainTalk$Speaker", "begin", "(I)V"⟩, 6), (⟨"FountainTalk$Speaker", "part", "(I)I"⟩, 6), (⟨"FountainTalkModel", "error", "(I)I"⟩, 22), (⟨"FountainTalkModel", "isFountain", "(I)Z"⟩, 22), (⟨"FountainTalkModel", "of", "(II)I"⟩, 22), (⟨"FountainTalkModel", "becomes", "(II)I"⟩, 22), (⟨"FountainTalkModel", "saidOf", "(II)I"⟩, 22), (⟨"FountainTalkModel", "addsOf", "(II)I"⟩, 22), (⟨"FountainTalkModel", "gives", "(IIII)I"⟩, 22), (⟨"FountainTalkModel", "works", "(I)I"⟩, 22), (⟨"FountainTalkModel", "doesSayOn", "(II)Z"⟩, 22)]
theorem lw_r2 : ∀ q ∈ lw_privs_2, lw_okq q := List.forall_mem_cons.mpr ⟨lw_p16, List.forall_mem_cons.mpr ⟨lw_p17, List.forall_mem_cons.mpr ⟨lw_p18, List.forall_mem_cons.mpr ⟨lw_p19, List.forall_mem_cons.mpr ⟨lw_p20, List.forall_mem_cons.mpr ⟨lw_p21, List.forall_mem_cons.mpr ⟨lw_p22, List.forall_mem_cons.mpr ⟨lw_p23, List.forall_mem_cons.mpr ⟨lw_p24, List.forall_mem_cons.mpr ⟨lw_p25, List.forall_mem_cons.mpr ⟨lw_p26, List.forall_mem_cons.mpr ⟨lw_p27, List.forall_mem_cons.mpr ⟨lw_p28, List.forall_mem_cons.mpr ⟨lw_p29, List.forall_mem_cons.mpr ⟨lw_p30, List.forall_mem_cons.mpr ⟨lw_p31, fun _ h => absurd h List.not_mem_nil⟩⟩⟩⟩⟩⟩⟩⟩⟩⟩⟩⟩⟩⟩⟩⟩
theorem lw_p32 : lw_okq (⟨"FountainTalkModel", "isPipe", "(I)Z"⟩, 22) := ⟨⟨by decide +kernel, by decide +kernel⟩, List.mem_of_getElem? (i := 705) (by decide +kernel), List.mem_of_getElem? (i := 866) (by decide +kernel), List.mem_of_getElem? (i := 867) (by decide +kernel)⟩
theorem lw_p33 : lw_okq (⟨"FountainTalkModel", "about", "(II)I"⟩, 22) := ⟨⟨by decide +kernel, by decide +kernel⟩, List.mem_of_getElem? (i := 705) (by decide +kernel), List.mem_of_getElem? (i := 870) (by decide +kernel), List.mem_of_getElem? (i := 871) (by decide +kernel)⟩
theorem lw_p34 : lw_okq (⟨"FountainTalkModel", "slowOf", "(I)I"⟩, 22) := ⟨⟨by decide +kernel, by decide +kernel⟩, List.mem_of_getElem? (i := 705) (by decide +kernel), List.mem_of_getElem? (i := 874) (by decide +kernel), List.mem_of_getElem? (i := 875) (by decide +kernel)⟩
theorem lw_p35 : lw_okq (⟨"FountainTalkModel", "any", "()V"⟩, 22) := ⟨⟨by decide +kernel, by decide +kernel⟩, List.mem_of_getElem? (i := 705) (by decide +kernel), List.mem_of_getElem? (i := 895) (by decide +kernel), List.mem_of_getElem? (i := 896) (by decide +kernel)⟩
theorem lw_p36 : lw_okq (⟨"FountainTalkModel", "all", "()V"⟩, 22) := ⟨⟨by decide +kernel, by decide +kernel⟩, List.mem_of_getElem? (i := 705) (by decide +kernel), List.mem_of_getElem? (i := 899) (by decide +kernel), List.mem_of_getElem? (i := 900) (by decide +kernel)⟩
theorem lw_p37 : lw_okq (⟨"FountainTalkModel", "compares", "()V"⟩, 22) := ⟨⟨by decide +kernel, by decide +kernel⟩, List.mem_of_getElem? (i := 705) (by decide +kernel), List.mem_of_getElem? (i := 903) (by decide +kernel), List.mem_of_getElem? (i := 904) (by decide +kernel)⟩
theorem lw_p38 : lw_okq (⟨"FountainTalkModel", "sum", "()V"⟩, 22) := ⟨⟨by decide +kernel, by decide +kernel⟩, List.mem_of_getElem? (i := 705) (by decide +kernel), List.mem_of_getElem? (i := 907) (by decide +kernel), List.mem_of_getElem? (i := 908) (by decide +kernel)⟩
theorem lw_p39 : lw_okq (⟨"FountainTalkModel", "times", "()V"⟩, 22) := ⟨⟨by decide +kernel, by decide +kernel⟩, List.mem_of_getElem? (i := 705) (by decide +kernel), List.mem_of_getElem? (i := 911) (by decide +kernel), List.mem_of_getElem? (i := 912) (by decide +kernel)⟩
theorem lw_p40 : lw_okq (⟨"FountainTalkModel", "one", "()V"⟩, 22) := ⟨⟨by decide +kernel, by decide +kernel⟩, List.mem_of_getElem? (i := 705) (by decide +kernel), List.mem_of_getElem? (i := 915) (by decide +kernel), List.mem_of_getElem? (i := 916) (by decide +kernel)⟩
theorem lw_p41 : lw_okq (⟨"FountainTalkModel", "look", "()I"⟩, 22) := ⟨⟨by decide +kernel, by decide +kernel⟩, List.mem_of_getElem? (i := 705) (by decide +kernel), List.mem_of_getElem? (i := 919) (by decide +kernel), List.mem_of_getElem? (i := 920) (by decide +kernel)⟩
theorem lw_p42 : lw_okq (⟨"FountainTalkModel", "nameOf", "(I)I"⟩, 22) := ⟨⟨by decide +kernel, by decide +kernel⟩, List.mem_of_getElem? (i := 705) (by decide +kernel), List.mem_of_getElem? (i := 923) (by decide +kernel), List.mem_of_getElem? (i := 924) (by decide +kernel)⟩
theorem lw_p43 : lw_okq (⟨"FountainTalkModel", "lays", "(II)V"⟩, 22) := ⟨⟨by decide +kernel, by decide +kernel⟩, List.mem_of_getElem? (i := 705) (by decide +kernel), List.mem_of_getElem? (i := 927) (by decide +kernel), List.mem_of_getElem? (i := 928) (by decide +kernel)⟩
theorem lw_p44 : lw_okq (⟨"FountainTalkModel", "opens", "(I)V"⟩, 22) := ⟨⟨by decide +kernel, by decide +kernel⟩, List.mem_of_getElem? (i := 705) (by decide +kernel), List.mem_of_getElem? (i := 931) (by decide +kernel), List.mem_of_getElem? (i := 932) (by decide +kernel)⟩
theorem lw_p45 : lw_okq (⟨"FountainTalkModel", "number", "()V"⟩, 22) := ⟨⟨by decide +kernel, by decide +kernel⟩, List.mem_of_getElem? (i := 705) (by decide +kernel), List.mem_of_getElem? (i := 935) (by decide +kernel), List.mem_of_getElem? (i := 936) (by decide +kernel)⟩
theorem lw_p46 : lw_okq (⟨"FountainTalkModel", "spreadsNow", "(II)V"⟩, 22) := ⟨⟨by decide +kernel, by decide +kernel⟩, List.mem_of_getElem? (i := 705) (by decide +kernel), List.mem_of_getElem? (i := 951) (by decide +kernel), List.mem_of_getElem? (i := 952) (by decide +kernel)⟩
theorem lw_p47 : lw_okq (⟨"FountainTalkModel", "findSlow", "()V"⟩, 22) := ⟨⟨by decide +kernel, by decide +kernel⟩, List.mem_of_getElem? (i := 705) (by decide +kernel), List.mem_of_getElem? (i := 955) (by decide +kernel), List.mem_of_getElem? (i := 956) (by decide +kernel)⟩
def lw_privs_3 : List (MethodName × Nat) := [(⟨"FountainTalkModel", "isPipe", "(I)Z"⟩, 22), (⟨"FountainTalkModel", "about", "(II)I"⟩, 22), (⟨"FountainTalkModel", "slowOf", "(I)I"⟩, 22), (⟨"FountainTalkModel", "any", "()V"⟩, 22), (⟨"FountainTalkModel", "all", "()V"⟩, 22), (⟨"FountainTalkModel", "compares", "()V"⟩, 22), (⟨"FountainTalkModel", "sum", "()V"⟩, 22), (⟨"FountainTalkModel", "times", "()V"⟩, 22), (⟨"FountainTalkModel", "one", "()V"⟩, 22), (⟨"FountainTalkModel", "look", "()I"⟩, 22), (⟨"FountainTalkModel", "nameOf", "(I)I"⟩, 22), (⟨"FountainTalkModel", "lays", "(II)V"⟩, 22), (⟨"FountainTalkModel", "opens", "(I)V"⟩, 22), (⟨"FountainTalkModel", "number", "()V"⟩, 22), (⟨"FountainTalkModel", "spreadsNow", "(II)V"⟩, 22), (⟨"FountainTalkModel", "findSlow", "()V"⟩, 22)]
theorem lw_r3 : ∀ q ∈ lw_privs_3, lw_okq q := List.forall_mem_cons.mpr ⟨lw_p32, List.forall_mem_cons.mpr ⟨lw_p33, List.forall_mem_cons.mpr ⟨lw_p34, List.forall_mem_cons.mpr ⟨lw_p35, List.forall_mem_cons.mpr ⟨lw_p36, List.forall_mem_cons.mpr ⟨lw_p37, List.forall_mem_cons.mpr ⟨lw_p38, List.forall_mem_cons.mpr ⟨lw_p39, List.forall_mem_cons.mpr ⟨lw_p40, List.forall_mem_cons.mpr ⟨lw_p41, List.forall_mem_cons.mpr ⟨lw_p42, List.forall_mem_cons.mpr ⟨lw_p43, List.forall_mem_cons.mpr ⟨lw_p44, List.forall_mem_cons.mpr ⟨lw_p45, List.forall_mem_cons.mpr ⟨lw_p46, List.forall_mem_cons.mpr ⟨lw_p47, fun _ h => absurd h List.not_mem_nil⟩⟩⟩⟩⟩⟩⟩⟩⟩⟩⟩⟩⟩⟩⟩⟩
theorem lw_p48 : lw_okq (⟨"FountainTalkModel", "opened", "()I"⟩, 22) := ⟨⟨by decide +kernel, by decide +kernel⟩, List.mem_of_getElem? (i := 705) (by decide +kernel), List.mem_of_getElem? (i := 959) (by decide +kernel), List.mem_of_getElem? (i := 960) (by decide +kernel)⟩
theorem lw_p49 : lw_okq (⟨"FountainTalkModel", "spreads", "(III)V"⟩, 22) := ⟨⟨by decide +kernel, by decide +kernel⟩, List.mem_of_getElem? (i := 705) (by decide +kernel), List.mem_of_getElem? (i := 963) (by decide +kernel), List.mem_of_getElem? (i := 964) (by decide +kernel)⟩
theorem lw_p50 : lw_okq (⟨"FountainTalkModel", "saysOn", "(II)V"⟩, 22) := ⟨⟨by decide +kernel, by decide +kernel⟩, List.mem_of_getElem? (i := 705) (by decide +kernel), List.mem_of_getElem? (i := 967) (by decide +kernel), List.mem_of_getElem? (i := 968) (by decide +kernel)⟩
theorem lw_p51 : lw_okq (⟨"FountainTalkModel", "hearers", "()I"⟩, 22) := ⟨⟨by decide +kernel, by decide +kernel⟩, List.mem_of_getElem? (i := 705) (by decide +kernel), List.mem_of_getElem? (i := 971) (by decide +kernel), List.mem_of_getElem? (i := 972) (by decide +kernel)⟩
theorem lw_p52 : lw_okq (⟨"FountainTalkModel", "lets", "(II)I"⟩, 22) := ⟨⟨by decide +kernel, by decide +kernel⟩, List.mem_of_getElem? (i := 705) (by decide +kernel), List.mem_of_getElem? (i := 984) (by decide +kernel), List.mem_of_getElem? (i := 985) (by decide +kernel)⟩
theorem lw_p53 : lw_okq (⟨"FountainTalkModel", "draw", "()I"⟩, 22) := ⟨⟨by decide +kernel, by decide +kernel⟩, List.mem_of_getElem? (i := 705) (by decide +kernel), List.mem_of_getElem? (i := 997) (by decide +kernel), List.mem_of_getElem? (i := 998) (by decide +kernel)⟩
theorem lw_p54 : lw_okq (⟨"FountainTalkModel", "isSo", "(I)Z"⟩, 22) := ⟨⟨by decide +kernel, by decide +kernel⟩, List.mem_of_getElem? (i := 705) (by decide +kernel), List.mem_of_getElem? (i := 1028) (by decide +kernel), List.mem_of_getElem? (i := 1029) (by decide +kernel)⟩
theorem lw_p55 : lw_okq (⟨"FountainTalkModel", "splashes", "(II)I"⟩, 22) := ⟨⟨by decide +kernel, by decide +kernel⟩, List.mem_of_getElem? (i := 705) (by decide +kernel), List.mem_of_getElem? (i := 1036) (by decide +kernel), List.mem_of_getElem? (i := 1037) (by decide +kernel)⟩
theorem lw_p56 : lw_okq (⟨"FountainTalkModel", "lionSplashes", "(II)I"⟩, 22) := ⟨⟨by decide +kernel, by decide +kernel⟩, List.mem_of_getElem? (i := 705) (by decide +kernel), List.mem_of_getElem? (i := 1040) (by decide +kernel), List.mem_of_getElem? (i := 1041) (by decide +kernel)⟩
theorem lw_p57 : lw_okq (⟨"FountainTalkModel", "begins", "(I)V"⟩, 22) := ⟨⟨by decide +kernel, by decide +kernel⟩, List.mem_of_getElem? (i := 705) (by decide +kernel), List.mem_of_getElem? (i := 1044) (by decide +kernel), List.mem_of_getElem? (i := 1045) (by decide +kernel)⟩
theorem lw_p58 : lw_okq (⟨"FountainTalkModel", "plainSplashes", "(II)I"⟩, 22) := ⟨⟨by decide +kernel, by decide +kernel⟩, List.mem_of_getElem? (i := 705) (by decide +kernel), List.mem_of_getElem? (i := 1048) (by decide +kernel), List.mem_of_getElem? (i := 1049) (by decide +kernel)⟩
theorem lw_p59 : lw_okq (⟨"FountainTalkModel", "lisps", "(II)I"⟩, 22) := ⟨⟨by decide +kernel, by decide +kernel⟩, List.mem_of_getElem? (i := 705) (by decide +kernel), List.mem_of_getElem? (i := 1052) (by decide +kernel), List.mem_of_getElem? (i := 1053) (by decide +kernel)⟩
theorem lw_p60 : lw_okq (⟨"FountainTalkModel", "dolphinLisps", "(II)I"⟩, 22) := ⟨⟨by decide +kernel, by decide +kernel⟩, List.mem_of_getElem? (i := 705) (by decide +kernel), List.mem_of_getElem? (i := 1056) (by decide +kernel), List.mem_of_getElem? (i := 1057) (by decide +kernel)⟩
theorem lw_p61 : lw_okq (⟨"FountainTalkModel", "plainLisps", "(II)I"⟩, 22) := ⟨⟨by decide +kernel, by decide +kernel⟩, List.mem_of_getElem? (i := 705) (by decide +kernel), List.mem_of_getElem? (i := 1060) (by decide +kernel), List.mem_of_getElem? (i := 1061) (by decide +kernel)⟩
theorem lw_p62 : lw_okq (⟨"FountainTalkModel", "drips", "(II)I"⟩, 22) := ⟨⟨by decide +kernel, by decide +kernel⟩, List.mem_of_getElem? (i := 705) (by decide +kernel), List.mem_of_getElem? (i := 1064) (by decide +kernel), List.mem_of_getElem? (i := 1065) (by decide +kernel)⟩
theorem lw_p63 : lw_okq (⟨"FountainTalkModel", "plainDrips", "(II)I"⟩, 22) := ⟨⟨by decide +kernel, by decide +kernel⟩, List.mem_of_getElem? (i := 705) (by decide +kernel), List.mem_of_getElem? (i := 1068) (by decide +kernel), List.mem_of_getElem? (i := 1069) (by decide +kernel)⟩
def lw_privs_4 : List (MethodName × Nat) := [(⟨"FountainTalkModel", "opened", "()I"⟩, 22), (⟨"FountainTalkModel", "spreads", "(III)V"⟩, 22), (⟨"FountainTalkModel", "saysOn", "(II)V"⟩, 22), (⟨"FountainTalkModel", "hearers", "()I"⟩, 22), (⟨"FountainTalkModel", "lets", "(II)I"⟩, 22), (⟨"FountainTalkModel", "draw", "()I"⟩, 22), (⟨"FountainTalkModel", "isSo", "(I)Z"⟩, 22), (⟨"FountainTalkModel", "splashes", "(II)I"⟩, 22), (⟨"FountainTalkModel", "lionSplashes", "(II)I"⟩, 22), (⟨"FountainTalkModel", "begins", "(I)V"⟩, 22), (⟨"FountainTalkModel", "plainSplashes", "(II)I"⟩, 22), (⟨"FountainTalkModel", "lisps", "(II)I"⟩, 22), (⟨"FountainTalkModel", "dolphinLisps", "(II)I"⟩, 22), (⟨"FountainTalkModel", "plainLisps", "(II)I"⟩, 22), (⟨"FountainTalkModel", "drips", "(II)I"⟩, 22), (⟨"FountainTalkModel", "plainDrips", "(II)I"⟩, 22)]
theorem lw_r4 : ∀ q ∈ lw_privs_4, lw_okq q := List.forall_mem_cons.mpr ⟨lw_p48, List.forall_mem_cons.mpr ⟨lw_p49, List.forall_mem_cons.mpr ⟨lw_p50, List.forall_mem_cons.mpr ⟨lw_p51, List.forall_mem_cons.mpr ⟨lw_p52, List.forall_mem_cons.mpr ⟨lw_p53, List.forall_mem_cons.mpr ⟨lw_p54, List.forall_mem_cons.mpr ⟨lw_p55, List.forall_mem_cons.mpr ⟨lw_p56, List.forall_mem_cons.mpr ⟨lw_p57, List.forall_mem_cons.mpr ⟨lw_p58, List.forall_mem_cons.mpr ⟨lw_p59, List.forall_mem_cons.mpr ⟨lw_p60, List.forall_mem_cons.mpr ⟨lw_p61, List.forall_mem_cons.mpr ⟨lw_p62, List.forall_mem_cons.mpr ⟨lw_p63, fun _ h => absurd h List.not_mem_nil⟩⟩⟩⟩⟩⟩⟩⟩⟩⟩⟩⟩⟩⟩⟩⟩
theorem lw_p64 : lw_okq (⟨"FountainTalkModel", "partsBy", "(II)I"⟩, 22) := ⟨⟨by decide +kernel, by decide +kernel⟩, List.mem_of_getElem? (i := 705) (by decide +kernel), List.mem_of_getElem? (i := 1072) (by decide +kernel), List.mem_of_getElem? (i := 1073) (by decide +kernel)⟩
theorem lw_p65 : lw_okq (⟨"FountainTalkModel", "plainParts", "(II)I"⟩, 22) := ⟨⟨by decide +kernel, by decide +kernel⟩, List.mem_of_getElem? (i := 705) (by decide +kernel), List.mem_of_getElem? (i := 1076) (by decide +kernel), List.mem_of_getElem? (i := 1077) (by decide +kernel)⟩
theorem lw_p66 : lw_okq (⟨"FountainTalkModel", "notThere", "(I)I"⟩, 22) := ⟨⟨by decide +kernel, by decide +kernel⟩, List.mem_of_getElem? (i := 705) (by decide +kernel), List.mem_of_getElem? (i := 1093) (by decide +kernel), List.mem_of_getElem? (i := 1094) (by decide +kernel)⟩
theorem lw_p67 : lw_okq (⟨"FountainTalkModel", "notMoved", "(IIIII)I"⟩, 22) := ⟨⟨by decide +kernel, by decide +kernel⟩, List.mem_of_getElem? (i := 705) (by decide +kernel), List.mem_of_getElem? (i := 1101) (by decide +kernel), List.mem_of_getElem? (i := 1102) (by decide +kernel)⟩
def lw_privs_5 : List (MethodName × Nat) := [(⟨"FountainTalkModel", "partsBy", "(II)I"⟩, 22), (⟨"FountainTalkModel", "plainParts", "(II)I"⟩, 22), (⟨"FountainTalkModel", "notThere", "(I)I"⟩, 22), (⟨"FountainTalkModel", "notMoved", "(IIIII)I"⟩, 22)]
theorem lw_r5 : ∀ q ∈ lw_privs_5, lw_okq q := List.forall_mem_cons.mpr ⟨lw_p64, List.forall_mem_cons.mpr ⟨lw_p65, List.forall_mem_cons.mpr ⟨lw_p66, List.forall_mem_cons.mpr ⟨lw_p67, fun _ h => absurd h List.not_mem_nil⟩⟩⟩⟩
def lw_privs : List (MethodName × Nat) := lw_privs_1 ++ (lw_privs_2 ++ (lw_privs_3 ++ (lw_privs_4 ++ (lw_privs_5))))
def lw_tbl : List Cond := k2_sels lw_privs ++ tables_1
theorem lw_privs_ok : ∀ q ∈ lw_privs, lw_okq q := by
  show ∀ q ∈ lw_privs_1 ++ (lw_privs_2 ++ (lw_privs_3 ++ (lw_privs_4 ++ (lw_privs_5)))), lw_okq q
  exact List.forall_mem_append.mpr ⟨lw_r1, List.forall_mem_append.mpr ⟨lw_r2, List.forall_mem_append.mpr ⟨lw_r3, List.forall_mem_append.mpr ⟨lw_r4, lw_r5⟩⟩⟩⟩
/-! ===== BEGIN words of one list among another's, by their places ===== -/
theorem goodIn_r {big : List Cond} (ws : List Cond) (ps : List Nat) (hp : ws = ps.filterMap (fun i => big[i]?)) (h : ws.all goodWord = true) : GoodIn big ws := by
  intro w hw
  have h1 := List.all_eq_true.mp h w hw
  rw [hp] at hw
  obtain ⟨i, -, hi⟩ := List.mem_filterMap.mp hw
  have hm : w ∈ big := by first | exact List.mem_of_getElem? hi | exact List.getElem?_mem hi
  exact ⟨hm, good_of_word h1⟩
theorem goodIn_app {big a b : List Cond} (ha : GoodIn big a) (hb : GoodIn big b) : GoodIn big (a ++ b) := fun w h => (List.mem_append.mp h).elim (ha w) (hb w)
theorem goodIn_ca {big a b : List Cond} {c : Cond} (ha : GoodIn big (c :: a)) (hb : GoodIn big b) : GoodIn big (c :: (a ++ b)) := fun w h => (List.mem_cons.mp h).elim (fun e => ha w (List.mem_cons.mpr (Or.inl e))) (fun h => (List.mem_append.mp h).elim (fun h => ha w (List.mem_cons.mpr (Or.inr h))) (hb w))
theorem goodIn_sub {big ws : List Cond} (hm : ∀ w ∈ ws, w ∈ big) (h : ws.all goodWord = true) : GoodIn big ws := fun w hw => ⟨hm w hw, good_of_word (List.all_eq_true.mp h w hw)⟩
/-! ===== END ===== -/

/-! ===== BEGIN printed: names, fields, word lists, decode rows ===== -/
def RX0 : String := "FountainTalk$City"
def TX0 : u_T := fun k => match k with
  | 0 => ("FountainTalk$City", "fountains", "I", false)
  | 1 => ("FountainTalk$City", "kind", "[I", true)
  | 2 => ("FountainTalk$City", "m", "[I", true)
  | 3 => ("FountainTalk$City", "height", "[I", true)
  | 4 => ("FountainTalk$City", "talk", "[I", true)
  | 5 => ("FountainTalk$City", "pipes", "I", false)
  | 6 => ("FountainTalk$City", "from", "[I", true)
  | 7 => ("FountainTalk$City", "to", "[I", true)
  | 8 => ("FountainTalk$City", "delay", "[I", true)
  | 9 => ("FountainTalk$City", "open", "I", false)
  | 10 => ("FountainTalk$City", "frost", "I", false)
  | 11 => ("FountainTalk$City", "day", "I", false)
  | 12 => ("FountainTalk$City", "z", "I", false)
  | 13 => ("FountainTalk$City", "tape", "[I", true)
  | 14 => ("FountainTalk$City", "taped", "I", false)
  | 15 => ("FountainTalk$City", "texts", "[LFountainTalk$Text;", true)
  | 16 => ("FountainTalk$City", "waiting", "[I", true)
  | _ => ("FountainTalk$City", "waits", "I", false)
def tyX0 : Nat → FieldType := fun k => match k with
  | 0 => .int
  | 1 => .array .int
  | 2 => .array .int
  | 3 => .array .int
  | 4 => .array .int
  | 5 => .int
  | 6 => .array .int
  | 7 => .array .int
  | 8 => .array .int
  | 9 => .int
  | 10 => .int
  | 11 => .int
  | 12 => .int
  | 13 => .array .int
  | 14 => .int
  | 15 => .array (.object "FountainTalk$Text")
  | 16 => .array .int
  | _ => .int
abbrev wsX00 : List Cond := u_ws RX0 TX0 18
theorem nmX0 : ∀ a, a < 18 → ∀ b, b < 18 → a ≠ b → (TX0 a).2.1 ≠ (TX0 b).2.1 := by decide +kernel
theorem tyX0_ok : ∀ k, k < 18 → parseFieldDescriptor (TX0 k).2.2.1 = some (tyX0 k) := by decide +kernel
abbrev cX0_init : ByteArray := prog_2_method_1_code
def yX0_init : MethodName := ⟨RX0, "<init>", "()V"⟩
abbrev cX0_madeOf : ByteArray := prog_2_method_2_code
def yX0_madeOf : MethodName := ⟨RX0, "madeOf", "(II)I"⟩
abbrev cX0_withAdded : ByteArray := prog_2_method_3_code
def yX0_withAdded : MethodName := ⟨RX0, "withAdded", "(II)I"⟩
abbrev cX0_isSaidOn : ByteArray := prog_2_method_4_code
def yX0_isSaidOn : MethodName := ⟨RX0, "isSaidOn", "(II)Z"⟩
abbrev cX0_howSlow : ByteArray := prog_2_method_5_code
def yX0_howSlow : MethodName := ⟨RX0, "howSlow", "(I)I"⟩
abbrev cX0_given : ByteArray := prog_2_method_6_code
def yX0_given : MethodName := ⟨RX0, "given", "(IIII)I"⟩
abbrev cX0_passDay : ByteArray := prog_2_method_7_code
def yX0_passDay : MethodName := ⟨RX0, "passDay", "()V"⟩
abbrev cX0_draw : ByteArray := prog_2_method_8_code
def yX0_draw : MethodName := ⟨RX0, "draw", "()I"⟩
abbrev cX0_copyFrom : ByteArray := prog_2_method_9_code
def yX0_copyFrom : MethodName := ⟨RX0, "copyFrom", "(LFountainTalk$City;)V"⟩
def RX1 : String := "FountainTalk$Hearing"
def TX1 : u_T := fun k => match k with
  | 0 => ("FountainTalk$Hearing", "city", "LFountainTalk$City;", true)
  | 1 => ("FountainTalk$Hearing", "slow", "[I", true)
  | 2 => ("FountainTalk$Hearing", "when", "[I", true)
  | 3 => ("FountainTalk$Hearing", "sizes", "[I", true)
  | _ => ("FountainTalk$Hearing", "hearers", "I", false)
def tyX1 : Nat → FieldType := fun k => match k with
  | 0 => .object "FountainTalk$City"
  | 1 => .array .int
  | 2 => .array .int
  | 3 => .array .int
  | _ => .int
abbrev wsX10 : List Cond := u_ws RX1 TX1 5
theorem nmX1 : ∀ a, a < 5 → ∀ b, b < 5 → a ≠ b → (TX1 a).2.1 ≠ (TX1 b).2.1 := by decide +kernel
theorem tyX1_ok : ∀ k, k < 5 → parseFieldDescriptor (TX1 k).2.2.1 = some (tyX1 k) := by decide +kernel
abbrev cX1_init : ByteArray := prog_3_method_1_code
def yX1_init : MethodName := ⟨RX1, "<init>", "(LFountainTalk$City;)V"⟩
abbrev cX1_learnSlow : ByteArray := prog_3_method_2_code
def yX1_learnSlow : MethodName := ⟨RX1, "learnSlow", "()V"⟩
abbrev cX1_spread : ByteArray := prog_3_method_3_code
def yX1_spread : MethodName := ⟨RX1, "spread", "(III)V"⟩
abbrev cX1_isHeardAt : ByteArray := prog_3_method_4_code
def yX1_isHeardAt : MethodName := ⟨RX1, "isHeardAt", "(I)Z"⟩
abbrev cX1_nextToHear : ByteArray := prog_3_method_5_code
def yX1_nextToHear : MethodName := ⟨RX1, "nextToHear", "()I"⟩
abbrev cX1_sayOver : ByteArray := prog_3_method_6_code
def yX1_sayOver : MethodName := ⟨RX1, "sayOver", "(II)V"⟩
abbrev cX1_arrive : ByteArray := prog_3_method_7_code
def yX1_arrive : MethodName := ⟨RX1, "arrive", "(III)V"⟩
def RX2 : String := "FountainTalk$Sheet"
def TX2 : u_T := fun k => match k with
  | 0 => ("FountainTalk$Sheet", "bits", "I", false)
  | 1 => ("FountainTalk$Sheet", "length", "I", false)
  | _ => ("FountainTalk$Sheet", "numbers", "[I", true)
def tyX2 : Nat → FieldType := fun k => match k with
  | 0 => .int
  | 1 => .int
  | _ => .array .int
abbrev wsX20 : List Cond := u_ws RX2 TX2 3
theorem nmX2 : ∀ a, a < 3 → ∀ b, b < 3 → a ≠ b → (TX2 a).2.1 ≠ (TX2 b).2.1 := by decide +kernel
theorem tyX2_ok : ∀ k, k < 3 → parseFieldDescriptor (TX2 k).2.2.1 = some (tyX2 k) := by decide +kernel
abbrev cX2_init : ByteArray := prog_4_method_1_code
def yX2_init : MethodName := ⟨RX2, "<init>", "()V"⟩
abbrev cX2_begin : ByteArray := prog_4_method_2_code
def yX2_begin : MethodName := ⟨RX2, "begin", "(II)V"⟩
abbrev cX2_isMissing : ByteArray := prog_4_method_3_code
def yX2_isMissing : MethodName := ⟨RX2, "isMissing", "()Z"⟩
abbrev cX2_has : ByteArray := prog_4_method_4_code
def yX2_has : MethodName := ⟨RX2, "has", "(II)Z"⟩
abbrev cX2_lowestBits : ByteArray := prog_4_method_5_code
def yX2_lowestBits : MethodName := ⟨RX2, "lowestBits", "(I)I"⟩
def RX3 : String := "FountainTalk$Speaker"
def TX3 : u_T := fun k => match k with
  | 0 => ("FountainTalk$Speaker", "kind", "I", false)
  | 1 => ("FountainTalk$Speaker", "k", "I", false)
  | 2 => ("FountainTalk$Speaker", "m", "I", false)
  | 3 => ("FountainTalk$Speaker", "parted", "Z", false)
  | 4 => ("FountainTalk$Speaker", "bodies", "[I", true)
  | _ => ("FountainTalk$Speaker", "begun", "I", false)
def tyX3 : Nat → FieldType := fun k => match k with
  | 0 => .int
  | 1 => .int
  | 2 => .int
  | 3 => .boolean
  | 4 => .array .int
  | _ => .int
abbrev wsX30 : List Cond := u_ws RX3 TX3 6
theorem nmX3 : ∀ a, a < 6 → ∀ b, b < 6 → a ≠ b → (TX3 a).2.1 ≠ (TX3 b).2.1 := by decide +kernel
theorem tyX3_ok : ∀ k, k < 6 → parseFieldDescriptor (TX3 k).2.2.1 = some (tyX3 k) := by decide +kernel
abbrev cX3_init : ByteArray := prog_5_method_1_code
def yX3_init : MethodName := ⟨RX3, "<init>", "()V"⟩
abbrev cX3_answer : ByteArray := prog_5_method_2_code
def yX3_answer : MethodName := ⟨RX3, "answer", "(LFountainTalk$City;III)I"⟩
abbrev cX3_speak : ByteArray := prog_5_method_3_code
def yX3_speak : MethodName := ⟨RX3, "speak", "(IIII)I"⟩
abbrev cX3_part : ByteArray := prog_5_method_4_code
def yX3_part : MethodName := ⟨RX3, "part", "(I)I"⟩
abbrev cX3_begin : ByteArray := prog_5_method_5_code
def yX3_begin : MethodName := ⟨RX3, "begin", "(I)V"⟩
def RX4 : String := "FountainTalk$Text"
def TX4 : u_T := fun k => match k with
  | 0 => ("FountainTalk$Text", "stands", "Z", false)
  | 1 => ("FountainTalk$Text", "length", "I", false)
  | 2 => ("FountainTalk$Text", "steps", "[I", true)
  | 3 => ("FountainTalk$Text", "stack", "[I", true)
  | 4 => ("FountainTalk$Text", "tape", "[I", false)
  | 5 => ("FountainTalk$Text", "end", "I", false)
  | 6 => ("FountainTalk$Text", "at", "I", false)
  | 7 => ("FountainTalk$Text", "stuck", "Z", false)
  | _ => ("FountainTalk$Text", "names", "Ljava/lang/String;", false)
def tyX4 : Nat → FieldType := fun k => match k with
  | 0 => .boolean
  | 1 => .int
  | 2 => .array .int
  | 3 => .array .int
  | 4 => .array .int
  | 5 => .int
  | 6 => .int
  | 7 => .boolean
  | _ => .object "java/lang/String"
abbrev wsX40 : List Cond := u_ws RX4 TX4 9
theorem nmX4 : ∀ a, a < 9 → ∀ b, b < 9 → a ≠ b → (TX4 a).2.1 ≠ (TX4 b).2.1 := by decide +kernel
theorem tyX4_ok : ∀ k, k < 9 → parseFieldDescriptor (TX4 k).2.2.1 = some (tyX4 k) := by decide +kernel
abbrev cX4_init : ByteArray := prog_6_method_1_code
def yX4_init : MethodName := ⟨RX4, "<init>", "()V"⟩
abbrev cX4_copyFrom : ByteArray := prog_6_method_2_code
def yX4_copyFrom : MethodName := ⟨RX4, "copyFrom", "(LFountainTalk$Text;)V"⟩
abbrev cX4_value : ByteArray := prog_6_method_3_code
def yX4_value : MethodName := ⟨RX4, "value", "(III)I"⟩
abbrev cX4_joined : ByteArray := prog_6_method_4_code
def yX4_joined : MethodName := ⟨RX4, "joined", "(III)I"⟩
abbrev cX4_read : ByteArray := prog_6_method_5_code
def yX4_read : MethodName := ⟨RX4, "read", "([IILjava/lang/String;)I"⟩
abbrev cX4_readLevel : ByteArray := prog_6_method_6_code
def yX4_readLevel : MethodName := ⟨RX4, "readLevel", "(II)V"⟩
abbrev cX4_readPart : ByteArray := prog_6_method_7_code
def yX4_readPart : MethodName := ⟨RX4, "readPart", "(I)V"⟩
abbrev cX4_readNumber : ByteArray := prog_6_method_8_code
def yX4_readNumber : MethodName := ⟨RX4, "readNumber", "()V"⟩
abbrev cX4_readName : ByteArray := prog_6_method_9_code
def yX4_readName : MethodName := ⟨RX4, "readName", "(I)V"⟩
abbrev cX4_readOpened : ByteArray := prog_6_method_10_code
def yX4_readOpened : MethodName := ⟨RX4, "readOpened", "(II)V"⟩
abbrev cX4_peek : ByteArray := prog_6_method_11_code
def yX4_peek : MethodName := ⟨RX4, "peek", "()I"⟩
abbrev cX4_takeSign : ByteArray := prog_6_method_12_code
def yX4_takeSign : MethodName := ⟨RX4, "takeSign", "(I)I"⟩
abbrev cX4_levelOf : ByteArray := prog_6_method_13_code
def yX4_levelOf : MethodName := ⟨RX4, "levelOf", "(I)I"⟩
abbrev cX4_addStep : ByteArray := prog_6_method_14_code
def yX4_addStep : MethodName := ⟨RX4, "addStep", "(I)V"⟩
def RX5 : String := "FountainTalk"
def TX5 : u_T := fun k => match k with
  | 0 => ("FountainTalk", "city", "LFountainTalk$City;", true)
  | 1 => ("FountainTalk", "kept", "LFountainTalk$City;", true)
  | 2 => ("FountainTalk", "images", "I", false)
  | 3 => ("FountainTalk", "hearing", "LFountainTalk$Hearing;", true)
  | 4 => ("FountainTalk", "draft", "LFountainTalk$Text;", true)
  | 5 => ("FountainTalk", "speaker", "LFountainTalk$Speaker;", true)
  | 6 => ("FountainTalk", "sheets", "[LFountainTalk$Sheet;", true)
  | _ => ("FountainTalk", "errors", "[I", true)
def tyX5 : Nat → FieldType := fun k => match k with
  | 0 => .object "FountainTalk$City"
  | 1 => .object "FountainTalk$City"
  | 2 => .int
  | 3 => .object "FountainTalk$Hearing"
  | 4 => .object "FountainTalk$Text"
  | 5 => .object "FountainTalk$Speaker"
  | 6 => .array (.object "FountainTalk$Sheet")
  | _ => .array .int
abbrev wsX50 : List Cond := u_ws RX5 TX5 8
theorem nmX5 : ∀ a, a < 8 → ∀ b, b < 8 → a ≠ b → (TX5 a).2.1 ≠ (TX5 b).2.1 := by decide +kernel
theorem tyX5_ok : ∀ k, k < 8 → parseFieldDescriptor (TX5 k).2.2.1 = some (tyX5 k) := by decide +kernel
abbrev cX5_init : ByteArray := prog_1_method_1_code
def yX5_init : MethodName := ⟨RX5, "<init>", "()V"⟩
abbrev cX5_fountain : ByteArray := prog_1_method_2_code
def yX5_fountain : MethodName := ⟨RX5, "fountain", "(II)I"⟩
abbrev cX5_fountainIs : ByteArray := prog_1_method_3_code
def yX5_fountainIs : MethodName := ⟨RX5, "fountainIs", "(II)I"⟩
abbrev cX5_become : ByteArray := prog_1_method_4_code
def yX5_become : MethodName := ⟨RX5, "become", "(II)I"⟩
abbrev cX5_as : ByteArray := prog_1_method_5_code
def yX5_as : MethodName := ⟨RX5, "as", "(II)I"⟩
abbrev cX5_says : ByteArray := prog_1_method_6_code
def yX5_says : MethodName := ⟨RX5, "says", "(II)I"⟩
abbrev cX5_goesOn : ByteArray := prog_1_method_7_code
def yX5_goesOn : MethodName := ⟨RX5, "goesOn", "(II)I"⟩
abbrev cX5_pipe : ByteArray := prog_1_method_8_code
def yX5_pipe : MethodName := ⟨RX5, "pipe", "(III)I"⟩
abbrev cX5_pipeIs : ByteArray := prog_1_method_9_code
def yX5_pipeIs : MethodName := ⟨RX5, "pipeIs", "(II)I"⟩
abbrev cX5_turn : ByteArray := prog_1_method_10_code
def yX5_turn : MethodName := ⟨RX5, "turn", "(II)I"⟩
abbrev cX5_freeze : ByteArray := prog_1_method_11_code
def yX5_freeze : MethodName := ⟨RX5, "freeze", "(I)I"⟩
abbrev cX5_feed : ByteArray := prog_1_method_12_code
def yX5_feed : MethodName := ⟨RX5, "feed", "(JI)I"⟩
abbrev cX5_text : ByteArray := prog_1_method_13_code
def yX5_text : MethodName := ⟨RX5, "text", "(I)I"⟩
abbrev cX5_untell : ByteArray := prog_1_method_14_code
def yX5_untell : MethodName := ⟨RX5, "untell", "(I)I"⟩
abbrev cX5_law : ByteArray := prog_1_method_15_code
def yX5_law : MethodName := ⟨RX5, "law", "(IIII)I"⟩
abbrev cX5_hears : ByteArray := prog_1_method_16_code
def yX5_hears : MethodName := ⟨RX5, "hears", "(II)I"⟩
abbrev cX5_heard : ByteArray := prog_1_method_17_code
def yX5_heard : MethodName := ⟨RX5, "heard", "(IIII)I"⟩
abbrev cX5_let : ByteArray := prog_1_method_18_code
def yX5_let : MethodName := ⟨RX5, "let", "(II)I"⟩
abbrev cX5_days : ByteArray := prog_1_method_19_code
def yX5_days : MethodName := ⟨RX5, "days", "(I)I"⟩
abbrev cX5_loose : ByteArray := prog_1_method_20_code
def yX5_loose : MethodName := ⟨RX5, "loose", "(I)I"⟩
abbrev cX5_seed : ByteArray := prog_1_method_21_code
def yX5_seed : MethodName := ⟨RX5, "seed", "(I)I"⟩
abbrev cX5_hush : ByteArray := prog_1_method_22_code
def yX5_hush : MethodName := ⟨RX5, "hush", "(IIII)I"⟩
abbrev cX5_reach : ByteArray := prog_1_method_23_code
def yX5_reach : MethodName := ⟨RX5, "reach", "(IIIII)I"⟩
abbrev cX5_odds : ByteArray := prog_1_method_24_code
def yX5_odds : MethodName := ⟨RX5, "odds", "(III)I"⟩
abbrev cX5_fits : ByteArray := prog_1_method_25_code
def yX5_fits : MethodName := ⟨RX5, "fits", "(II)I"⟩
abbrev cX5_voice : ByteArray := prog_1_method_26_code
def yX5_voice : MethodName := ⟨RX5, "voice", "(III)I"⟩
abbrev cX5_body : ByteArray := prog_1_method_27_code
def yX5_body : MethodName := ⟨RX5, "body", "(I)I"⟩
abbrev cX5_sheet : ByteArray := prog_1_method_28_code
def yX5_sheet : MethodName := ⟨RX5, "sheet", "(III)I"⟩
abbrev cX5_put : ByteArray := prog_1_method_29_code
def yX5_put : MethodName := ⟨RX5, "put", "(III)I"⟩
abbrev cX5_move : ByteArray := prog_1_method_30_code
def yX5_move : MethodName := ⟨RX5, "move", "(IIIII)I"⟩
abbrev cX5_talks : ByteArray := prog_1_method_31_code
def yX5_talks : MethodName := ⟨RX5, "talks", "(I)I"⟩
abbrev cX5_judge : ByteArray := prog_1_method_32_code
def yX5_judge : MethodName := ⟨RX5, "judge", "(I)I"⟩
abbrev cX5_image : ByteArray := prog_1_method_33_code
def yX5_image : MethodName := ⟨RX5, "image", "()I"⟩
abbrev cX5_restore : ByteArray := prog_1_method_34_code
def yX5_restore : MethodName := ⟨RX5, "restore", "()I"⟩
abbrev cX5_tell : ByteArray := prog_1_method_35_code
def yX5_tell : MethodName := ⟨RX5, "tell", "(I)I"⟩
abbrev cX5_check : ByteArray := prog_1_method_36_code
def yX5_check : MethodName := ⟨RX5, "check", "()I"⟩
abbrev cX5_count : ByteArray := prog_1_method_37_code
def yX5_count : MethodName := ⟨RX5, "count", "(I)I"⟩
abbrev cX5_told : ByteArray := prog_1_method_38_code
def yX5_told : MethodName := ⟨RX5, "told", "(I)I"⟩
abbrev cX5_error : ByteArray := prog_1_method_39_code
def yX5_error : MethodName := ⟨RX5, "error", "(I)I"⟩
abbrev cX5_isBit : ByteArray := prog_1_method_40_code
def yX5_isBit : MethodName := ⟨RX5, "isBit", "(I)Z"⟩
abbrev cX5_isDigit : ByteArray := prog_1_method_41_code
def yX5_isDigit : MethodName := ⟨RX5, "isDigit", "(I)Z"⟩
abbrev cX5_isKindAndM : ByteArray := prog_1_method_42_code
def yX5_isKindAndM : MethodName := ⟨RX5, "isKindAndM", "(I)Z"⟩
abbrev cX5_isFountain : ByteArray := prog_1_method_43_code
def yX5_isFountain : MethodName := ⟨RX5, "isFountain", "(I)Z"⟩
abbrev cX5_isPipe : ByteArray := prog_1_method_44_code
def yX5_isPipe : MethodName := ⟨RX5, "isPipe", "(I)Z"⟩
abbrev cX5_isSaying : ByteArray := prog_1_method_45_code
def yX5_isSaying : MethodName := ⟨RX5, "isSaying", "(II)Z"⟩
abbrev cX5_isSheet : ByteArray := prog_1_method_46_code
def yX5_isSheet : MethodName := ⟨RX5, "isSheet", "(I)Z"⟩
abbrev cX5_isUnder : ByteArray := prog_1_method_47_code
def yX5_isUnder : MethodName := ⟨RX5, "isUnder", "(II)Z"⟩
abbrev cX5_commonDivisor : ByteArray := prog_1_method_48_code
def yX5_commonDivisor : MethodName := ⟨RX5, "commonDivisor", "(II)I"⟩
abbrev cX5_letOut : ByteArray := prog_1_method_49_code
def yX5_letOut : MethodName := ⟨RX5, "letOut", "(II)I"⟩
abbrev cX5_fewestToShut : ByteArray := prog_1_method_50_code
def yX5_fewestToShut : MethodName := ⟨RX5, "fewestToShut", "(III)I"⟩
abbrev cX5_fewestToOpen : ByteArray := prog_1_method_51_code
def yX5_fewestToOpen : MethodName := ⟨RX5, "fewestToOpen", "(IIII)I"⟩
abbrev cX5_isHeardAsIn : ByteArray := prog_1_method_52_code
def yX5_isHeardAsIn : MethodName := ⟨RX5, "isHeardAsIn", "(LFountainTalk$Sheet;)Z"⟩
def RX6 : String := "FountainTalkModel"
def TX6 : u_T := fun k => match k with
  | 0 => ("FountainTalkModel", "row", "[I", true)
  | 1 => ("FountainTalkModel", "kept", "[I", true)
  | 2 => ("FountainTalkModel", "images", "I", false)
  | 3 => ("FountainTalkModel", "errors", "[I", true)
  | 4 => ("FountainTalkModel", "bitsOf", "[I", true)
  | 5 => ("FountainTalkModel", "sizeOf", "[I", true)
  | 6 => ("FountainTalkModel", "cells", "[I", true)
  | 7 => ("FountainTalkModel", "act", "[I", true)
  | 8 => ("FountainTalkModel", "with", "[I", true)
  | 9 => ("FountainTalkModel", "facts", "[I", true)
  | 10 => ("FountainTalkModel", "pile", "[I", true)
  | 11 => ("FountainTalkModel", "laid", "I", false)
  | 12 => ("FountainTalkModel", "here", "I", false)
  | 13 => ("FountainTalkModel", "opened", "I", false)
  | 14 => ("FountainTalkModel", "bad", "Z", false)
  | 15 => ("FountainTalkModel", "using", "I", false)
  | 16 => ("FountainTalkModel", "when", "[I", true)
  | 17 => ("FountainTalkModel", "heardAs", "[I", true)
  | 18 => ("FountainTalkModel", "slow", "[I", true)
  | 19 => ("FountainTalkModel", "trace", "[I", true)
  | 20 => ("FountainTalkModel", "traced", "I", false)
  | _ => ("FountainTalkModel", "isParted", "Z", false)
def tyX6 : Nat → FieldType := fun k => match k with
  | 0 => .array .int
  | 1 => .array .int
  | 2 => .int
  | 3 => .array .int
  | 4 => .array .int
  | 5 => .array .int
  | 6 => .array .int
  | 7 => .array .int
  | 8 => .array .int
  | 9 => .array .int
  | 10 => .array .int
  | 11 => .int
  | 12 => .int
  | 13 => .int
  | 14 => .boolean
  | 15 => .int
  | 16 => .array .int
  | 17 => .array .int
  | 18 => .array .int
  | 19 => .array .int
  | 20 => .int
  | _ => .boolean
abbrev wsX60 : List Cond := u_ws RX6 TX6 22
theorem nmX6 : ∀ a, a < 22 → ∀ b, b < 22 → a ≠ b → (TX6 a).2.1 ≠ (TX6 b).2.1 := by decide +kernel
theorem tyX6_ok : ∀ k, k < 22 → parseFieldDescriptor (TX6 k).2.2.1 = some (tyX6 k) := by decide +kernel
abbrev cX6_init : ByteArray := prog_8_method_1_code
def yX6_init : MethodName := ⟨RX6, "<init>", "()V"⟩
abbrev cX6_error : ByteArray := prog_8_method_2_code
def yX6_error : MethodName := ⟨RX6, "error", "(I)I"⟩
abbrev cX6_in : ByteArray := prog_8_method_3_code
def yX6_in : MethodName := ⟨RX6, "in", "(III)Z"⟩
abbrev cX6_held : ByteArray := prog_8_method_4_code
def yX6_held : MethodName := ⟨RX6, "held", "(III)I"⟩
abbrev cX6_copyAll : ByteArray := prog_8_method_5_code
def yX6_copyAll : MethodName := ⟨RX6, "copyAll", "([I[I)V"⟩
abbrev cX6_bits : ByteArray := prog_8_method_6_code
def yX6_bits : MethodName := ⟨RX6, "bits", "(I)I"⟩
abbrev cX6_isFountain : ByteArray := prog_8_method_7_code
def yX6_isFountain : MethodName := ⟨RX6, "isFountain", "(I)Z"⟩
abbrev cX6_isPipe : ByteArray := prog_8_method_8_code
def yX6_isPipe : MethodName := ⟨RX6, "isPipe", "(I)Z"⟩
abbrev cX6_isSize : ByteArray := prog_8_method_9_code
def yX6_isSize : MethodName := ⟨RX6, "isSize", "(I)Z"⟩
abbrev cX6_becomes : ByteArray := prog_8_method_10_code
def yX6_becomes : MethodName := ⟨RX6, "becomes", "(II)I"⟩
abbrev cX6_of : ByteArray := prog_8_method_11_code
def yX6_of : MethodName := ⟨RX6, "of", "(II)I"⟩
abbrev cX6_about : ByteArray := prog_8_method_12_code
def yX6_about : MethodName := ⟨RX6, "about", "(II)I"⟩
abbrev cX6_addsOf : ByteArray := prog_8_method_13_code
def yX6_addsOf : MethodName := ⟨RX6, "addsOf", "(II)I"⟩
abbrev cX6_saidOf : ByteArray := prog_8_method_14_code
def yX6_saidOf : MethodName := ⟨RX6, "saidOf", "(II)I"⟩
abbrev cX6_doesSayOn : ByteArray := prog_8_method_15_code
def yX6_doesSayOn : MethodName := ⟨RX6, "doesSayOn", "(II)Z"⟩
abbrev cX6_slowOf : ByteArray := prog_8_method_16_code
def yX6_slowOf : MethodName := ⟨RX6, "slowOf", "(I)I"⟩
abbrev cX6_isKm : ByteArray := prog_8_method_17_code
def yX6_isKm : MethodName := ⟨RX6, "isKm", "(I)Z"⟩
abbrev cX6_fountain : ByteArray := prog_8_method_18_code
def yX6_fountain : MethodName := ⟨RX6, "fountain", "(II)I"⟩
abbrev cX6_fountainIs : ByteArray := prog_8_method_19_code
def yX6_fountainIs : MethodName := ⟨RX6, "fountainIs", "(II)I"⟩
abbrev cX6_become : ByteArray := prog_8_method_20_code
def yX6_become : MethodName := ⟨RX6, "become", "(II)I"⟩
abbrev cX6_as : ByteArray := prog_8_method_21_code
def yX6_as : MethodName := ⟨RX6, "as", "(II)I"⟩
abbrev cX6_says : ByteArray := prog_8_method_22_code
def yX6_says : MethodName := ⟨RX6, "says", "(II)I"⟩
abbrev cX6_goesOn : ByteArray := prog_8_method_23_code
def yX6_goesOn : MethodName := ⟨RX6, "goesOn", "(II)I"⟩
abbrev cX6_pipe : ByteArray := prog_8_method_24_code
def yX6_pipe : MethodName := ⟨RX6, "pipe", "(III)I"⟩
abbrev cX6_pipeIs : ByteArray := prog_8_method_25_code
def yX6_pipeIs : MethodName := ⟨RX6, "pipeIs", "(II)I"⟩
abbrev cX6_turn : ByteArray := prog_8_method_26_code
def yX6_turn : MethodName := ⟨RX6, "turn", "(II)I"⟩
abbrev cX6_freeze : ByteArray := prog_8_method_27_code
def yX6_freeze : MethodName := ⟨RX6, "freeze", "(I)I"⟩
abbrev cX6_feed : ByteArray := prog_8_method_28_code
def yX6_feed : MethodName := ⟨RX6, "feed", "(JI)I"⟩
abbrev cX6_look : ByteArray := prog_8_method_29_code
def yX6_look : MethodName := ⟨RX6, "look", "()I"⟩
abbrev cX6_lays : ByteArray := prog_8_method_30_code
def yX6_lays : MethodName := ⟨RX6, "lays", "(II)V"⟩
abbrev cX6_nameOf : ByteArray := prog_8_method_31_code
def yX6_nameOf : MethodName := ⟨RX6, "nameOf", "(I)I"⟩
abbrev cX6_number : ByteArray := prog_8_method_32_code
def yX6_number : MethodName := ⟨RX6, "number", "()V"⟩
abbrev cX6_opens : ByteArray := prog_8_method_33_code
def yX6_opens : MethodName := ⟨RX6, "opens", "(I)V"⟩
abbrev cX6_one : ByteArray := prog_8_method_34_code
def yX6_one : MethodName := ⟨RX6, "one", "()V"⟩
abbrev cX6_times : ByteArray := prog_8_method_35_code
def yX6_times : MethodName := ⟨RX6, "times", "()V"⟩
abbrev cX6_sum : ByteArray := prog_8_method_36_code
def yX6_sum : MethodName := ⟨RX6, "sum", "()V"⟩
abbrev cX6_compares : ByteArray := prog_8_method_37_code
def yX6_compares : MethodName := ⟨RX6, "compares", "()V"⟩
abbrev cX6_all : ByteArray := prog_8_method_38_code
def yX6_all : MethodName := ⟨RX6, "all", "()V"⟩
abbrev cX6_any : ByteArray := prog_8_method_39_code
def yX6_any : MethodName := ⟨RX6, "any", "()V"⟩
abbrev cX6_text : ByteArray := prog_8_method_40_code
def yX6_text : MethodName := ⟨RX6, "text", "(I)I"⟩
abbrev cX6_untell : ByteArray := prog_8_method_41_code
def yX6_untell : MethodName := ⟨RX6, "untell", "(I)I"⟩
abbrev cX6_twoOf : ByteArray := prog_8_method_42_code
def yX6_twoOf : MethodName := ⟨RX6, "twoOf", "(III)I"⟩
abbrev cX6_works : ByteArray := prog_8_method_43_code
def yX6_works : MethodName := ⟨RX6, "works", "(I)I"⟩
abbrev cX6_gives : ByteArray := prog_8_method_44_code
def yX6_gives : MethodName := ⟨RX6, "gives", "(IIII)I"⟩
abbrev cX6_law : ByteArray := prog_8_method_45_code
def yX6_law : MethodName := ⟨RX6, "law", "(IIII)I"⟩
abbrev cX6_findSlow : ByteArray := prog_8_method_46_code
def yX6_findSlow : MethodName := ⟨RX6, "findSlow", "()V"⟩
abbrev cX6_opened : ByteArray := prog_8_method_47_code
def yX6_opened : MethodName := ⟨RX6, "opened", "()I"⟩
abbrev cX6_saysOn : ByteArray := prog_8_method_48_code
def yX6_saysOn : MethodName := ⟨RX6, "saysOn", "(II)V"⟩
abbrev cX6_spreads : ByteArray := prog_8_method_49_code
def yX6_spreads : MethodName := ⟨RX6, "spreads", "(III)V"⟩
abbrev cX6_hearers : ByteArray := prog_8_method_50_code
def yX6_hearers : MethodName := ⟨RX6, "hearers", "()I"⟩
abbrev cX6_spreadsNow : ByteArray := prog_8_method_51_code
def yX6_spreadsNow : MethodName := ⟨RX6, "spreadsNow", "(II)V"⟩
abbrev cX6_hears : ByteArray := prog_8_method_52_code
def yX6_hears : MethodName := ⟨RX6, "hears", "(II)I"⟩
abbrev cX6_heard : ByteArray := prog_8_method_53_code
def yX6_heard : MethodName := ⟨RX6, "heard", "(IIII)I"⟩
abbrev cX6_lets : ByteArray := prog_8_method_54_code
def yX6_lets : MethodName := ⟨RX6, "lets", "(II)I"⟩
abbrev cX6_let : ByteArray := prog_8_method_55_code
def yX6_let : MethodName := ⟨RX6, "let", "(II)I"⟩
abbrev cX6_days : ByteArray := prog_8_method_56_code
def yX6_days : MethodName := ⟨RX6, "days", "(I)I"⟩
abbrev cX6_draw : ByteArray := prog_8_method_57_code
def yX6_draw : MethodName := ⟨RX6, "draw", "()I"⟩
abbrev cX6_loose : ByteArray := prog_8_method_58_code
def yX6_loose : MethodName := ⟨RX6, "loose", "(I)I"⟩
abbrev cX6_seed : ByteArray := prog_8_method_59_code
def yX6_seed : MethodName := ⟨RX6, "seed", "(I)I"⟩
abbrev cX6_hush : ByteArray := prog_8_method_60_code
def yX6_hush : MethodName := ⟨RX6, "hush", "(IIII)I"⟩
abbrev cX6_reach : ByteArray := prog_8_method_61_code
def yX6_reach : MethodName := ⟨RX6, "reach", "(IIIII)I"⟩
abbrev cX6_odds : ByteArray := prog_8_method_62_code
def yX6_odds : MethodName := ⟨RX6, "odds", "(III)I"⟩
abbrev cX6_isSo : ByteArray := prog_8_method_63_code
def yX6_isSo : MethodName := ⟨RX6, "isSo", "(I)Z"⟩
abbrev cX6_fits : ByteArray := prog_8_method_64_code
def yX6_fits : MethodName := ⟨RX6, "fits", "(II)I"⟩
abbrev cX6_begins : ByteArray := prog_8_method_65_code
def yX6_begins : MethodName := ⟨RX6, "begins", "(I)V"⟩
abbrev cX6_plainSplashes : ByteArray := prog_8_method_66_code
def yX6_plainSplashes : MethodName := ⟨RX6, "plainSplashes", "(II)I"⟩
abbrev cX6_lionSplashes : ByteArray := prog_8_method_67_code
def yX6_lionSplashes : MethodName := ⟨RX6, "lionSplashes", "(II)I"⟩
abbrev cX6_splashes : ByteArray := prog_8_method_68_code
def yX6_splashes : MethodName := ⟨RX6, "splashes", "(II)I"⟩
abbrev cX6_plainLisps : ByteArray := prog_8_method_69_code
def yX6_plainLisps : MethodName := ⟨RX6, "plainLisps", "(II)I"⟩
abbrev cX6_dolphinLisps : ByteArray := prog_8_method_70_code
def yX6_dolphinLisps : MethodName := ⟨RX6, "dolphinLisps", "(II)I"⟩
abbrev cX6_lisps : ByteArray := prog_8_method_71_code
def yX6_lisps : MethodName := ⟨RX6, "lisps", "(II)I"⟩
abbrev cX6_plainDrips : ByteArray := prog_8_method_72_code
def yX6_plainDrips : MethodName := ⟨RX6, "plainDrips", "(II)I"⟩
abbrev cX6_drips : ByteArray := prog_8_method_73_code
def yX6_drips : MethodName := ⟨RX6, "drips", "(II)I"⟩
abbrev cX6_plainParts : ByteArray := prog_8_method_74_code
def yX6_plainParts : MethodName := ⟨RX6, "plainParts", "(II)I"⟩
abbrev cX6_partsBy : ByteArray := prog_8_method_75_code
def yX6_partsBy : MethodName := ⟨RX6, "partsBy", "(II)I"⟩
abbrev cX6_voice : ByteArray := prog_8_method_76_code
def yX6_voice : MethodName := ⟨RX6, "voice", "(III)I"⟩
abbrev cX6_body : ByteArray := prog_8_method_77_code
def yX6_body : MethodName := ⟨RX6, "body", "(I)I"⟩
abbrev cX6_isSheet : ByteArray := prog_8_method_78_code
def yX6_isSheet : MethodName := ⟨RX6, "isSheet", "(I)Z"⟩
abbrev cX6_sheet : ByteArray := prog_8_method_79_code
def yX6_sheet : MethodName := ⟨RX6, "sheet", "(III)I"⟩
abbrev cX6_notThere : ByteArray := prog_8_method_80_code
def yX6_notThere : MethodName := ⟨RX6, "notThere", "(I)I"⟩
abbrev cX6_put : ByteArray := prog_8_method_81_code
def yX6_put : MethodName := ⟨RX6, "put", "(III)I"⟩
abbrev cX6_notMoved : ByteArray := prog_8_method_82_code
def yX6_notMoved : MethodName := ⟨RX6, "notMoved", "(IIIII)I"⟩
abbrev cX6_move : ByteArray := prog_8_method_83_code
def yX6_move : MethodName := ⟨RX6, "move", "(IIIII)I"⟩
abbrev cX6_talks : ByteArray := prog_8_method_84_code
def yX6_talks : MethodName := ⟨RX6, "talks", "(I)I"⟩
abbrev cX6_judge : ByteArray := prog_8_method_85_code
def yX6_judge : MethodName := ⟨RX6, "judge", "(I)I"⟩
abbrev cX6_image : ByteArray := prog_8_method_86_code
def yX6_image : MethodName := ⟨RX6, "image", "()I"⟩
abbrev cX6_restore : ByteArray := prog_8_method_87_code
def yX6_restore : MethodName := ⟨RX6, "restore", "()I"⟩
abbrev cX6_tell : ByteArray := prog_8_method_88_code
def yX6_tell : MethodName := ⟨RX6, "tell", "(I)I"⟩
abbrev cX6_check : ByteArray := prog_8_method_89_code
def yX6_check : MethodName := ⟨RX6, "check", "()I"⟩
abbrev cX6_count : ByteArray := prog_8_method_90_code
def yX6_count : MethodName := ⟨RX6, "count", "(I)I"⟩
abbrev cX6_told : ByteArray := prog_8_method_91_code
def yX6_told : MethodName := ⟨RX6, "told", "(I)I"⟩
def RJ11 : String := "java/lang/Character"
def TJ11 : u_T := fun k => match k with
  | _ => ("", "", "", false)
def tyJ11 : Nat → FieldType := fun k => match k with
  | _ => .int
abbrev wsJ110 : List Cond := u_ws RJ11 TJ11 0
theorem nmJ11 : ∀ a, a < 0 → ∀ b, b < 0 → a ≠ b → (TJ11 a).2.1 ≠ (TJ11 b).2.1 := by decide +kernel
theorem tyJ11_ok : ∀ k, k < 0 → parseFieldDescriptor (TJ11 k).2.2.1 = some (tyJ11 k) := by decide +kernel
abbrev cJ11_isValidCodePoint_9a6ad : ByteArray := prog_9_method_11_code
def yJ11_isValidCodePoint_9a6ad : MethodName := ⟨RJ11, "isValidCodePoint", "(I)Z"⟩
abbrev cJ11_highSurrogate_5068e : ByteArray := prog_9_method_28_code
def yJ11_highSurrogate_5068e : MethodName := ⟨RJ11, "highSurrogate", "(I)C"⟩
abbrev cJ11_lowSurrogate_5068e : ByteArray := prog_9_method_29_code
def yJ11_lowSurrogate_5068e : MethodName := ⟨RJ11, "lowSurrogate", "(I)C"⟩
def RJ6 : String := "java/lang/Integer"
def TJ6 : u_T := fun k => match k with
  | _ => ("", "", "", false)
def tyJ6 : Nat → FieldType := fun k => match k with
  | _ => .int
abbrev wsJ60 : List Cond := u_ws RJ6 TJ6 0
theorem nmJ6 : ∀ a, a < 0 → ∀ b, b < 0 → a ≠ b → (TJ6 a).2.1 ≠ (TJ6 b).2.1 := by decide +kernel
theorem tyJ6_ok : ∀ k, k < 0 → parseFieldDescriptor (TJ6 k).2.2.1 = some (tyJ6 k) := by decide +kernel
abbrev cJ6_bitCount_0f7a4 : ByteArray := prog_10_method_49_code
def yJ6_bitCount_0f7a4 : MethodName := ⟨RJ6, "bitCount", "(I)I"⟩
def RJ9 : String := "java/lang/Math"
def TJ9 : u_T := fun k => match k with
  | _ => ("", "", "", false)
def tyJ9 : Nat → FieldType := fun k => match k with
  | _ => .int
abbrev wsJ90 : List Cond := u_ws RJ9 TJ9 0
theorem nmJ9 : ∀ a, a < 0 → ∀ b, b < 0 → a ≠ b → (TJ9 a).2.1 ≠ (TJ9 b).2.1 := by decide +kernel
theorem tyJ9_ok : ∀ k, k < 0 → parseFieldDescriptor (TJ9 k).2.2.1 = some (tyJ9 k) := by decide +kernel
abbrev cJ9_max_7cf53 : ByteArray := prog_11_method_65_code
def yJ9_max_7cf53 : MethodName := ⟨RJ9, "max", "(II)I"⟩
abbrev cJ9_min_7cf53 : ByteArray := prog_11_method_69_code
def yJ9_min_7cf53 : MethodName := ⟨RJ9, "min", "(II)I"⟩
def RJ0 : String := "java/lang/String"
def TJ0 : u_T := fun k => match k with
  | _ => ("", "", "", false)
def tyJ0 : Nat → FieldType := fun k => match k with
  | _ => .int
abbrev wsJ00 : List Cond := u_ws RJ0 TJ0 0
theorem nmJ0 : ∀ a, a < 0 → ∀ b, b < 0 → a ≠ b → (TJ0 a).2.1 ≠ (TJ0 b).2.1 := by decide +kernel
theorem tyJ0_ok : ∀ k, k < 0 → parseFieldDescriptor (TJ0 k).2.2.1 = some (tyJ0 k) := by decide +kernel
abbrev cJ0_length_8abf5 : ByteArray := prog_12_method_54_code
def yJ0_length_8abf5 : MethodName := ⟨RJ0, "length", "()I"⟩
abbrev cJ0_indexOf_0f7a4 : ByteArray := prog_12_method_79_code
def yJ0_indexOf_0f7a4 : MethodName := ⟨RJ0, "indexOf", "(I)I"⟩
abbrev cJ0_indexOf_7cf53 : ByteArray := prog_12_method_80_code
def yJ0_indexOf_7cf53 : MethodName := ⟨RJ0, "indexOf", "(II)I"⟩
abbrev cJ0_coder_7d493 : ByteArray := prog_12_method_152_code
def yJ0_coder_7d493 : MethodName := ⟨RJ0, "coder", "()B"⟩
abbrev cJ0_isLatin1_aae02 : ByteArray := prog_12_method_154_code
def yJ0_isLatin1_aae02 : MethodName := ⟨RJ0, "isLatin1", "()Z"⟩
abbrev cJ0_checkBoundsBeginEnd_23922 : ByteArray := prog_12_method_158_code
def yJ0_checkBoundsBeginEnd_23922 : MethodName := ⟨RJ0, "checkBoundsBeginEnd", "(III)V"⟩
def RJ1 : String := "java/lang/StringLatin1"
def TJ1 : u_T := fun k => match k with
  | _ => ("", "", "", false)
def tyJ1 : Nat → FieldType := fun k => match k with
  | _ => .int
abbrev wsJ10 : List Cond := u_ws RJ1 TJ1 0
theorem nmJ1 : ∀ a, a < 0 → ∀ b, b < 0 → a ≠ b → (TJ1 a).2.1 ≠ (TJ1 b).2.1 := by decide +kernel
theorem tyJ1_ok : ∀ k, k < 0 → parseFieldDescriptor (TJ1 k).2.2.1 = some (tyJ1 k) := by decide +kernel
abbrev cJ1_canEncode_9a6ad : ByteArray := prog_13_method_4_code
def yJ1_canEncode_9a6ad : MethodName := ⟨RJ1, "canEncode", "(I)Z"⟩
abbrev cJ1_indexOf_4cfef : ByteArray := prog_13_method_22_code
def yJ1_indexOf_4cfef : MethodName := ⟨RJ1, "indexOf", "([BIII)I"⟩
abbrev cJ1_indexOfChar_4cfef : ByteArray := prog_13_method_23_code
def yJ1_indexOfChar_4cfef : MethodName := ⟨RJ1, "indexOfChar", "([BIII)I"⟩
def RJ2 : String := "java/lang/StringUTF16"
def TJ2 : u_T := fun k => match k with
  | _ => ("", "", "", false)
def tyJ2 : Nat → FieldType := fun k => match k with
  | _ => .int
abbrev wsJ20 : List Cond := u_ws RJ2 TJ2 0
theorem nmJ2 : ∀ a, a < 0 → ∀ b, b < 0 → a ≠ b → (TJ2 a).2.1 ≠ (TJ2 b).2.1 := by decide +kernel
theorem tyJ2_ok : ∀ k, k < 0 → parseFieldDescriptor (TJ2 k).2.2.1 = some (tyJ2 k) := by decide +kernel
abbrev cJ2_getChar_3b067 : ByteArray := prog_14_method_5_code
def yJ2_getChar_3b067 : MethodName := ⟨RJ2, "getChar", "([BI)C"⟩
abbrev cJ2_length_9d52b : ByteArray := prog_14_method_6_code
def yJ2_length_9d52b : MethodName := ⟨RJ2, "length", "([B)I"⟩
abbrev cJ2_indexOf_4cfef : ByteArray := prog_14_method_40_code
def yJ2_indexOf_4cfef : MethodName := ⟨RJ2, "indexOf", "([BIII)I"⟩
abbrev cJ2_indexOfChar_4cfef : ByteArray := prog_14_method_47_code
def yJ2_indexOfChar_4cfef : MethodName := ⟨RJ2, "indexOfChar", "([BIII)I"⟩
abbrev cJ2_indexOfCharUnsafe_4cfef : ByteArray := prog_14_method_48_code
def yJ2_indexOfCharUnsafe_4cfef : MethodName := ⟨RJ2, "indexOfCharUnsafe", "([BIII)I"⟩
abbrev cJ2_indexOfSupplementary_4cfef : ByteArray := prog_14_method_49_code
def yJ2_indexOfSupplementary_4cfef : MethodName := ⟨RJ2, "indexOfSupplementary", "([BIII)I"⟩
abbrev cJ2_checkBoundsBeginEnd_d044e : ByteArray := prog_14_method_93_code
def yJ2_checkBoundsBeginEnd_d044e : MethodName := ⟨RJ2, "checkBoundsBeginEnd", "(II[B)V"⟩
def RJ10 : String := "java/lang/System"
def TJ10 : u_T := fun k => match k with
  | _ => ("", "", "", false)
def tyJ10 : Nat → FieldType := fun k => match k with
  | _ => .int
abbrev wsJ100 : List Cond := u_ws RJ10 TJ10 0
theorem nmJ10 : ∀ a, a < 0 → ∀ b, b < 0 → a ≠ b → (TJ10 a).2.1 ≠ (TJ10 b).2.1 := by decide +kernel
theorem tyJ10_ok : ∀ k, k < 0 → parseFieldDescriptor (TJ10 k).2.2.1 = some (tyJ10 k) := by decide +kernel
def RJ3 : String := "jdk/internal/util/Preconditions"
def TJ3 : u_T := fun k => match k with
  | _ => ("", "", "", false)
def tyJ3 : Nat → FieldType := fun k => match k with
  | _ => .int
abbrev wsJ30 : List Cond := u_ws RJ3 TJ3 0
theorem nmJ3 : ∀ a, a < 0 → ∀ b, b < 0 → a ≠ b → (TJ3 a).2.1 ≠ (TJ3 b).2.1 := by decide +kernel
theorem tyJ3_ok : ∀ k, k < 0 → parseFieldDescriptor (TJ3 k).2.2.1 = some (tyJ3 k) := by decide +kernel
abbrev cJ3_checkFromToIndex_8c36e : ByteArray := prog_16_method_12_code
def yJ3_checkFromToIndex_8c36e : MethodName := ⟨RJ3, "checkFromToIndex", "(IIILjava/util/function/BiFunction;)I"⟩
def RL : String := "FountainTalkLaw"
abbrev cL_law : ByteArray := code
def yL_law : MethodName := ⟨RL, "law", "([I)Z"⟩
def wsX4_init : List Cond := .code yX4_init cX4_init 1 none :: ([.methodLink RX4 3 objectInit, .instanceMethod objectInit, .code objectInit ⟨#[0xb1]⟩ 1 none, .arrayClass .int, .fieldLink RX4 9 "FountainTalk$Text" "steps" "[I", .fieldLink RX4 15 "FountainTalk$Text" "stack" "[I"] ++ wsX40)
abbrev vwCl : List vw_C := [(RX0, TX0, 18), (RX1, TX1, 5), (RX2, TX2, 3), (RX3, TX3, 6), (RX4, TX4, 9), (RX5, TX5, 8), (RX6, TX6, 22)]
end
section
/-! ===== THE SMALL MACHINE: a state is numbers in numbered cells; a method is a table of ops; each op is sound over the kit's rows ===== -/
abbrev MS : Type := (Nat → Nat → Int32) × (Nat → Nat → Option Nat)
abbrev ML : Type := List (Nat × Value)
abbrev MR : Type := Option Value × MS
abbrev MK : Type := Nat → ML → List Value → MS → Option MR
abbrev MJ : Type := Option Value → MS → Option MR
abbrev MOp : Type := MK → MJ → ML → List Value → MS → Option MR
def mget : ML → Nat → Option Value
  | [], _ => none
  | q :: l, i => bif Nat.beq q.1 i then some q.2 else mget l i
def mhas : ML → Nat → Bool
  | [], _ => false
  | q :: l, i => bif Nat.beq q.1 i then true else mhas l i
def mrep : ML → Nat → Value → ML
  | [], _, _ => []
  | q :: l, i, v => (bif Nat.beq q.1 i then (i, v) else q) :: mrep l i v
def mset (lv : ML) (i : Nat) (v : Value) : ML := bif mhas lv i then mrep lv i v else lv ++ [(i, v)]
def mwide : ML → Nat → Bool
  | [], _ => false
  | q :: l, i => bif Nat.beq (q.1 + 1) i && Nat.beq q.2.category 2 then true else mwide l i
def mcats : List Value → Nat
  | [] => 0
  | v :: t => v.category + mcats t
def tV (ad : Nat → Nat) : Value → Value
  | .ref k => .ref (ad k)
  | v => v
abbrev tS (ad : Nat → Nat) (st : List Value) : List Value := st.map (tV ad)
abbrev tL (ad : Nat → Nat) (lv : ML) : ML := lv.map (fun q => (q.1, tV ad q.2))
theorem tV_cat (ad : Nat → Nat) (v : Value) : (tV ad v).category = v.category := by cases v <;> rfl
theorem mget_mem {lv : ML} {i : Nat} {v : Value} (h : mget lv i = some v) : (i, v) ∈ lv := by
  induction lv with
  | nil => cases h
  | cons q l ih =>
    unfold mget at h
    cases hb : Nat.beq q.1 i with
    | true =>
      rw [hb] at h
      have h1 : q.2 = v := Option.some.inj h
      have h2 : q.1 = i := Nat.eq_of_beq_eq_true hb
      rw [← h1, ← h2]
      exact List.mem_cons_self
    | false =>
      rw [hb] at h
      exact List.mem_cons_of_mem _ (ih h)
theorem mrep_mem {lv : ML} {i : Nat} {v : Value} {q : Nat × Value} (h : q ∈ mrep lv i v) : q = (i, v) ∨ (q ∈ lv ∧ q.1 ≠ i) := by
  induction lv with
  | nil => cases h
  | cons a l ih =>
    unfold mrep at h
    rcases List.mem_cons.mp h with h | h
    · cases hb : Nat.beq a.1 i with
      | true =>
        rw [hb] at h
        exact Or.inl h
      | false =>
        rw [hb] at h
        have h : q = a := h
        subst h
        exact Or.inr ⟨List.mem_cons_self, fun e => by rw [e, Nat.beq_refl] at hb; cases hb⟩
    · rcases ih h with h | h
      · exact Or.inl h
      · exact Or.inr ⟨List.mem_cons_of_mem _ h.1, h.2⟩
theorem mhas_mem {lv : ML} {i : Nat} (h : mhas lv i = false) : ∀ q ∈ lv, q.1 ≠ i := by
  induction lv with
  | nil => intro q hq; cases hq
  | cons a l ih =>
    unfold mhas at h
    cases hb : Nat.beq a.1 i with
    | true => rw [hb] at h; cases h
    | false =>
      rw [hb] at h
      intro q hq
      rcases List.mem_cons.mp hq with e | e
      · subst e
        exact fun e => by rw [e, Nat.beq_refl] at hb; cases hb
      · exact ih h q e
theorem mset_mem {lv : ML} {i : Nat} {v : Value} {q : Nat × Value} (h : q ∈ mset lv i v) : q = (i, v) ∨ (q ∈ lv ∧ q.1 ≠ i) := by
  unfold mset at h
  cases hb : mhas lv i with
  | true => rw [hb] at h; exact mrep_mem h
  | false =>
    rw [hb] at h
    rcases List.mem_append.mp h with e | e
    · exact Or.inr ⟨e, mhas_mem hb q e⟩
    · exact Or.inl (List.mem_singleton.mp e)
theorem mwide_mem {lv : ML} {i : Nat} (h : mwide lv i = false) : ∀ q ∈ lv, ¬ (q.1 + 1 = i ∧ q.2.category = 2) := by
  induction lv with
  | nil => intro q hq; cases hq
  | cons a l ih =>
    unfold mwide at h
    cases hb : (Nat.beq (a.1 + 1) i && Nat.beq a.2.category 2) with
    | true => rw [hb] at h; cases h
    | false =>
      rw [hb] at h
      intro q hq
      rcases List.mem_cons.mp hq with e | e
      · subst e
        intro z
        rw [z.1, z.2, Nat.beq_refl, Nat.beq_refl] at hb
        cases hb
      · exact ih h q e
theorem ml_at {ls : Array Slot} {nL : Nat} {ad : Nat → Nat} {lv : ML} (h : lv_has ls nL (tL ad lv)) {i : Nat} {v : Value} (hg : mget lv i = some v) : ls[i]? = some (.val (tV ad v)) :=
  h.2.2 (i, tV ad v) (List.mem_map.mpr ⟨(i, v), mget_mem hg, rfl⟩)
/-- after the kit's store, the small machine's list -/
theorem ml_set {ls' : Array Slot} {nL i : Nat} {ad : Nat → Nat} {lv : ML} {v : Value} (hw : mwide lv i = false) (h : lv_has ls' nL ((i, tV ad v) :: (tL ad lv).filter (fun q => !(q.1 == i) && !(q.1 + 1 == i && q.2.category == 2)))) : lv_has ls' nL (tL ad (mset lv i v)) := by
  refine ⟨h.1, h.2.1, fun q hq => h.2.2 q ?_⟩
  obtain ⟨b, hb, rfl⟩ := List.mem_map.mp hq
  rcases mset_mem hb with e | ⟨e, ne⟩
  · subst e
    exact List.mem_cons_self
  · refine List.mem_cons_of_mem _ (List.mem_filter.mpr ⟨List.mem_map.mpr ⟨b, e, rfl⟩, ?_⟩)
    have h2 := mwide_mem hw b e
    have h3 : ¬ (b.1 + 1 = i ∧ (tV ad b.2).category = 2) := by rw [tV_cat]; exact h2
    simp only [Bool.and_eq_true, Bool.not_eq_true', beq_eq_false_iff_ne, ne_eq, Bool.and_eq_false_imp, beq_iff_eq]
    exact ⟨ne, fun h4 h5 => h3 ⟨h4, h5⟩⟩
theorem mcats_eq (ad : Nat → Nat) (st : List Value) : ((tS ad st).map fun v => v.category).sum = mcats st := by
  induction st with
  | nil => rfl
  | cons v t ih =>
    show (tV ad v).category + ((tS ad t).map fun v => v.category).sum = v.category + mcats t
    rw [ih, tV_cat]

/-! the layout: 0 x, 1 city, 2 city_kind, 3 city_m, 4 city_height, 5 city_talk, 6 city_from, 7 city_to, 8 city_delay, 9 city_tape, 10 city_waiting, 11 city_texts, 12 city_t0, 13 city_t0_steps, 14 city_t0_stack, 15 city_t1, 16 city_t1_steps, 17 city_t1_stack, 18 kept, 19 kept_kind, 20 kept_m, 21 kept_height, 22 kept_talk, 23 kept_from, 24 kept_to, 25 kept_delay, 26 kept_tape, 27 kept_waiting, 28 kept_texts, 29 kept_t0, 30 kept_t0_steps, 31 kept_t0_stack, 32 kept_t1, 33 kept_t1_steps, 34 kept_t1_stack, 35 hearing, 36 h_slow, 37 h_when, 38 h_sizes, 39 draft, 40 draft_steps, 41 draft_stack, 42 speaker, 43 sp_bodies, 44 sheets, 45 sheet0, 46 sheet0_n, 47 sheet1, 48 sheet1_n, 49 sheet2, 50 sheet2_n, 51 sheet3, 52 sheet3_n, 53 errors, 54 model, 55 m_row, 56 m_kept, 57 m_errors, 58 m_bitsOf, 59 m_sizeOf, 60 m_cells, 61 m_act, 62 m_with, 63 m_facts, 64 m_pile, 65 m_when, 66 m_heardAs, 67 m_slow, 68 m_trace -/
abbrev NC : Nat := 69
/-- kind and number: 0 ints (length), 1 texts, 2 sheets, 3 object (class) -/
def kiT : List (Nat × Nat) := [(3, 5), (3, 0), (0, 8), (0, 8), (0, 8), (0, 8), (0, 9), (0, 9), (0, 9), (0, 60), (0, 24), (1, 2), (3, 4), (0, 60), (0, 60), (3, 4), (0, 60), (0, 60), (3, 0), (0, 8), (0, 8), (0, 8), (0, 8), (0, 9), (0, 9), (0, 9), (0, 60), (0, 24), (1, 2), (3, 4), (0, 60), (0, 60), (3, 4), (0, 60), (0, 60), (3, 1), (0, 9), (0, 8), (0, 8), (3, 4), (0, 60), (0, 60), (3, 3), (0, 30), (2, 4), (3, 2), (0, 24), (3, 2), (0, 24), (3, 2), (0, 24), (3, 2), (0, 24), (0, 7), (3, 6), (0, 401), (0, 401), (0, 7), (0, 4), (0, 4), (0, 96), (0, 60), (0, 60), (0, 3), (0, 60), (0, 8), (0, 8), (0, 9), (0, 30)]
def ki (k : Nat) : Nat × Nat := kiT.getD k (9, 0)
def nF (ci : Nat) : Nat := [18, 5, 3, 6, 9, 8, 22].getD ci 0
def isI (ci j : Nat) : Bool := [[0, 5, 9, 10, 11, 12, 14, 17], [4], [0, 1], [0, 1, 2, 3, 5], [0, 1, 5, 6, 7], [2], [2, 11, 12, 13, 14, 15, 20, 21]].getD ci [] |>.contains j
/-- the reference slots that never change: cell, slot to cell -/
def rTT : List (List (Nat × Nat)) := [[(0, 1), (1, 18), (3, 35), (4, 39), (5, 42), (6, 44), (7, 53)], [(1, 2), (2, 3), (3, 4), (4, 5), (6, 6), (7, 7), (8, 8), (13, 9), (15, 11), (16, 10)], [], [], [], [], [], [], [], [], [], [(0, 12), (1, 15)], [(2, 13), (3, 14)], [], [], [(2, 16), (3, 17)], [], [], [(1, 19), (2, 20), (3, 21), (4, 22), (6, 23), (7, 24), (8, 25), (13, 26), (15, 28), (16, 27)], [], [], [], [], [], [], [], [], [], [(0, 29), (1, 32)], [(2, 30), (3, 31)], [], [], [(2, 33), (3, 34)], [], [], [(0, 1), (1, 36), (2, 37), (3, 38)], [], [], [], [(2, 40), (3, 41)], [], [], [(4, 43)], [], [(0, 45), (1, 47), (2, 49), (3, 51)], [(2, 46)], [], [(2, 48)], [], [(2, 50)], [], [(2, 52)], [], [], [(0, 55), (1, 56), (3, 57), (4, 58), (5, 59), (6, 60), (7, 61), (8, 62), (9, 63), (10, 64), (16, 65), (17, 66), (18, 67), (19, 68)], [], [], [], [], [], [], [], [], [], [], [], [], [], []]
def rlk : List (Nat × Nat) → Nat → Option Nat
  | [], _ => none
  | q :: l, j => bif Nat.beq q.1 j then some q.2 else rlk l j
def rT (k j : Nat) : Option Nat := rlk (rTT.getD k []) j
def rv (S : MS) (k j : Nat) : Option Nat := match rT k j with
  | some r => some r
  | none => S.2 k j
def mF (ad : Nat → Nat) (S : MS) (k ci : Nat) : List Value := (List.range (nF ci)).map (fun j => bif isI ci j then .int (S.1 k j) else va_rf ((rv S k j).map ad))
def mE (ad : Nat → Nat) (ca : Nat → ClassId) (S : MS) (k : Nat) : va_E := match (ki k).1 with
  | 0 => .inl (ca 0, (ki k).2, .inl (S.1 k))
  | 1 => .inl (ca 1, (ki k).2, .inr (.inr (.inr (.inr (fun j => (rv S k j).map ad)))))
  | 2 => .inl (ca 2, (ki k).2, .inr (.inr (.inr (.inr (fun j => (rv S k j).map ad)))))
  | _ => .inr ((ki k).2, mF ad S k (ki k).2)
def mW (ad : Nat → Nat) (ca : Nat → ClassId) (S : MS) : va_W := (List.range NC).map (fun k => (ad k, mE ad ca S k))
def mT (ca : Nat → ClassId) : List (ClassId × FieldType) := [(ca 0, .int), (ca 1, .object "FountainTalk$Text"), (ca 2, .object "FountainTalk$Sheet")]
def mD (ad : Nat → Nat) (A : Nat → Prop) : Prop := (∀ i j, i < NC → j < NC → ad i = ad j → i = j) ∧ ∀ i, i < NC → A (ad i)
def mA (ad : Nat → Nat) (sz : Nat) : Nat → Prop := fun q => (∃ k, k < NC ∧ q = ad k) ∨ sz ≤ q
theorem mW_at {ad : Nat → Nat} {ca : Nat → ClassId} {S : MS} {k : Nat} (h : k < NC) : (mW ad ca S)[k]? = some (ad k, mE ad ca S k) := by
  unfold mW
  rw [List.getElem?_map, List.getElem?_range h]
  rfl
theorem mW_inv {ad : Nat → Nat} {ca : Nat → ClassId} {S : MS} {k : Nat} {q : Nat × va_E} (h : (mW ad ca S)[k]? = some q) : k < NC ∧ q = (ad k, mE ad ca S k) := by
  have hk : k < NC := by
    have h1 := (List.getElem?_eq_some_iff.mp h).1
    unfold mW at h1
    rw [List.length_map, List.length_range] at h1
    exact h1
  rw [mW_at hk] at h
  exact ⟨hk, (Option.some.inj h).symm⟩
theorem mD_va {ad : Nat → Nat} {A : Nat → Prop} (h : mD ad A) (ca : Nat → ClassId) (S : MS) : va_D A (mW ad ca S) := by
  refine ⟨fun i j p q hp hq e => ?_, fun k q hq => ?_⟩
  · obtain ⟨h1, rfl⟩ := mW_inv hp
    obtain ⟨h2, rfl⟩ := mW_inv hq
    exact h.1 i j h1 h2 e
  · obtain ⟨h1, rfl⟩ := mW_inv hq
    exact h.2 k h1
theorem mW_set {ad : Nat → Nat} {ca : Nat → ClassId} {S S' : MS} {k : Nat} {e : va_E} (hk : k < NC) (he : mE ad ca S' k = e) (ho : ∀ i, i ≠ k → mE ad ca S' i = mE ad ca S i) : (mW ad ca S).set k (ad k, e) = mW ad ca S' := by
  refine List.ext_getElem? (fun i => ?_)
  rw [List.getElem?_set]
  by_cases hi : k = i
  · subst hi
    have hl : k < (mW ad ca S).length := by
      unfold mW
      rw [List.length_map, List.length_range]
      exact hk
    rw [if_pos rfl, if_pos hl, mW_at hk, he]
  · rw [if_neg hi]
    by_cases h2 : i < NC
    · rw [mW_at h2, mW_at h2, ho i (fun z => hi z.symm)]
    · have l1 : (mW ad ca S).length = NC := by unfold mW; rw [List.length_map, List.length_range]
      have l2 : (mW ad ca S').length = NC := by unfold mW; rw [List.length_map, List.length_range]
      rw [List.getElem?_eq_none (by omega), List.getElem?_eq_none (by omega)]
def uI (S : MS) (k j : Nat) (x : Int32) : MS := (fun a b => if a = k then (if b = j then x else S.1 a b) else S.1 a b, S.2)
def uR (S : MS) (k j : Nat) (x : Option Nat) : MS := (S.1, fun a b => if a = k then (if b = j then x else S.2 a b) else S.2 a b)
def uC (S : MS) (src dst sp dp n : Nat) : MS := (fun a b => if a = dst then va_cpy (S.1 src) (S.1 dst) sp dp n b else S.1 a b, S.2)
theorem mE_oth {ad : Nat → Nat} {ca : Nat → ClassId} {S S' : MS} {i : Nat} (h1 : S'.1 i = S.1 i) (h2 : S'.2 i = S.2 i) : mE ad ca S' i = mE ad ca S i := by
  have h3 : ∀ j, rv S' i j = rv S i j := fun j => by unfold rv; rw [h2]
  unfold mE mF
  simp only [h1, h3]
theorem uI_oth {S : MS} {k j : Nat} {x : Int32} {i : Nat} (h : i ≠ k) : (uI S k j x).1 i = S.1 i := by
  funext b
  simp [uI, h]
theorem uR_oth {S : MS} {k j : Nat} {x : Option Nat} {i : Nat} (h : i ≠ k) : (uR S k j x).2 i = S.2 i := by
  funext b
  simp [uR, h]
theorem uC_oth {S : MS} {a k x y n : Nat} {i : Nat} (h : i ≠ k) : (uC S a k x y n).1 i = S.1 i := by
  funext b
  simp [uC, h]
theorem ki_lt {k a b : Nat} (h : ki k = (a, b)) (ha : a ≠ 9) : k < NC := by
  rcases Nat.lt_or_ge k NC with q | q
  · exact q
  · exfalso
    have e : kiT[k]? = none := List.getElem?_eq_none (show kiT.length ≤ k from q)
    unfold ki at h
    rw [List.getD_eq_getElem?_getD, e] at h
    exact ha (Prod.mk.inj h).1.symm
theorem mE_obj {ad : Nat → Nat} {ca : Nat → ClassId} {S : MS} {k ci : Nat} (h : ki k = (3, ci)) : mE ad ca S k = .inr (ci, mF ad S k ci) := by
  unfold mE
  rw [h]
  rfl
theorem mE_int {ad : Nat → Nat} {ca : Nat → ClassId} {S : MS} {k n : Nat} (h : ki k = (0, n)) : mE ad ca S k = .inl (ca 0, n, .inl (S.1 k)) := by
  unfold mE
  rw [h]
  rfl
theorem mE_tx {ad : Nat → Nat} {ca : Nat → ClassId} {S : MS} {k n : Nat} (h : ki k = (1, n)) : mE ad ca S k = .inl (ca 1, n, .inr (.inr (.inr (.inr (fun j => (rv S k j).map ad))))) := by
  unfold mE
  rw [h]
  rfl
theorem mE_sh {ad : Nat → Nat} {ca : Nat → ClassId} {S : MS} {k n : Nat} (h : ki k = (2, n)) : mE ad ca S k = .inl (ca 2, n, .inr (.inr (.inr (.inr (fun j => (rv S k j).map ad))))) := by
  unfold mE
  rw [h]
  rfl
theorem mF_at {ad : Nat → Nat} {S : MS} {k ci j : Nat} (h : j < nF ci) : (mF ad S k ci)[j]? = some (bif isI ci j then .int (S.1 k j) else va_rf ((rv S k j).map ad)) := by
  unfold mF
  rw [List.getElem?_map, List.getElem?_range h]
  rfl
theorem mF_len {ad : Nat → Nat} {S : MS} {k ci : Nat} : (mF ad S k ci).length = nF ci := by
  unfold mF
  rw [List.length_map, List.length_range]
theorem mF_ext {ad : Nat → Nat} {S S' : MS} {k ci j : Nat} {v : Value} (hj : j < nF ci) (hv : (bif isI ci j then Value.int (S'.1 k j) else va_rf ((rv S' k j).map ad)) = v) (ho : ∀ i, i ≠ j → S'.1 k i = S.1 k i ∧ rv S' k i = rv S k i) : mF ad S' k ci = (mF ad S k ci).set j v := by
  refine List.ext_getElem? (fun i => ?_)
  rw [List.getElem?_set]
  by_cases hi : j = i
  · subst hi
    rw [if_pos rfl, if_pos (by rw [mF_len]; exact hj), mF_at hj, hv]
  · rw [if_neg hi]
    by_cases h2 : i < nF ci
    · rw [mF_at h2, mF_at h2, (ho i (fun z => hi z.symm)).1, (ho i (fun z => hi z.symm)).2]
    · rw [List.getElem?_eq_none (by rw [mF_len]; omega), List.getElem?_eq_none (by rw [mF_len]; omega)]
end
section
/-! ===== what holds in a method's walk; the ops; each op is sound ===== -/
def mALL : List Cond := lw_tbl.filter goodWord
def aboveL : List Int32 := [0, 0, 0, 0, 1, 2, 0]
def bodiesL : List Int32 := [10, 11, 12, 13, 20, 0, 0, 21, 0, 30, 0, 0, 0, 0, 40, 0, 50, 0, 51, 0, 0, 60, 0, 0, 70, 71, 0, 0]
def strB : List (List Int32) := [[122, 104, 107], [100, 102, 104]]
/-- what never changes: ABOVE at 1000, BODIES at 1001, the two texts at 1003, 1004, their bytes at 1005, 1006 -/
def mC (A : Nat → Prop) (ad : Nat → Nat) (U : State) (H : Heap) : Prop :=
  va_Z "FountainTalk" "ABOVE" "[I" (.ref (ad 1000)) A U H ∧ va_T .int (ad 1000) 7 (fun j => .int (aboveL.getD j 0)) A U H ∧
  va_Z "FountainTalk$Speaker" "BODIES" "[I" (.ref (ad 1001)) A U H ∧ va_T .int (ad 1001) 28 (fun j => .int (bodiesL.getD j 0)) A U H ∧
  va_Z "java/lang/String" "COMPACT_STRINGS" "Z" (.int 1) A U H ∧
  vk_S 2 [3, 3] strB (fun i => ad (1003 + i)) (fun i => ad (1005 + i)) A U H ∧
  vk_R "FountainTalk" 130 "zhk" (ad 1003) U ∧ vk_R "FountainTalk" 132 "dfh" (ad 1004) U
theorem mC_call {A B : Nat → Prop} {ad : Nat → Nat} {s U : State} {H : Heap} (h : mC A ad s s.heap) (hW : s.WarmedH U.vm) (hq : ∀ a : Nat, a < s.heap.size → ¬ A a → H[a]? = s.heap[a]?) (hAB : ∀ q, q < H.size → B q → A q) : mC B ad U H := by
  have hvm := hW.alike
  have hn : ∀ q, (fun q => B q ∧ q < H.size) q → A q := fun q z => hAB q z.2 z.1
  obtain ⟨h1, h2, h3, h4, h5, h6, h7, h8⟩ := h
  refine ⟨?_, ?_, ?_, ?_, ?_, ?_, h7.warm hW, h8.warm hW⟩
  · obtain ⟨cf, kf, fi, f, a, cell, g1, g2, g3, g4, g5, g6, g7, g8⟩ := (h1.moved hvm).kept hq
    exact ⟨cf, kf, fi, f, a, cell, g1, g2, g3, g4, g5, g6, g7, fun z => g8 (hAB a (Array.getElem?_eq_some_iff.mp g5).1 z)⟩
  · obtain ⟨cell, g1, g2, g3, g4, g5, g6, g7⟩ := (h2.moved hvm).kept hq
    exact ⟨cell, g1, g2, g3, g4, g5, g6, fun z => g7 (hAB _ (Array.getElem?_eq_some_iff.mp g1).1 z)⟩
  · obtain ⟨cf, kf, fi, f, a, cell, g1, g2, g3, g4, g5, g6, g7, g8⟩ := (h3.moved hvm).kept hq
    exact ⟨cf, kf, fi, f, a, cell, g1, g2, g3, g4, g5, g6, g7, fun z => g8 (hAB a (Array.getElem?_eq_some_iff.mp g5).1 z)⟩
  · obtain ⟨cell, g1, g2, g3, g4, g5, g6, g7⟩ := (h4.moved hvm).kept hq
    exact ⟨cell, g1, g2, g3, g4, g5, g6, fun z => g7 (hAB _ (Array.getElem?_eq_some_iff.mp g1).1 z)⟩
  · obtain ⟨cf, kf, fi, f, a, cell, g1, g2, g3, g4, g5, g6, g7, g8⟩ := (h5.moved hvm).kept hq
    exact ⟨cf, kf, fi, f, a, cell, g1, g2, g3, g4, g5, g6, g7, fun z => g8 (hAB a (Array.getElem?_eq_some_iff.mp g5).1 z)⟩
  · obtain ⟨k1, k2⟩ := (h6.moved hvm).kept hq
    refine ⟨fun i hi => ?_, k2⟩
    obtain ⟨⟨c1, a1, a2, a3, a4⟩, ⟨f1, f2, f3, f4, f5, f6, f7, f8, f9, f10, f11⟩, ⟨e1, e2, e3, e4, e5, e6, e7, e8, e9, e10, e11⟩, ⟨c2, b1, b2, b3, b4, b5, b6, b7⟩⟩ := k1 i hi
    exact ⟨⟨c1, a1, a2, a3, fun z => a4 (hAB _ (Array.getElem?_eq_some_iff.mp a1).1 z)⟩, ⟨f1, f2, f3, f4, f5, f6, f7, f8, f9, f10, fun z => f11 (hAB _ (Array.getElem?_eq_some_iff.mp f8).1 z)⟩, ⟨e1, e2, e3, e4, e5, e6, e7, e8, e9, e10, fun z => e11 (hAB _ (Array.getElem?_eq_some_iff.mp e8).1 z)⟩, ⟨c2, b1, b2, b3, b4, b5, b6, fun z => b7 (hAB _ (Array.getElem?_eq_some_iff.mp b1).1 z)⟩⟩
/-- what a walk has: machine, code, words, classes, cells; d: how deep its calls may go -/
def mX (p : Program) (s : State) (m : MethodId) (args : Array Value) (meth : Method) (c : Code) (R : Room) (cc : ByteArray) (nL : Nat) (own : String) (ret : Option FieldType) (A : Nat → Prop) (D : va_G) (ca : Nat → ClassId) (ad : Nat → Nat) (d : Nat) : Prop :=
  p.tables.exec = Jvm.exec ∧ c.code = cc ∧ c.maxLocals = nL ∧ s.vm.findClass own = some m.cls ∧ (∀ w ∈ mALL, w.before args s = true) ∧ meth.locks = false ∧ meth.sig.returnType = ret ∧ va_K D vwCl (mT ca) s ∧ mD ad A ∧ (∀ q, s.heap.size ≤ q → A q) ∧ mC A ad s s.heap ∧ d + 2 ≤ R.frames ∧ 50 * (d + 2) ≤ R.locals
def mAt (p : Program) (l : Launch) (e : Env) (R : Room) (s : State) (m : MethodId) (args : Array Value) (below : List Frame) (meth : Method) (c : Code) (Q : State → Prop) (A : Nat → Prop) (D : va_G) (ca : Nat → ClassId) (ad : Nat → Nat) (nL : Nat) (pc : Nat) (lv : ML) (st : List Value) (S : MS) : Prop :=
  ∀ (H : Heap) (locs : List Loc) (ls : Array Slot), va_P D vwCl (mW ad ca S) H → va_S A s.heap H locs → lv_has ls nL (tL ad lv) → W p l e R s m args below meth c H locs 0 0 Q (F0 m pc ls (tS ad st))
def mSnd (T : Nat → ML → List Value → MS → Prop) (J : Option Value → MS → Prop) (pc : Nat) (op : MOp) : Prop :=
  ∀ (k : MK) (kr : MJ) (r : MR) (lv : ML) (st : List Value) (S : MS), (∀ a b c' d', k a b c' d' = some r → T a b c' d') → (∀ v S', kr v S' = some r → J v S') → op k kr lv st S = some r → T pc lv st S
def mMono (op : MOp) : Prop := ∀ (k k' : MK) (kr : MJ) (r : MR) (lv : ML) (st : List Value) (S : MS), (∀ a b c' d', k a b c' d' = some r → k' a b c' d' = some r) → op k kr lv st S = some r → op k' kr lv st S = some r

section
variable {p : Program} {l : Launch} {e : Env} {R : Room} {s : State} {m : MethodId} {args : Array Value} {below : List Frame} {meth : Method} {c : Code} {Q : State → Prop} {A : Nat → Prop} {D : va_G} {ca : Nat → ClassId} {ad : Nat → Nat} {nL d pc : Nat} {cc : ByteArray} {own : String} {ret : Option FieldType} {J : Option Value → MS → Prop}
def oIload (i n : Nat) : MOp := fun k kr lv st S => match mget lv i with
  | some (.int x) => k n lv (.int x :: st) S
  | _ => none
def oAload (i n : Nat) : MOp := fun k kr lv st S => match mget lv i with
  | some (.ref x) => k n lv (.ref x :: st) S
  | _ => none
def oLload (i n : Nat) : MOp := fun k kr lv st S => match mget lv i with
  | some (.long x) => k n lv (.long x :: st) S
  | _ => none
theorem mo_oIload (i n : Nat) : mMono (oIload i n) := by
  intro k k' kr r lv st S hk h
  unfold oIload at h ⊢
  split at h
  · exact hk _ _ _ _ h
  · cases h
theorem mo_oAload (i n : Nat) : mMono (oAload i n) := by
  intro k k' kr r lv st S hk h
  unfold oAload at h ⊢
  split at h
  · exact hk _ _ _ _ h
  · cases h
theorem mo_oLload (i n : Nat) : mMono (oLload i n) := by
  intro k k' kr r lv st S hk h
  unfold oLload at h ⊢
  split at h
  · exact hk _ _ _ _ h
  · cases h
theorem s_iload (X : mX p s m args meth c R cc nL own ret A D ca ad d) {i : Nat} (hdg : decode cc pc = .ok (.iload i, 2)) : mSnd (mAt p l e R s m args below meth c Q A D ca ad nL) J pc (oIload i (pc + 2)) := by
  intro k kr r lv st S hk hr h H locs ls hP hS hl
  unfold oIload at h
  split at h
  · rename_i x hx
    exact lv_iload X.1 X.2.1 hdg (ml_at hl hx) (hk _ _ _ _ h H locs ls hP hS hl)
  · cases h
theorem s_iload_n (X : mX p s m args meth c R cc nL own ret A D ca ad d) {k : Fin 4} {i : Nat} (hdg : decode cc pc = .ok (.iload_n k, 1)) (hi : (k : Nat) = i) : mSnd (mAt p l e R s m args below meth c Q A D ca ad nL) J pc (oIload i (pc + 1)) := by
  intro k kr r lv st S hk hr h H locs ls hP hS hl
  unfold oIload at h
  split at h
  · rename_i x hx
    exact lv_iload_n X.1 X.2.1 hdg hi (ml_at hl hx) (hk _ _ _ _ h H locs ls hP hS hl)
  · cases h
theorem s_aload (X : mX p s m args meth c R cc nL own ret A D ca ad d) {i : Nat} (hdg : decode cc pc = .ok (.aload i, 2)) : mSnd (mAt p l e R s m args below meth c Q A D ca ad nL) J pc (oAload i (pc + 2)) := by
  intro k kr r lv st S hk hr h H locs ls hP hS hl
  unfold oAload at h
  split at h
  · rename_i x hx
    exact lv_aload X.1 X.2.1 hdg (ml_at hl hx) (hk _ _ _ _ h H locs ls hP hS hl)
  · cases h
theorem s_aload_n (X : mX p s m args meth c R cc nL own ret A D ca ad d) {k : Fin 4} {i : Nat} (hdg : decode cc pc = .ok (.aload_n k, 1)) (hi : (k : Nat) = i) : mSnd (mAt p l e R s m args below meth c Q A D ca ad nL) J pc (oAload i (pc + 1)) := by
  intro k kr r lv st S hk hr h H locs ls hP hS hl
  unfold oAload at h
  split at h
  · rename_i x hx
    exact lv_aload_n X.1 X.2.1 hdg hi (ml_at hl hx) (hk _ _ _ _ h H locs ls hP hS hl)
  · cases h
theorem s_lload_n (X : mX p s m args meth c R cc nL own ret A D ca ad d) {k : Fin 4} {i : Nat} (hdg : decode cc pc = .ok (.lload_n k, 1)) (hi : (k : Nat) = i) : mSnd (mAt p l e R s m args below meth c Q A D ca ad nL) J pc (oLload i (pc + 1)) := by
  intro k kr r lv st S hk hr h H locs ls hP hS hl
  unfold oLload at h
  split at h
  · rename_i x hx
    exact lv_lload_n X.1 X.2.1 hdg hi (ml_at hl hx) (hk _ _ _ _ h H locs ls hP hS hl)
  · cases h
def oIstore (i n : Nat) : MOp := fun k kr lv st S => match st with
  | .int x :: t => bif mwide lv i then none else k n (mset lv i (.int x)) t S
  | _ => none
theorem mo_oIstore (i n : Nat) : mMono (oIstore i n) := by
  intro k k' kr r lv st S hk h
  unfold oIstore at h ⊢
  split at h
  · cases hw : mwide lv i with
    | true => rw [hw] at h; cases h
    | false => rw [hw] at h; exact hk _ _ _ _ h
  · cases h
def oAstore (i n : Nat) : MOp := fun k kr lv st S => match st with
  | .ref x :: t => bif mwide lv i then none else k n (mset lv i (.ref x)) t S
  | _ => none
theorem mo_oAstore (i n : Nat) : mMono (oAstore i n) := by
  intro k k' kr r lv st S hk h
  unfold oAstore at h ⊢
  split at h
  · cases hw : mwide lv i with
    | true => rw [hw] at h; cases h
    | false => rw [hw] at h; exact hk _ _ _ _ h
  · cases h
theorem s_istore (X : mX p s m args meth c R cc nL own ret A D ca ad d) {i : Nat} (hdg : decode cc pc = .ok (.istore i, 2)) (hn : i < nL) : mSnd (mAt p l e R s m args below meth c Q A D ca ad nL) J pc (oIstore i (pc + 2)) := by
  intro k kr r lv st S hk hr h H locs ls hP hS hl
  unfold oIstore at h
  split at h
  · cases hw : mwide lv i with
    | true => rw [hw] at h; cases h
    | false =>
      rw [hw] at h
      exact lv_istore X.1 X.2.1 hdg hl hn rfl (fun ls' hl' => hk _ _ _ _ h H locs ls' hP hS (ml_set hw hl'))
  · cases h
theorem s_istore_n (X : mX p s m args meth c R cc nL own ret A D ca ad d) {k : Fin 4} {i : Nat} (hdg : decode cc pc = .ok (.istore_n k, 1)) (hi : (k : Nat) = i) (hn : i < nL) : mSnd (mAt p l e R s m args below meth c Q A D ca ad nL) J pc (oIstore i (pc + 1)) := by
  intro k kr r lv st S hk hr h H locs ls hP hS hl
  unfold oIstore at h
  split at h
  · cases hw : mwide lv i with
    | true => rw [hw] at h; cases h
    | false =>
      rw [hw] at h
      exact lv_istore_n X.1 X.2.1 hdg hi hl hn rfl (fun ls' hl' => hk _ _ _ _ h H locs ls' hP hS (ml_set hw hl'))
  · cases h
theorem s_astore (X : mX p s m args meth c R cc nL own ret A D ca ad d) {i : Nat} (hdg : decode cc pc = .ok (.astore i, 2)) (hn : i < nL) : mSnd (mAt p l e R s m args below meth c Q A D ca ad nL) J pc (oAstore i (pc + 2)) := by
  intro k kr r lv st S hk hr h H locs ls hP hS hl
  unfold oAstore at h
  split at h
  · cases hw : mwide lv i with
    | true => rw [hw] at h; cases h
    | false =>
      rw [hw] at h
      exact lv_astore X.1 X.2.1 hdg hl hn rfl (fun ls' hl' => hk _ _ _ _ h H locs ls' hP hS (ml_set hw hl'))
  · cases h
theorem s_astore_n (X : mX p s m args meth c R cc nL own ret A D ca ad d) {k : Fin 4} {i : Nat} (hdg : decode cc pc = .ok (.astore_n k, 1)) (hi : (k : Nat) = i) (hn : i < nL) : mSnd (mAt p l e R s m args below meth c Q A D ca ad nL) J pc (oAstore i (pc + 1)) := by
  intro k kr r lv st S hk hr h H locs ls hP hS hl
  unfold oAstore at h
  split at h
  · cases hw : mwide lv i with
    | true => rw [hw] at h; cases h
    | false =>
      rw [hw] at h
      exact lv_astore_n X.1 X.2.1 hdg hi hl hn rfl (fun ls' hl' => hk _ _ _ _ h H locs ls' hP hS (ml_set hw hl'))
  · cases h
def oIinc (i : Nat) (z : Int32) (n : Nat) : MOp := fun k kr lv st S => match mget lv i with
  | some (.int x) => bif mwide lv i then none else k n (mset lv i (.int (x + z))) st S
  | _ => none
theorem mo_oIinc (i : Nat) (z : Int32) (n : Nat) : mMono (oIinc i z n) := by
  intro k k' kr r lv st S hk h
  unfold oIinc at h ⊢
  split at h
  · cases hw : mwide lv i with
    | true => rw [hw] at h; cases h
    | false => rw [hw] at h; exact hk _ _ _ _ h
  · cases h
theorem s_iinc (X : mX p s m args meth c R cc nL own ret A D ca ad d) {i : Nat} {z : Int} {x0 : Int32} (hdg : decode cc pc = .ok (.iinc i z, 3)) (hz : Int32.ofInt z = x0) (hn : i < nL) : mSnd (mAt p l e R s m args below meth c Q A D ca ad nL) J pc (oIinc i x0 (pc + 3)) := by
  intro k kr r lv st S hk hr h H locs ls hP hS hl
  unfold oIinc at h
  split at h
  · rename_i x hx
    cases hw : mwide lv i with
    | true => rw [hw] at h; cases h
    | false =>
      rw [hw] at h
      subst hz
      have hm : (i, Value.int x) ∈ tL ad lv := List.mem_map.mpr ⟨(i, .int x), mget_mem hx, rfl⟩
      obtain ⟨j, hj⟩ := List.mem_iff_getElem?.mp hm
      exact lv_iinc X.1 X.2.1 hdg hl hj rfl hn rfl (fun ls' hl' => hk _ _ _ _ h H locs ls' hP hS (ml_set (v := .int (x + Int32.ofInt z)) hw hl'))
  · cases h
def oPush (v : Int32) (n : Nat) : MOp := fun k kr lv st S => k n lv (.int v :: st) S
def oLpush (v : Int64) (n : Nat) : MOp := fun k kr lv st S => k n lv (.long v :: st) S
def oRef (v : Nat) (n : Nat) : MOp := fun k kr lv st S => k n lv (.ref v :: st) S
theorem mo_oPush (v : Int32) (n : Nat) : mMono (oPush v n) := by
  intro k k' kr r lv st S hk h
  exact hk _ _ _ _ h
theorem mo_oLpush (v : Int64) (n : Nat) : mMono (oLpush v n) := by
  intro k k' kr r lv st S hk h
  exact hk _ _ _ _ h
theorem mo_oRef (v : Nat) (n : Nat) : mMono (oRef v n) := by
  intro k k' kr r lv st S hk h
  exact hk _ _ _ _ h
theorem s_iconst (X : mX p s m args meth c R cc nL own ret A D ca ad d) {z : Int} {v : Int32} (hdg : decode cc pc = .ok (.iconst z, 1)) (hv : Int32.ofInt z = v) : mSnd (mAt p l e R s m args below meth c Q A D ca ad nL) J pc (oPush v (pc + 1)) := by
  intro k kr r lv st S hk hr h H locs ls hP hS hl
  exact lv_iconst X.1 X.2.1 hdg hv (hk _ _ _ _ h H locs ls hP hS hl)
theorem s_bipush (X : mX p s m args meth c R cc nL own ret A D ca ad d) {z : Int} {v : Int32} (hdg : decode cc pc = .ok (.bipush z, 2)) (hv : (Int8.ofInt z).toInt32 = v) : mSnd (mAt p l e R s m args below meth c Q A D ca ad nL) J pc (oPush v (pc + 2)) := by
  intro k kr r lv st S hk hr h H locs ls hP hS hl
  exact lv_bipush X.1 X.2.1 hdg hv (hk _ _ _ _ h H locs ls hP hS hl)
theorem s_sipush (X : mX p s m args meth c R cc nL own ret A D ca ad d) {z : Int} {v : Int32} (hdg : decode cc pc = .ok (.sipush z, 3)) (hv : (Int16.ofInt z).toInt32 = v) : mSnd (mAt p l e R s m args below meth c Q A D ca ad nL) J pc (oPush v (pc + 3)) := by
  intro k kr r lv st S hk hr h H locs ls hP hS hl
  exact lv_sipush X.1 X.2.1 hdg hv (hk _ _ _ _ h H locs ls hP hS hl)
theorem s_ldc (X : mX p s m args meth c R cc nL own ret A D ca ad d) {idx : Nat} {v : Int32} (hw : Cond.constant own idx v ∈ mALL) (hdg : decode cc pc = .ok (.ldc idx, 2)) : mSnd (mAt p l e R s m args below meth c Q A D ca ad nL) J pc (oPush v (pc + 2)) := by
  intro k kr r lv st S hk hr h H locs ls hP hS hl
  exact lv_ldc X.1 X.2.1 X.2.2.2.1 (X.2.2.2.2.1 _ hw) hdg (hk _ _ _ _ h H locs ls hP hS hl)
theorem s_ldc_w (X : mX p s m args meth c R cc nL own ret A D ca ad d) {idx : Nat} {v : Int32} (hw : Cond.constant own idx v ∈ mALL) (hdg : decode cc pc = .ok (.ldc_w idx, 3)) : mSnd (mAt p l e R s m args below meth c Q A D ca ad nL) J pc (oPush v (pc + 3)) := by
  intro k kr r lv st S hk hr h H locs ls hP hS hl
  exact lv_ldcw X.1 X.2.1 X.2.2.2.1 (X.2.2.2.2.1 _ hw) hdg (hk _ _ _ _ h H locs ls hP hS hl)
theorem s_ldc2_w (X : mX p s m args meth c R cc nL own ret A D ca ad d) {idx : Nat} {v : Int64} (hw : Cond.constantLong own idx v ∈ mALL) (hdg : decode cc pc = .ok (.ldc2_w idx, 3)) : mSnd (mAt p l e R s m args below meth c Q A D ca ad nL) J pc (oLpush v (pc + 3)) := by
  intro k kr r lv st S hk hr h H locs ls hP hS hl
  exact lv_ldc2 X.1 X.2.1 X.2.2.2.1 (X.2.2.2.2.1 _ hw) hdg (hk _ _ _ _ h H locs ls hP hS hl)
theorem s_ldcZ (X : mX p s m args meth c R cc nL own ret A D ca ad d) (hown : own = "FountainTalk") (hdg : decode cc pc = .ok (.ldc 130, 2)) : mSnd (mAt p l e R s m args below meth c Q A D ca ad nL) J pc (oRef 1003 (pc + 2)) := by
  intro k kr r lv st S hk hr h H locs ls hP hS hl
  exact va_ldcS X.1 X.2.1 (hown ▸ X.2.2.2.1) X.2.2.2.2.2.2.2.2.2.2.1.2.2.2.2.2.2.1 hdg (hk _ _ _ _ h H locs ls hP hS hl)
theorem s_ldcD (X : mX p s m args meth c R cc nL own ret A D ca ad d) (hown : own = "FountainTalk") (hdg : decode cc pc = .ok (.ldc 132, 2)) : mSnd (mAt p l e R s m args below meth c Q A D ca ad nL) J pc (oRef 1004 (pc + 2)) := by
  intro k kr r lv st S hk hr h H locs ls hP hS hl
  exact va_ldcS X.1 X.2.1 (hown ▸ X.2.2.2.1) X.2.2.2.2.2.2.2.2.2.2.1.2.2.2.2.2.2.2 hdg (hk _ _ _ _ h H locs ls hP hS hl)
def oBin (f : Int32 → Int32 → Int32) (n : Nat) : MOp := fun k kr lv st S => match st with
  | .int y :: .int x :: t => k n lv (.int (f x y) :: t) S
  | _ => none
theorem mo_oBin (f : Int32 → Int32 → Int32) (n : Nat) : mMono (oBin f n) := by
  intro k k' kr r lv st S hk h
  unfold oBin at h ⊢
  split at h
  · exact hk _ _ _ _ h
  · cases h
def fAdd (x y : Int32) : Int32 := x + y
def fSub (x y : Int32) : Int32 := x - y
def fMul (x y : Int32) : Int32 := x * y
def fAnd (x y : Int32) : Int32 := x &&& y
def fOr (x y : Int32) : Int32 := x ||| y
def fXor (x y : Int32) : Int32 := x ^^^ y
def fShl (x y : Int32) : Int32 := x <<< (y &&& 31)
def fShr (x y : Int32) : Int32 := x >>> (y &&& 31)
def fUshr (x y : Int32) : Int32 := (x.toUInt32 >>> (y.toUInt32 &&& Int32.toUInt32 31)).toInt32
theorem s_iadd (X : mX p s m args meth c R cc nL own ret A D ca ad d) (hdg : decode cc pc = .ok (.iadd, 1)) : mSnd (mAt p l e R s m args below meth c Q A D ca ad nL) J pc (oBin fAdd (pc + 1)) := by
  intro k kr r lv st S hk hr h H locs ls hP hS hl
  unfold oBin at h
  split at h
  · exact lv_iadd X.1 X.2.1 hdg (hk _ _ _ _ h H locs ls hP hS hl)
  · cases h
theorem s_isub (X : mX p s m args meth c R cc nL own ret A D ca ad d) (hdg : decode cc pc = .ok (.isub, 1)) : mSnd (mAt p l e R s m args below meth c Q A D ca ad nL) J pc (oBin fSub (pc + 1)) := by
  intro k kr r lv st S hk hr h H locs ls hP hS hl
  unfold oBin at h
  split at h
  · exact lv_isub X.1 X.2.1 hdg (hk _ _ _ _ h H locs ls hP hS hl)
  · cases h
theorem s_imul (X : mX p s m args meth c R cc nL own ret A D ca ad d) (hdg : decode cc pc = .ok (.imul, 1)) : mSnd (mAt p l e R s m args below meth c Q A D ca ad nL) J pc (oBin fMul (pc + 1)) := by
  intro k kr r lv st S hk hr h H locs ls hP hS hl
  unfold oBin at h
  split at h
  · exact lv_imul X.1 X.2.1 hdg (hk _ _ _ _ h H locs ls hP hS hl)
  · cases h
theorem s_iand (X : mX p s m args meth c R cc nL own ret A D ca ad d) (hdg : decode cc pc = .ok (.iand, 1)) : mSnd (mAt p l e R s m args below meth c Q A D ca ad nL) J pc (oBin fAnd (pc + 1)) := by
  intro k kr r lv st S hk hr h H locs ls hP hS hl
  unfold oBin at h
  split at h
  · exact lv_iand X.1 X.2.1 hdg (hk _ _ _ _ h H locs ls hP hS hl)
  · cases h
theorem s_ior (X : mX p s m args meth c R cc nL own ret A D ca ad d) (hdg : decode cc pc = .ok (.ior, 1)) : mSnd (mAt p l e R s m args below meth c Q A D ca ad nL) J pc (oBin fOr (pc + 1)) := by
  intro k kr r lv st S hk hr h H locs ls hP hS hl
  unfold oBin at h
  split at h
  · exact lv_ior X.1 X.2.1 hdg (hk _ _ _ _ h H locs ls hP hS hl)
  · cases h
theorem s_ixor (X : mX p s m args meth c R cc nL own ret A D ca ad d) (hdg : decode cc pc = .ok (.ixor, 1)) : mSnd (mAt p l e R s m args below meth c Q A D ca ad nL) J pc (oBin fXor (pc + 1)) := by
  intro k kr r lv st S hk hr h H locs ls hP hS hl
  unfold oBin at h
  split at h
  · exact lv_ixor X.1 X.2.1 hdg (hk _ _ _ _ h H locs ls hP hS hl)
  · cases h
theorem s_ishl (X : mX p s m args meth c R cc nL own ret A D ca ad d) (hdg : decode cc pc = .ok (.ishl, 1)) : mSnd (mAt p l e R s m args below meth c Q A D ca ad nL) J pc (oBin fShl (pc + 1)) := by
  intro k kr r lv st S hk hr h H locs ls hP hS hl
  unfold oBin at h
  split at h
  · exact lv_ishl X.1 X.2.1 hdg (hk _ _ _ _ h H locs ls hP hS hl)
  · cases h
theorem s_ishr (X : mX p s m args meth c R cc nL own ret A D ca ad d) (hdg : decode cc pc = .ok (.ishr, 1)) : mSnd (mAt p l e R s m args below meth c Q A D ca ad nL) J pc (oBin fShr (pc + 1)) := by
  intro k kr r lv st S hk hr h H locs ls hP hS hl
  unfold oBin at h
  split at h
  · exact lv_ishr X.1 X.2.1 hdg (hk _ _ _ _ h H locs ls hP hS hl)
  · cases h
theorem s_iushr (X : mX p s m args meth c R cc nL own ret A D ca ad d) (hdg : decode cc pc = .ok (.iushr, 1)) : mSnd (mAt p l e R s m args below meth c Q A D ca ad nL) J pc (oBin fUshr (pc + 1)) := by
  intro k kr r lv st S hk hr h H locs ls hP hS hl
  unfold oBin at h
  split at h
  · exact lv_iushr X.1 X.2.1 hdg rfl (hk _ _ _ _ h H locs ls hP hS hl)
  · cases h
def oDiv (n : Nat) : MOp := fun k kr lv st S => match st with
  | .int y :: .int x :: t => if y = 0 then none else k n lv (.int (x / y) :: t) S
  | _ => none
def oRem (n : Nat) : MOp := fun k kr lv st S => match st with
  | .int y :: .int x :: t => if y = 0 then none else k n lv (.int (x - x / y * y) :: t) S
  | _ => none
theorem mo_oDiv (n : Nat) : mMono (oDiv n) := by
  intro k k' kr r lv st S hk h
  unfold oDiv at h ⊢
  split at h
  · split at h
    · cases h
    · rename_i hy
      rw [if_neg hy]
      exact hk _ _ _ _ h
  · cases h
theorem s_idiv (X : mX p s m args meth c R cc nL own ret A D ca ad d) (hdg : decode cc pc = .ok (.idiv, 1)) : mSnd (mAt p l e R s m args below meth c Q A D ca ad nL) J pc (oDiv (pc + 1)) := by
  intro k kr r lv st S hk hr h H locs ls hP hS hl
  unfold oDiv at h
  split at h
  · split at h
    · cases h
    · rename_i hy
      exact lv_idiv X.1 X.2.1 hdg hy (hk _ _ _ _ h H locs ls hP hS hl)
  · cases h
theorem mo_oRem (n : Nat) : mMono (oRem n) := by
  intro k k' kr r lv st S hk h
  unfold oRem at h ⊢
  split at h
  · split at h
    · cases h
    · rename_i hy
      rw [if_neg hy]
      exact hk _ _ _ _ h
  · cases h
theorem s_irem (X : mX p s m args meth c R cc nL own ret A D ca ad d) (hdg : decode cc pc = .ok (.irem, 1)) : mSnd (mAt p l e R s m args below meth c Q A D ca ad nL) J pc (oRem (pc + 1)) := by
  intro k kr r lv st S hk hr h H locs ls hP hS hl
  unfold oRem at h
  split at h
  · split at h
    · cases h
    · rename_i hy
      exact lv_irem X.1 X.2.1 hdg hy (hk _ _ _ _ h H locs ls hP hS hl)
  · cases h
def oIneg (n : Nat) : MOp := fun k kr lv st S => match st with
  | .int x :: t => k n lv (.int (-x) :: t) S
  | _ => none
theorem mo_oIneg (n : Nat) : mMono (oIneg n) := by
  intro k k' kr r lv st S hk h
  unfold oIneg at h ⊢
  split at h
  · exact hk _ _ _ _ h
  · cases h
theorem s_ineg (X : mX p s m args meth c R cc nL own ret A D ca ad d) (hdg : decode cc pc = .ok (.ineg, 1)) : mSnd (mAt p l e R s m args below meth c Q A D ca ad nL) J pc (oIneg (pc + 1)) := by
  intro k kr r lv st S hk hr h H locs ls hP hS hl
  unfold oIneg at h
  split at h
  · exact lv_ineg X.1 X.2.1 hdg (hk _ _ _ _ h H locs ls hP hS hl)
  · cases h
def oI2b (n : Nat) : MOp := fun k kr lv st S => match st with
  | .int x :: t => k n lv (.int (x.toInt8.toInt32) :: t) S
  | _ => none
theorem mo_oI2b (n : Nat) : mMono (oI2b n) := by
  intro k k' kr r lv st S hk h
  unfold oI2b at h ⊢
  split at h
  · exact hk _ _ _ _ h
  · cases h
theorem s_i2b (X : mX p s m args meth c R cc nL own ret A D ca ad d) (hdg : decode cc pc = .ok (.i2b, 1)) : mSnd (mAt p l e R s m args below meth c Q A D ca ad nL) J pc (oI2b (pc + 1)) := by
  intro k kr r lv st S hk hr h H locs ls hP hS hl
  unfold oI2b at h
  split at h
  · exact lv_i2b X.1 X.2.1 hdg rfl (hk _ _ _ _ h H locs ls hP hS hl)
  · cases h
def oI2s (n : Nat) : MOp := fun k kr lv st S => match st with
  | .int x :: t => k n lv (.int (x.toInt16.toInt32) :: t) S
  | _ => none
theorem mo_oI2s (n : Nat) : mMono (oI2s n) := by
  intro k k' kr r lv st S hk h
  unfold oI2s at h ⊢
  split at h
  · exact hk _ _ _ _ h
  · cases h
theorem s_i2s (X : mX p s m args meth c R cc nL own ret A D ca ad d) (hdg : decode cc pc = .ok (.i2s, 1)) : mSnd (mAt p l e R s m args below meth c Q A D ca ad nL) J pc (oI2s (pc + 1)) := by
  intro k kr r lv st S hk hr h H locs ls hP hS hl
  unfold oI2s at h
  split at h
  · exact lv_i2s X.1 X.2.1 hdg rfl (hk _ _ _ _ h H locs ls hP hS hl)
  · cases h
def oI2c (n : Nat) : MOp := fun k kr lv st S => match st with
  | .int x :: t => k n lv (.int ((x.toUInt32 % 65536).toInt32) :: t) S
  | _ => none
theorem mo_oI2c (n : Nat) : mMono (oI2c n) := by
  intro k k' kr r lv st S hk h
  unfold oI2c at h ⊢
  split at h
  · exact hk _ _ _ _ h
  · cases h
theorem s_i2c (X : mX p s m args meth c R cc nL own ret A D ca ad d) (hdg : decode cc pc = .ok (.i2c, 1)) : mSnd (mAt p l e R s m args below meth c Q A D ca ad nL) J pc (oI2c (pc + 1)) := by
  intro k kr r lv st S hk hr h H locs ls hP hS hl
  unfold oI2c at h
  split at h
  · exact lv_i2c X.1 X.2.1 hdg rfl (hk _ _ _ _ h H locs ls hP hS hl)
  · cases h
def oI2l (n : Nat) : MOp := fun k kr lv st S => match st with
  | .int x :: t => k n lv (.long (x.toInt64) :: t) S
  | _ => none
theorem mo_oI2l (n : Nat) : mMono (oI2l n) := by
  intro k k' kr r lv st S hk h
  unfold oI2l at h ⊢
  split at h
  · exact hk _ _ _ _ h
  · cases h
theorem s_i2l (X : mX p s m args meth c R cc nL own ret A D ca ad d) (hdg : decode cc pc = .ok (.i2l, 1)) : mSnd (mAt p l e R s m args below meth c Q A D ca ad nL) J pc (oI2l (pc + 1)) := by
  intro k kr r lv st S hk hr h H locs ls hP hS hl
  unfold oI2l at h
  split at h
  · exact lv_i2l X.1 X.2.1 hdg rfl (hk _ _ _ _ h H locs ls hP hS hl)
  · cases h
def oL2i (n : Nat) : MOp := fun k kr lv st S => match st with
  | .long x :: t => k n lv (.int (x.toInt32) :: t) S
  | _ => none
theorem mo_oL2i (n : Nat) : mMono (oL2i n) := by
  intro k k' kr r lv st S hk h
  unfold oL2i at h ⊢
  split at h
  · exact hk _ _ _ _ h
  · cases h
theorem s_l2i (X : mX p s m args meth c R cc nL own ret A D ca ad d) (hdg : decode cc pc = .ok (.l2i, 1)) : mSnd (mAt p l e R s m args below meth c Q A D ca ad nL) J pc (oL2i (pc + 1)) := by
  intro k kr r lv st S hk hr h H locs ls hP hS hl
  unfold oL2i at h
  split at h
  · exact lv_l2i X.1 X.2.1 hdg rfl (hk _ _ _ _ h H locs ls hP hS hl)
  · cases h
def oLbin (f : Int64 → Int64 → Int64) (n : Nat) : MOp := fun k kr lv st S => match st with
  | .long y :: .long x :: t => k n lv (.long (f x y) :: t) S
  | _ => none
theorem mo_oLbin (f : Int64 → Int64 → Int64) (n : Nat) : mMono (oLbin f n) := by
  intro k k' kr r lv st S hk h
  unfold oLbin at h ⊢
  split at h
  · exact hk _ _ _ _ h
  · cases h
def oLsh (f : Int64 → Int32 → Int64) (n : Nat) : MOp := fun k kr lv st S => match st with
  | .int y :: .long x :: t => k n lv (.long (f x y) :: t) S
  | _ => none
theorem mo_oLsh (f : Int64 → Int32 → Int64) (n : Nat) : mMono (oLsh f n) := by
  intro k k' kr r lv st S hk h
  unfold oLsh at h ⊢
  split at h
  · exact hk _ _ _ _ h
  · cases h
def lAnd (x y : Int64) : Int64 := x &&& y
def lOr (x y : Int64) : Int64 := x ||| y
def lShl (x : Int64) (y : Int32) : Int64 := x <<< (y.toInt64 &&& 63)
def lShr (x : Int64) (y : Int32) : Int64 := x >>> (y.toInt64 &&& 63)
def lUshr (x : Int64) (y : Int32) : Int64 := (x.toUInt64 >>> (y.toInt64.toUInt64 &&& Int64.toUInt64 63)).toInt64
theorem s_land (X : mX p s m args meth c R cc nL own ret A D ca ad d) (hdg : decode cc pc = .ok (.land, 1)) : mSnd (mAt p l e R s m args below meth c Q A D ca ad nL) J pc (oLbin lAnd (pc + 1)) := by
  intro k kr r lv st S hk hr h H locs ls hP hS hl
  unfold oLbin at h
  split at h
  · exact lv_land X.1 X.2.1 hdg (hk _ _ _ _ h H locs ls hP hS hl)
  · cases h
theorem s_lor (X : mX p s m args meth c R cc nL own ret A D ca ad d) (hdg : decode cc pc = .ok (.lor, 1)) : mSnd (mAt p l e R s m args below meth c Q A D ca ad nL) J pc (oLbin lOr (pc + 1)) := by
  intro k kr r lv st S hk hr h H locs ls hP hS hl
  unfold oLbin at h
  split at h
  · exact lv_lor X.1 X.2.1 hdg (hk _ _ _ _ h H locs ls hP hS hl)
  · cases h
theorem s_lshl (X : mX p s m args meth c R cc nL own ret A D ca ad d) (hdg : decode cc pc = .ok (.lshl, 1)) : mSnd (mAt p l e R s m args below meth c Q A D ca ad nL) J pc (oLsh lShl (pc + 1)) := by
  intro k kr r lv st S hk hr h H locs ls hP hS hl
  unfold oLsh at h
  split at h
  · exact lv_lshl X.1 X.2.1 hdg rfl (hk _ _ _ _ h H locs ls hP hS hl)
  · cases h
theorem s_lshr (X : mX p s m args meth c R cc nL own ret A D ca ad d) (hdg : decode cc pc = .ok (.lshr, 1)) : mSnd (mAt p l e R s m args below meth c Q A D ca ad nL) J pc (oLsh lShr (pc + 1)) := by
  intro k kr r lv st S hk hr h H locs ls hP hS hl
  unfold oLsh at h
  split at h
  · exact lv_lshr X.1 X.2.1 hdg rfl (hk _ _ _ _ h H locs ls hP hS hl)
  · cases h
theorem s_lushr (X : mX p s m args meth c R cc nL own ret A D ca ad d) (hdg : decode cc pc = .ok (.lushr, 1)) : mSnd (mAt p l e R s m args below meth c Q A D ca ad nL) J pc (oLsh lUshr (pc + 1)) := by
  intro k kr r lv st S hk hr h H locs ls hP hS hl
  unfold oLsh at h
  split at h
  · exact lv_lushr X.1 X.2.1 hdg rfl (hk _ _ _ _ h H locs ls hP hS hl)
  · cases h
def oDup (n : Nat) : MOp := fun k kr lv st S => match st with
  | .int x :: t => k n lv (.int x :: .int x :: t) S
  | .ref x :: t => k n lv (.ref x :: .ref x :: t) S
  | _ => none
theorem mo_oDup (n : Nat) : mMono (oDup n) := by
  intro k k' kr r lv st S hk h
  unfold oDup at h ⊢
  split at h
  · exact hk _ _ _ _ h
  · exact hk _ _ _ _ h
  · cases h
theorem s_dup (X : mX p s m args meth c R cc nL own ret A D ca ad d) (hdg : decode cc pc = .ok (.dup, 1)) : mSnd (mAt p l e R s m args below meth c Q A D ca ad nL) J pc (oDup (pc + 1)) := by
  intro k kr r lv st S hk hr h H locs ls hP hS hl
  unfold oDup at h
  split at h
  · exact lv_dup X.1 X.2.1 hdg rfl (hk _ _ _ _ h H locs ls hP hS hl)
  · exact lv_dup X.1 X.2.1 hdg rfl (hk _ _ _ _ h H locs ls hP hS hl)
  · cases h
def oDup2 (n : Nat) : MOp := fun k kr lv st S => match st with
  | .int y :: .ref x :: t => k n lv (.int y :: .ref x :: .int y :: .ref x :: t) S
  | _ => none
theorem mo_oDup2 (n : Nat) : mMono (oDup2 n) := by
  intro k k' kr r lv st S hk h
  unfold oDup2 at h ⊢
  split at h
  · exact hk _ _ _ _ h
  · cases h
theorem s_dup2 (X : mX p s m args meth c R cc nL own ret A D ca ad d) (hdg : decode cc pc = .ok (.dup2, 1)) : mSnd (mAt p l e R s m args below meth c Q A D ca ad nL) J pc (oDup2 (pc + 1)) := by
  intro k kr r lv st S hk hr h H locs ls hP hS hl
  unfold oDup2 at h
  split at h
  · exact lv_dup2_11 X.1 X.2.1 hdg rfl rfl (hk _ _ _ _ h H locs ls hP hS hl)
  · cases h
def oPop (n : Nat) : MOp := fun k kr lv st S => match st with
  | .int _ :: t => k n lv t S
  | _ => none
theorem mo_oPop (n : Nat) : mMono (oPop n) := by
  intro k k' kr r lv st S hk h
  unfold oPop at h ⊢
  split at h
  · exact hk _ _ _ _ h
  · cases h
theorem s_pop (X : mX p s m args meth c R cc nL own ret A D ca ad d) (hdg : decode cc pc = .ok (.pop, 1)) : mSnd (mAt p l e R s m args below meth c Q A D ca ad nL) J pc (oPop (pc + 1)) := by
  intro k kr r lv st S hk hr h H locs ls hP hS hl
  unfold oPop at h
  split at h
  · exact lv_pop X.1 X.2.1 hdg rfl (hk _ _ _ _ h H locs ls hP hS hl)
  · cases h
def oGoto (n : Nat) : MOp := fun k kr lv st S => k n lv st S
theorem mo_oGoto (n : Nat) : mMono (oGoto n) := by
  intro k k' kr r lv st S hk h
  exact hk _ _ _ _ h
theorem s_goto (X : mX p s m args meth c R cc nL own ret A D ca ad d) {off : Int} {t : Nat} (hdg : decode cc pc = .ok (.goto off, 3)) (ht : (pc : Int) + off = (t : Int)) : mSnd (mAt p l e R s m args below meth c Q A D ca ad nL) J pc (oGoto t) := by
  intro k kr r lv st S hk hr h H locs ls hP hS hl
  exact lv_goto X.1 X.2.1 hdg ht (hk _ _ _ _ h H locs ls hP hS hl)
def oIc_eq (t n : Nat) : MOp := fun k kr lv st S => match st with
  | .int y :: .int x :: w => if x = y then k t lv w S else k n lv w S
  | _ => none
theorem mo_oIc_eq (t n : Nat) : mMono (oIc_eq t n) := by
  intro k k' kr r lv st S hk h
  unfold oIc_eq at h ⊢
  split at h
  · split at h
    · rename_i hy
      rw [if_pos hy]
      exact hk _ _ _ _ h
    · rename_i hy
      rw [if_neg hy]
      exact hk _ _ _ _ h
  · cases h
theorem s_icmp_eq (X : mX p s m args meth c R cc nL own ret A D ca ad d) {off : Int} {t : Nat} (hdg : decode cc pc = .ok (.if_icmp .eq off, 3)) (ht : (pc : Int) + off = (t : Int)) : mSnd (mAt p l e R s m args below meth c Q A D ca ad nL) J pc (oIc_eq t (pc + 3)) := by
  intro k kr r lv st S hk hr h H locs ls hP hS hl
  unfold oIc_eq at h
  split at h
  · refine lv_icmp_eq X.1 X.2.1 hdg ht (fun hc => ?_) (fun hc => ?_)
    · rw [if_pos hc] at h
      exact hk _ _ _ _ h H locs ls hP hS hl
    · rw [if_neg hc] at h
      exact hk _ _ _ _ h H locs ls hP hS hl
  · cases h
def oIf_eq (t n : Nat) : MOp := fun k kr lv st S => match st with
  | .int x :: w => if x = 0 then k t lv w S else k n lv w S
  | _ => none
theorem mo_oIf_eq (t n : Nat) : mMono (oIf_eq t n) := by
  intro k k' kr r lv st S hk h
  unfold oIf_eq at h ⊢
  split at h
  · split at h
    · rename_i hy
      rw [if_pos hy]
      exact hk _ _ _ _ h
    · rename_i hy
      rw [if_neg hy]
      exact hk _ _ _ _ h
  · cases h
theorem s_if_eq (X : mX p s m args meth c R cc nL own ret A D ca ad d) {off : Int} {t : Nat} (hdg : decode cc pc = .ok (.ifCond .eq off, 3)) (ht : (pc : Int) + off = (t : Int)) : mSnd (mAt p l e R s m args below meth c Q A D ca ad nL) J pc (oIf_eq t (pc + 3)) := by
  intro k kr r lv st S hk hr h H locs ls hP hS hl
  unfold oIf_eq at h
  split at h
  · refine lv_if_eq X.1 X.2.1 hdg ht (fun hc => ?_) (fun hc => ?_)
    · rw [if_pos hc] at h
      exact hk _ _ _ _ h H locs ls hP hS hl
    · rw [if_neg hc] at h
      exact hk _ _ _ _ h H locs ls hP hS hl
  · cases h
def oIc_ne (t n : Nat) : MOp := fun k kr lv st S => match st with
  | .int y :: .int x :: w => if x = y then k n lv w S else k t lv w S
  | _ => none
theorem mo_oIc_ne (t n : Nat) : mMono (oIc_ne t n) := by
  intro k k' kr r lv st S hk h
  unfold oIc_ne at h ⊢
  split at h
  · split at h
    · rename_i hy
      rw [if_pos hy]
      exact hk _ _ _ _ h
    · rename_i hy
      rw [if_neg hy]
      exact hk _ _ _ _ h
  · cases h
theorem s_icmp_ne (X : mX p s m args meth c R cc nL own ret A D ca ad d) {off : Int} {t : Nat} (hdg : decode cc pc = .ok (.if_icmp .ne off, 3)) (ht : (pc : Int) + off = (t : Int)) : mSnd (mAt p l e R s m args below meth c Q A D ca ad nL) J pc (oIc_ne t (pc + 3)) := by
  intro k kr r lv st S hk hr h H locs ls hP hS hl
  unfold oIc_ne at h
  split at h
  · refine lv_icmp_ne X.1 X.2.1 hdg ht (fun hc => ?_) (fun hc => ?_)
    · rw [if_neg hc] at h
      exact hk _ _ _ _ h H locs ls hP hS hl
    · rw [if_pos hc] at h
      exact hk _ _ _ _ h H locs ls hP hS hl
  · cases h
def oIf_ne (t n : Nat) : MOp := fun k kr lv st S => match st with
  | .int x :: w => if x = 0 then k n lv w S else k t lv w S
  | _ => none
theorem mo_oIf_ne (t n : Nat) : mMono (oIf_ne t n) := by
  intro k k' kr r lv st S hk h
  unfold oIf_ne at h ⊢
  split at h
  · split at h
    · rename_i hy
      rw [if_pos hy]
      exact hk _ _ _ _ h
    · rename_i hy
      rw [if_neg hy]
      exact hk _ _ _ _ h
  · cases h
theorem s_if_ne (X : mX p s m args meth c R cc nL own ret A D ca ad d) {off : Int} {t : Nat} (hdg : decode cc pc = .ok (.ifCond .ne off, 3)) (ht : (pc : Int) + off = (t : Int)) : mSnd (mAt p l e R s m args below meth c Q A D ca ad nL) J pc (oIf_ne t (pc + 3)) := by
  intro k kr r lv st S hk hr h H locs ls hP hS hl
  unfold oIf_ne at h
  split at h
  · refine lv_if_ne X.1 X.2.1 hdg ht (fun hc => ?_) (fun hc => ?_)
    · rw [if_neg hc] at h
      exact hk _ _ _ _ h H locs ls hP hS hl
    · rw [if_pos hc] at h
      exact hk _ _ _ _ h H locs ls hP hS hl
  · cases h
def oIc_lt (t n : Nat) : MOp := fun k kr lv st S => match st with
  | .int y :: .int x :: w => if x < y then k t lv w S else k n lv w S
  | _ => none
theorem mo_oIc_lt (t n : Nat) : mMono (oIc_lt t n) := by
  intro k k' kr r lv st S hk h
  unfold oIc_lt at h ⊢
  split at h
  · split at h
    · rename_i hy
      rw [if_pos hy]
      exact hk _ _ _ _ h
    · rename_i hy
      rw [if_neg hy]
      exact hk _ _ _ _ h
  · cases h
theorem s_icmp_lt (X : mX p s m args meth c R cc nL own ret A D ca ad d) {off : Int} {t : Nat} (hdg : decode cc pc = .ok (.if_icmp .lt off, 3)) (ht : (pc : Int) + off = (t : Int)) : mSnd (mAt p l e R s m args below meth c Q A D ca ad nL) J pc (oIc_lt t (pc + 3)) := by
  intro k kr r lv st S hk hr h H locs ls hP hS hl
  unfold oIc_lt at h
  split at h
  · refine lv_icmp_lt X.1 X.2.1 hdg ht (fun hc => ?_) (fun hc => ?_)
    · rw [if_pos hc] at h
      exact hk _ _ _ _ h H locs ls hP hS hl
    · rw [if_neg hc] at h
      exact hk _ _ _ _ h H locs ls hP hS hl
  · cases h
def oIf_lt (t n : Nat) : MOp := fun k kr lv st S => match st with
  | .int x :: w => if x < 0 then k t lv w S else k n lv w S
  | _ => none
theorem mo_oIf_lt (t n : Nat) : mMono (oIf_lt t n) := by
  intro k k' kr r lv st S hk h
  unfold oIf_lt at h ⊢
  split at h
  · split at h
    · rename_i hy
      rw [if_pos hy]
      exact hk _ _ _ _ h
    · rename_i hy
      rw [if_neg hy]
      exact hk _ _ _ _ h
  · cases h
theorem s_if_lt (X : mX p s m args meth c R cc nL own ret A D ca ad d) {off : Int} {t : Nat} (hdg : decode cc pc = .ok (.ifCond .lt off, 3)) (ht : (pc : Int) + off = (t : Int)) : mSnd (mAt p l e R s m args below meth c Q A D ca ad nL) J pc (oIf_lt t (pc + 3)) := by
  intro k kr r lv st S hk hr h H locs ls hP hS hl
  unfold oIf_lt at h
  split at h
  · refine lv_if_lt X.1 X.2.1 hdg ht (fun hc => ?_) (fun hc => ?_)
    · rw [if_pos hc] at h
      exact hk _ _ _ _ h H locs ls hP hS hl
    · rw [if_neg hc] at h
      exact hk _ _ _ _ h H locs ls hP hS hl
  · cases h
def oIc_ge (t n : Nat) : MOp := fun k kr lv st S => match st with
  | .int y :: .int x :: w => if y ≤ x then k t lv w S else k n lv w S
  | _ => none
theorem mo_oIc_ge (t n : Nat) : mMono (oIc_ge t n) := by
  intro k k' kr r lv st S hk h
  unfold oIc_ge at h ⊢
  split at h
  · split at h
    · rename_i hy
      rw [if_pos hy]
      exact hk _ _ _ _ h
    · rename_i hy
      rw [if_neg hy]
      exact hk _ _ _ _ h
  · cases h
theorem s_icmp_ge (X : mX p s m args meth c R cc nL own ret A D ca ad d) {off : Int} {t : Nat} (hdg : decode cc pc = .ok (.if_icmp .ge off, 3)) (ht : (pc : Int) + off = (t : Int)) : mSnd (mAt p l e R s m args below meth c Q A D ca ad nL) J pc (oIc_ge t (pc + 3)) := by
  intro k kr r lv st S hk hr h H locs ls hP hS hl
  unfold oIc_ge at h
  split at h
  · refine lv_icmp_ge X.1 X.2.1 hdg ht (fun hc => ?_) (fun hc => ?_)
    · rw [if_pos hc] at h
      exact hk _ _ _ _ h H locs ls hP hS hl
    · rw [if_neg hc] at h
      exact hk _ _ _ _ h H locs ls hP hS hl
  · cases h
def oIf_ge (t n : Nat) : MOp := fun k kr lv st S => match st with
  | .int x :: w => if 0 ≤ x then k t lv w S else k n lv w S
  | _ => none
theorem mo_oIf_ge (t n : Nat) : mMono (oIf_ge t n) := by
  intro k k' kr r lv st S hk h
  unfold oIf_ge at h ⊢
  split at h
  · split at h
    · rename_i hy
      rw [if_pos hy]
      exact hk _ _ _ _ h
    · rename_i hy
      rw [if_neg hy]
      exact hk _ _ _ _ h
  · cases h
theorem s_if_ge (X : mX p s m args meth c R cc nL own ret A D ca ad d) {off : Int} {t : Nat} (hdg : decode cc pc = .ok (.ifCond .ge off, 3)) (ht : (pc : Int) + off = (t : Int)) : mSnd (mAt p l e R s m args below meth c Q A D ca ad nL) J pc (oIf_ge t (pc + 3)) := by
  intro k kr r lv st S hk hr h H locs ls hP hS hl
  unfold oIf_ge at h
  split at h
  · refine lv_if_ge X.1 X.2.1 hdg ht (fun hc => ?_) (fun hc => ?_)
    · rw [if_pos hc] at h
      exact hk _ _ _ _ h H locs ls hP hS hl
    · rw [if_neg hc] at h
      exact hk _ _ _ _ h H locs ls hP hS hl
  · cases h
def oIc_gt (t n : Nat) : MOp := fun k kr lv st S => match st with
  | .int y :: .int x :: w => if y < x then k t lv w S else k n lv w S
  | _ => none
theorem mo_oIc_gt (t n : Nat) : mMono (oIc_gt t n) := by
  intro k k' kr r lv st S hk h
  unfold oIc_gt at h ⊢
  split at h
  · split at h
    · rename_i hy
      rw [if_pos hy]
      exact hk _ _ _ _ h
    · rename_i hy
      rw [if_neg hy]
      exact hk _ _ _ _ h
  · cases h
theorem s_icmp_gt (X : mX p s m args meth c R cc nL own ret A D ca ad d) {off : Int} {t : Nat} (hdg : decode cc pc = .ok (.if_icmp .gt off, 3)) (ht : (pc : Int) + off = (t : Int)) : mSnd (mAt p l e R s m args below meth c Q A D ca ad nL) J pc (oIc_gt t (pc + 3)) := by
  intro k kr r lv st S hk hr h H locs ls hP hS hl
  unfold oIc_gt at h
  split at h
  · refine lv_icmp_gt X.1 X.2.1 hdg ht (fun hc => ?_) (fun hc => ?_)
    · rw [if_pos hc] at h
      exact hk _ _ _ _ h H locs ls hP hS hl
    · rw [if_neg hc] at h
      exact hk _ _ _ _ h H locs ls hP hS hl
  · cases h
def oIf_gt (t n : Nat) : MOp := fun k kr lv st S => match st with
  | .int x :: w => if 0 < x then k t lv w S else k n lv w S
  | _ => none
theorem mo_oIf_gt (t n : Nat) : mMono (oIf_gt t n) := by
  intro k k' kr r lv st S hk h
  unfold oIf_gt at h ⊢
  split at h
  · split at h
    · rename_i hy
      rw [if_pos hy]
      exact hk _ _ _ _ h
    · rename_i hy
      rw [if_neg hy]
      exact hk _ _ _ _ h
  · cases h
theorem s_if_gt (X : mX p s m args meth c R cc nL own ret A D ca ad d) {off : Int} {t : Nat} (hdg : decode cc pc = .ok (.ifCond .gt off, 3)) (ht : (pc : Int) + off = (t : Int)) : mSnd (mAt p l e R s m args below meth c Q A D ca ad nL) J pc (oIf_gt t (pc + 3)) := by
  intro k kr r lv st S hk hr h H locs ls hP hS hl
  unfold oIf_gt at h
  split at h
  · refine lv_if_gt X.1 X.2.1 hdg ht (fun hc => ?_) (fun hc => ?_)
    · rw [if_pos hc] at h
      exact hk _ _ _ _ h H locs ls hP hS hl
    · rw [if_neg hc] at h
      exact hk _ _ _ _ h H locs ls hP hS hl
  · cases h
def oIc_le (t n : Nat) : MOp := fun k kr lv st S => match st with
  | .int y :: .int x :: w => if x ≤ y then k t lv w S else k n lv w S
  | _ => none
theorem mo_oIc_le (t n : Nat) : mMono (oIc_le t n) := by
  intro k k' kr r lv st S hk h
  unfold oIc_le at h ⊢
  split at h
  · split at h
    · rename_i hy
      rw [if_pos hy]
      exact hk _ _ _ _ h
    · rename_i hy
      rw [if_neg hy]
      exact hk _ _ _ _ h
  · cases h
theorem s_icmp_le (X : mX p s m args meth c R cc nL own ret A D ca ad d) {off : Int} {t : Nat} (hdg : decode cc pc = .ok (.if_icmp .le off, 3)) (ht : (pc : Int) + off = (t : Int)) : mSnd (mAt p l e R s m args below meth c Q A D ca ad nL) J pc (oIc_le t (pc + 3)) := by
  intro k kr r lv st S hk hr h H locs ls hP hS hl
  unfold oIc_le at h
  split at h
  · refine lv_icmp_le X.1 X.2.1 hdg ht (fun hc => ?_) (fun hc => ?_)
    · rw [if_pos hc] at h
      exact hk _ _ _ _ h H locs ls hP hS hl
    · rw [if_neg hc] at h
      exact hk _ _ _ _ h H locs ls hP hS hl
  · cases h
def oIf_le (t n : Nat) : MOp := fun k kr lv st S => match st with
  | .int x :: w => if x ≤ 0 then k t lv w S else k n lv w S
  | _ => none
theorem mo_oIf_le (t n : Nat) : mMono (oIf_le t n) := by
  intro k k' kr r lv st S hk h
  unfold oIf_le at h ⊢
  split at h
  · split at h
    · rename_i hy
      rw [if_pos hy]
      exact hk _ _ _ _ h
    · rename_i hy
      rw [if_neg hy]
      exact hk _ _ _ _ h
  · cases h
theorem s_if_le (X : mX p s m args meth c R cc nL own ret A D ca ad d) {off : Int} {t : Nat} (hdg : decode cc pc = .ok (.ifCond .le off, 3)) (ht : (pc : Int) + off = (t : Int)) : mSnd (mAt p l e R s m args below meth c Q A D ca ad nL) J pc (oIf_le t (pc + 3)) := by
  intro k kr r lv st S hk hr h H locs ls hP hS hl
  unfold oIf_le at h
  split at h
  · refine lv_if_le X.1 X.2.1 hdg ht (fun hc => ?_) (fun hc => ?_)
    · rw [if_pos hc] at h
      exact hk _ _ _ _ h H locs ls hP hS hl
    · rw [if_neg hc] at h
      exact hk _ _ _ _ h H locs ls hP hS hl
  · cases h
/-- the first target whose key is it -/
def mSw (k : Nat → Option MR) (x : Int32) : List (Int32 × Nat) → Nat → Option MR
  | [], dflt => k dflt
  | q :: r, dflt => if x = q.1 then k q.2 else mSw k x r dflt
def oSw (ps : List (Int32 × Nat)) (dflt : Nat) : MOp := fun k kr lv st S => match st with
  | .int x :: w => mSw (fun t => k t lv w S) x ps dflt
  | _ => none
theorem mSw_mono {k k' : Nat → Option MR} {r : MR} (hk : ∀ a, k a = some r → k' a = some r) (x : Int32) : ∀ (ps : List (Int32 × Nat)) (dflt : Nat), mSw k x ps dflt = some r → mSw k' x ps dflt = some r := by
  intro ps
  induction ps with
  | nil => intro dflt h; exact hk _ h
  | cons q ps ih =>
    intro dflt h
    unfold mSw at h ⊢
    split at h
    · rename_i hy; rw [if_pos hy]; exact hk _ h
    · rename_i hy; rw [if_neg hy]; exact ih _ h
theorem mo_oSw (ps : List (Int32 × Nat)) (dflt : Nat) : mMono (oSw ps dflt) := by
  intro k k' kr r lv st S hk h
  unfold oSw at h ⊢
  split at h
  · exact mSw_mono (fun a z => hk _ _ _ _ z) _ _ _ h
  · cases h
/-- where a switch goes: the list, read as the machine reads its table -/
def mSwT (x : Int32) : List (Int32 × Nat) → Nat → Nat
  | [], dflt => dflt
  | q :: r, dflt => if x = q.1 then q.2 else mSwT x r dflt
theorem mSw_T (k : Nat → Option MR) (x : Int32) : ∀ (ps : List (Int32 × Nat)) (dflt : Nat), mSw k x ps dflt = k (mSwT x ps dflt) := by
  intro ps
  induction ps with
  | nil => intro dflt; rfl
  | cons q ps ih =>
    intro dflt
    unfold mSw mSwT
    split
    · rfl
    · exact ih _
/-- a list of keys that rise by one from lo, with the offsets of a table -/
def mTabOk (pc : Nat) (lo : Int) : List (Int32 × Nat) → List Int → Bool
  | [], [] => true
  | q :: r, o :: os => decide (q.1.toInt = lo) && decide ((pc : Int) + o = (q.2 : Int)) && mTabOk pc (lo + 1) r os
  | _, _ => false
theorem mTabOk_in (pc dflt : Nat) (x : Int32) : ∀ (ps : List (Int32 × Nat)) (os : List Int) (lo : Int), mTabOk pc lo ps os = true → (lo ≤ x.toInt ∧ x.toInt < lo + os.length → ∃ off, os[(x.toInt - lo).toNat]? = some off ∧ (pc : Int) + off = (mSwT x ps dflt : Int)) ∧ ((x.toInt < lo ∨ lo + os.length ≤ x.toInt) → mSwT x ps dflt = dflt) := by
  intro ps
  induction ps with
  | nil =>
    intro os lo h
    cases os with
    | nil => exact ⟨fun z => by simp at z; omega, fun _ => rfl⟩
    | cons a b => cases h
  | cons q ps ih =>
    intro os lo h
    cases os with
    | nil => cases h
    | cons o os =>
      unfold mTabOk at h
      simp only [Bool.and_eq_true, decide_eq_true_eq] at h
      obtain ⟨⟨h1, h2⟩, h3⟩ := h
      obtain ⟨i1, i2⟩ := ih os (lo + 1) h3
      unfold mSwT
      simp only [List.length_cons]
      by_cases hx : x = q.1
      · rw [if_pos hx]
        refine ⟨fun _ => ⟨o, ?_, h2⟩, fun z => ?_⟩
        · rw [hx, h1]
          simp
        · rw [hx, h1] at z
          exfalso
          push_cast at z
          omega
      · rw [if_neg hx]
        have hne : x.toInt ≠ lo := fun z => hx (Int32.toInt_inj.mp (by rw [h1, z]))
        refine ⟨fun z => ?_, fun z => i2 ?_⟩
        · push_cast at z
          obtain ⟨off, a1, a2⟩ := i1 (by omega)
          refine ⟨off, ?_, a2⟩
          rw [show (x.toInt - lo).toNat = (x.toInt - (lo + 1)).toNat + 1 by omega, List.getElem?_cons_succ]
          exact a1
        · push_cast at z
          omega
theorem s_tsw (X : mX p s m args meth c R cc nL own ret A D ca ad d) {dflt lo hi : Int} {offs : Array Int} {len : Nat} {ps : List (Int32 × Nat)} {t0 : Nat} (hdg : decode cc pc = .ok (.tableswitch dflt lo hi offs, len)) (hd : (pc : Int) + dflt = (t0 : Int)) (hh : hi + 1 = lo + offs.toList.length) (hps : mTabOk pc lo ps offs.toList = true) : mSnd (mAt p l e R s m args below meth c Q A D ca ad nL) J pc (oSw ps t0) := by
  intro k kr r lv st S hk hr h H locs ls hP hS hl
  unfold oSw at h
  split at h
  · rename_i x w
    rw [mSw_T] at h
    obtain ⟨i1, i2⟩ := mTabOk_in pc t0 x ps offs.toList lo hps
    by_cases hx : x.toInt < lo ∨ hi < x.toInt
    · refine lv_tableOut X.1 X.2.1 hdg hx hd ?_
      rw [i2 (by omega)] at h
      exact hk _ _ _ _ h H locs ls hP hS hl
    · obtain ⟨off, a1, a2⟩ := i1 (by omega)
      refine lv_tableIn X.1 X.2.1 hdg (fun z => hx (Or.inl z)) (fun z => hx (Or.inr z)) (by rw [← Array.getElem?_toList]; exact a1) a2 ?_
      exact hk _ _ _ _ h H locs ls hP hS hl
  · cases h
def mLkOk (pc : Nat) : List (Int32 × Nat) → List (Int × Int) → Bool
  | [], [] => true
  | q :: r, o :: os => decide (q.1.toInt = o.1) && decide ((pc : Int) + o.2 = (q.2 : Int)) && mLkOk pc r os
  | _, _ => false
theorem mLkOk_off (pc t0 : Nat) (dflt : Int) (hd : (pc : Int) + dflt = (t0 : Int)) (x : Int32) : ∀ (ps : List (Int32 × Nat)) (os : List (Int × Int)), mLkOk pc ps os = true → (pc : Int) + Op.lookupswitch.offset os dflt x.toInt = (mSwT x ps t0 : Int) := by
  intro ps
  induction ps with
  | nil =>
    intro os h
    cases os with
    | nil => exact hd
    | cons a b => cases h
  | cons q ps ih =>
    intro os h
    cases os with
    | nil => cases h
    | cons o os =>
      unfold mLkOk at h
      simp only [Bool.and_eq_true, decide_eq_true_eq] at h
      obtain ⟨⟨h1, h2⟩, h3⟩ := h
      unfold mSwT
      by_cases hx : x = q.1
      · rw [if_pos hx]
        obtain ⟨o1, o2⟩ := o
        have e : o1 = x.toInt := by rw [hx]; exact h1.symm
        subst e
        unfold Op.lookupswitch.offset
        simp
        exact h2
      · rw [if_neg hx]
        obtain ⟨o1, o2⟩ := o
        rw [lv_osw hx h1]
        exact ih os h3
theorem s_lsw (X : mX p s m args meth c R cc nL own ret A D ca ad d) {dflt : Int} {prs : Array (Int × Int)} {len : Nat} {ps : List (Int32 × Nat)} {t0 : Nat} (hdg : decode cc pc = .ok (.lookupswitch dflt prs, len)) (hd : (pc : Int) + dflt = (t0 : Int)) (hp : (prs.toList.zip (prs.toList.drop 1)).all (fun (a, next) => a.1 < next.1) = true) (hps : mLkOk pc ps prs.toList = true) : mSnd (mAt p l e R s m args below meth c Q A D ca ad nL) J pc (oSw ps t0) := by
  intro k kr r lv st S hk hr h H locs ls hP hS hl
  unfold oSw at h
  split at h
  · rename_i x w
    rw [mSw_T] at h
    refine lv_lookup X.1 X.2.1 hdg hp rfl (mLkOk_off pc t0 dflt hd x ps prs.toList hps) ?_
    exact hk _ _ _ _ h H locs ls hP hS hl
  · cases h
end
end
section
/-! ===== ops on cells, calls, ends ===== -/
def kO (a ci : Nat) : Bool := Nat.beq (ki a).1 3 && Nat.beq (ki a).2 ci
def kA (a : Nat) : Bool := Nat.beq (ki a).1 0
theorem kO_ki {a ci : Nat} (h : kO a ci = true) : ki a = (3, ci) := by
  unfold kO at h
  simp only [Bool.and_eq_true] at h
  exact Prod.ext (Nat.eq_of_beq_eq_true h.1) (Nat.eq_of_beq_eq_true h.2)
theorem kA_ki {a : Nat} (h : kA a = true) : ki a = (0, (ki a).2) := Prod.ext (Nat.eq_of_beq_eq_true h) rfl
theorem mem_mALL {w : Cond} (h : w ∈ lw_tbl) (g : goodWord w = true) : w ∈ mALL := List.mem_filter.mpr ⟨h, g⟩
theorem mem_tb {w : Cond} (i : Nat) (h : tables_1[i]? = some w) (g : goodWord w = true) : w ∈ mALL := mem_mALL (List.mem_append_right _ (List.mem_of_getElem? h)) g
theorem good_mALL {ws : List Cond} (h : ∀ w ∈ ws, w ∈ mALL) : GoodIn mALL ws := fun w hw => ⟨h w hw, good_of_word (List.mem_filter.mp (h w hw)).2⟩
def mG (D : va_G) (ca : Nat → ClassId) (ad : Nat → Nat) (S : MS) (U : State) : Prop := va_P D vwCl (mW ad ca S) U.heap ∧ va_K D vwCl (mT ca) U ∧ mD ad (mA ad U.heap.size) ∧ mC (mA ad U.heap.size) ad U U.heap
def mPc (D : va_G) (ca : Nat → ClassId) (ad : Nat → Nat) (as : List Value) (S : MS) (sz : Nat) : Array Value → State → Prop := va_Pc (tS ad as) (fun U => U.heap.size = sz ∧ mG D ca ad S U)
def mQc (D : va_G) (ca : Nat → ClassId) (ad : Nat → Nat) (r : MR) (sz : Nat) : Array Value → State → Outcome → State → Prop := fun _ st oc t => oc = .returned (r.1.map (tV ad)) ∧ va_P D vwCl (mW ad ca r.2) t.heap ∧ va_F (mA ad sz) st t
def mR (d : Nat) : Room := { frames := d + 1, cells := 0, slots := 0, locals := 50 * (d + 1) }
/-- a method's contract: from as and S it ends with r -/
def mCon (l : Launch) (D : va_G) (ca : Nat → ClassId) (ad : Nat → Nat) (d : Nat) (y : MethodName) (bytes : ByteArray) (maxL : Nat) (ret : Option FieldType) (as : List Value) (S : MS) (r : MR) : Prop :=
  ∀ sz, Met l y (Cond.code y bytes maxL ret :: mALL) (mR d) (mPc D ca ad as S sz) (mQc D ca ad r sz) 0 0 (mA ad sz)
theorem mC_fb {A : Nat → Prop} {ad : Nat → Nat} {u U : State} {H : Heap} (hv : U.vm = u.vm) (h : mC A ad u H) : mC A ad U H := by
  have hvm : u.vm.Alike U.vm := by rw [hv]; exact Vm.Alike.refl u.vm
  obtain ⟨h1, h2, h3, h4, h5, h6, h7, h8⟩ := h
  exact ⟨h1.moved hvm, h2.moved hvm, h3.moved hvm, h4.moved hvm, h5.moved hvm, h6.moved hvm, h7.same hv, h8.same hv⟩
theorem mPc_fb {D : va_G} {ca : Nat → ClassId} {ad : Nat → Nat} {as : List Value} {S : MS} {sz : Nat} : FrameBlind (mPc D ca ad as S sz) := by
  intro a U g mk h
  obtain ⟨h1, h2, h3, h4, h5, h6⟩ := h
  exact ⟨h1, h2, h3, va_K.moved (u := U) (U := U.calling g mk a) (Vm.Alike.refl U.vm) h4, h5, mC_fb (u := U) (U := U.calling g mk a) rfl h6⟩

section
variable {p : Program} {l : Launch} {e : Env} {R : Room} {s : State} {m : MethodId} {args : Array Value} {below : List Frame} {meth : Method} {c : Code} {Q : State → Prop} {A : Nat → Prop} {D : va_G} {ca : Nat → ClassId} {ad : Nat → Nat} {nL d pc : Nat} {cc : ByteArray} {own : String} {ret : Option FieldType} {J : Option Value → MS → Prop}
def oGetI (ci j n : Nat) : MOp := fun k kr lv st S => match st with
  | .ref a :: w => bif kO a ci then k n lv (.int (S.1 a j) :: w) S else none
  | _ => none
theorem mo_oGetI (ci j n : Nat) : mMono (oGetI ci j n) := by
  intro k k' kr r lv st S hk h
  unfold oGetI at h ⊢
  split at h
  · rename_i a w
    cases h0 : kO a ci with
    | false => rw [h0] at h; cases h
    | true => rw [h0] at h; exact hk _ _ _ _ h
  · cases h
theorem s_getI (X : mX p s m args meth c R cc nL own ret A D ca ad d) {ci j idx N : Nat} {C : String} {T : u_T} (hc : vwCl[ci]? = some (C, T, N)) (hN : nF ci = N) (hin : ∀ w ∈ u_ws C T N, w ∈ mALL) (hj : j < N) (hI : isI ci j = true) (hw : Cond.fieldLink own idx (T j).1 (T j).2.1 (T j).2.2.1 ∈ mALL) (hdg : decode cc pc = .ok (.getfield idx, 3)) : mSnd (mAt p l e R s m args below meth c Q A D ca ad nL) J pc (oGetI ci j (pc + 3)) := by
  intro k kr r lv st S hk hr h H locs ls hP hS hl
  unfold oGetI at h
  split at h
  · rename_i a w
    cases h0 : kO a ci with
    | false => rw [h0] at h; cases h
    | true =>
      rw [h0] at h
      have hki := kO_ki h0
      have hlt := ki_lt hki (by decide)
      exact va_get X.1 X.2.1 (Ts := mALL) X.2.2.2.2.1 hin X.2.2.2.1 X.2.2.2.2.2.2.2.1 hP a (by rw [mW_at hlt, mE_obj hki]) hc j hj (X.2.2.2.2.1 _ hw) (fun _ z => z) (v := .int (S.1 a j)) (by rw [mF_at (hN ▸ hj), hI]; rfl) hdg (hk _ _ _ _ h H locs ls hP hS hl)
  · cases h
def oGetR (ci j n : Nat) : MOp := fun k kr lv st S => match st with
  | .ref a :: w => bif kO a ci then (match rv S a j with
    | some r => k n lv (.ref r :: w) S
    | none => none) else none
  | _ => none
theorem mo_oGetR (ci j n : Nat) : mMono (oGetR ci j n) := by
  intro k k' kr r lv st S hk h
  unfold oGetR at h ⊢
  split at h
  · rename_i a w
    cases h0 : kO a ci with
    | false => rw [h0] at h; cases h
    | true =>
      rw [h0] at h
      simp only [cond_true] at h ⊢
      cases h1 : rv S a j with
      | none => rw [h1] at h; cases h
      | some q => rw [h1] at h; exact hk _ _ _ _ h
  · cases h
theorem s_getR (X : mX p s m args meth c R cc nL own ret A D ca ad d) {ci j idx N : Nat} {C : String} {T : u_T} (hc : vwCl[ci]? = some (C, T, N)) (hN : nF ci = N) (hin : ∀ w ∈ u_ws C T N, w ∈ mALL) (hj : j < N) (hI : isI ci j = false) (hw : Cond.fieldLink own idx (T j).1 (T j).2.1 (T j).2.2.1 ∈ mALL) (hdg : decode cc pc = .ok (.getfield idx, 3)) : mSnd (mAt p l e R s m args below meth c Q A D ca ad nL) J pc (oGetR ci j (pc + 3)) := by
  intro k kr r lv st S hk hr h H locs ls hP hS hl
  unfold oGetR at h
  split at h
  · rename_i a w
    cases h0 : kO a ci with
    | false => rw [h0] at h; cases h
    | true =>
      rw [h0] at h
      simp only [cond_true] at h
      have hki := kO_ki h0
      have hlt := ki_lt hki (by decide)
      cases h1 : rv S a j with
      | none => rw [h1] at h; cases h
      | some q =>
        rw [h1] at h
        exact va_get X.1 X.2.1 (Ts := mALL) X.2.2.2.2.1 hin X.2.2.2.1 X.2.2.2.2.2.2.2.1 hP a (by rw [mW_at hlt, mE_obj hki]) hc j hj (X.2.2.2.2.1 _ hw) (fun _ z => z) (v := .ref (ad q)) (by rw [mF_at (hN ▸ hj), hI, h1]; rfl) hdg (hk _ _ _ _ h H locs ls hP hS hl)
  · cases h
def oPutI (ci j n : Nat) : MOp := fun k kr lv st S => match st with
  | .int x :: .ref a :: w => bif kO a ci then k n lv w (uI S a j x) else none
  | _ => none
theorem mo_oPutI (ci j n : Nat) : mMono (oPutI ci j n) := by
  intro k k' kr r lv st S hk h
  unfold oPutI at h ⊢
  split at h
  · rename_i x a w
    cases h0 : kO a ci with
    | false => rw [h0] at h; cases h
    | true => rw [h0] at h; exact hk _ _ _ _ h
  · cases h
theorem mW_putI {S : MS} {a ci j : Nat} {x : Int32} (hki : ki a = (3, ci)) (hj : j < nF ci) (hI : isI ci j = true) : (mW ad ca S).set a (ad a, .inr (ci, (mF ad S a ci).set j (.int x))) = mW ad ca (uI S a j x) := by
  have hlt := ki_lt hki (by decide)
  refine mW_set hlt ?_ (fun i hi => mE_oth (uI_oth hi) rfl)
  rw [mE_obj hki, mF_ext (S := S) (S' := uI S a j x) (v := .int x) hj (by rw [hI]; simp [uI]) (fun i hi => ⟨by simp [uI, hi], rfl⟩)]
theorem mW_putR {S : MS} {a ci j q : Nat} (hki : ki a = (3, ci)) (hj : j < nF ci) (hI : isI ci j = false) (hr : rT a j = none) : (mW ad ca S).set a (ad a, .inr (ci, (mF ad S a ci).set j (.ref (ad q)))) = mW ad ca (uR S a j (some q)) := by
  have hlt := ki_lt hki (by decide)
  refine mW_set hlt ?_ (fun i hi => mE_oth rfl (uR_oth hi))
  rw [mE_obj hki, mF_ext (S := S) (S' := uR S a j (some q)) (v := .ref (ad q)) hj (by rw [hI]; unfold rv; rw [hr]; simp [uR, va_rf]) (fun i hi => ⟨rfl, by unfold rv; simp [uR, hi]⟩)]
theorem s_putI (X : mX p s m args meth c R cc nL own ret A D ca ad d) {ci j idx N : Nat} {C : String} {T : u_T} (hc : vwCl[ci]? = some (C, T, N)) (hN : nF ci = N) (hin : ∀ w ∈ u_ws C T N, w ∈ mALL) (ty0 : Nat → FieldType) (hty : ∀ k, k < N → parseFieldDescriptor (T k).2.2.1 = some (ty0 k)) (hnm : ∀ a, a < N → ∀ b, b < N → a ≠ b → (T a).2.1 ≠ (T b).2.1) (hj : j < N) (hI : isI ci j = true) (hfin : (T j).2.2.2 = false) (hd : parseFieldDescriptor (T j).2.2.1 = some .int) (hw : Cond.fieldLink own idx (T j).1 (T j).2.1 (T j).2.2.1 ∈ mALL) (hdg : decode cc pc = .ok (.putfield idx, 3)) : mSnd (mAt p l e R s m args below meth c Q A D ca ad nL) J pc (oPutI ci j (pc + 3)) := by
  intro k kr r lv st S hk hr h H locs ls hP hS hl
  unfold oPutI at h
  split at h
  · rename_i x a w
    cases h0 : kO a ci with
    | false => rw [h0] at h; cases h
    | true =>
      rw [h0] at h
      have hki := kO_ki h0
      have hlt := ki_lt hki (by decide)
      refine va_put X.1 X.2.1 (Ts := mALL) X.2.2.2.2.1 hin ty0 hty hnm X.2.2.2.1 X.2.2.2.2.2.2.2.1 hP (mD_va X.2.2.2.2.2.2.2.2.1 ca S) hS a (by rw [mW_at hlt, mE_obj hki]) hc j hj (X.2.2.2.2.1 _ hw) (fun _ z => z) hfin hd (v := .int x) rfl rfl (by rw [mF_len]; exact hN ▸ hj) hdg (fun H1 locs1 hP1 _ hS1 => ?_)
      rw [mW_putI hki (hN ▸ hj) hI] at hP1
      exact hk _ _ _ _ h H1 locs1 ls hP1 hS1 hl
  · cases h
def oPutZ (ci j n : Nat) : MOp := fun k kr lv st S => match st with
  | .int x :: .ref a :: w => bif kO a ci then (if x = 0 ∨ x = 1 then k n lv w (uI S a j x) else none) else none
  | _ => none
theorem mo_oPutZ (ci j n : Nat) : mMono (oPutZ ci j n) := by
  intro k k' kr r lv st S hk h
  unfold oPutZ at h ⊢
  split at h
  · rename_i x a w
    cases h0 : kO a ci with
    | false => rw [h0] at h; cases h
    | true =>
      rw [h0] at h
      simp only [cond_true] at h ⊢
      split at h
      · rename_i hy
        rw [if_pos hy]
        exact hk _ _ _ _ h
      · cases h
  · cases h
theorem s_putZ (X : mX p s m args meth c R cc nL own ret A D ca ad d) {ci j idx N : Nat} {C : String} {T : u_T} (hc : vwCl[ci]? = some (C, T, N)) (hN : nF ci = N) (hin : ∀ w ∈ u_ws C T N, w ∈ mALL) (ty0 : Nat → FieldType) (hty : ∀ k, k < N → parseFieldDescriptor (T k).2.2.1 = some (ty0 k)) (hnm : ∀ a, a < N → ∀ b, b < N → a ≠ b → (T a).2.1 ≠ (T b).2.1) (hj : j < N) (hI : isI ci j = true) (hfin : (T j).2.2.2 = false) (hd : parseFieldDescriptor (T j).2.2.1 = some .boolean) (hw : Cond.fieldLink own idx (T j).1 (T j).2.1 (T j).2.2.1 ∈ mALL) (hdg : decode cc pc = .ok (.putfield idx, 3)) : mSnd (mAt p l e R s m args below meth c Q A D ca ad nL) J pc (oPutZ ci j (pc + 3)) := by
  intro k kr r lv st S hk hr h H locs ls hP hS hl
  unfold oPutZ at h
  split at h
  · rename_i x a w
    cases h0 : kO a ci with
    | false => rw [h0] at h; cases h
    | true =>
      rw [h0] at h
      simp only [cond_true] at h
      split at h
      · rename_i hy
        have hki := kO_ki h0
        have hlt := ki_lt hki (by decide)
        refine va_put X.1 X.2.1 (Ts := mALL) X.2.2.2.2.1 hin ty0 hty hnm X.2.2.2.1 X.2.2.2.2.2.2.2.1 hP (mD_va X.2.2.2.2.2.2.2.2.1 ca S) hS a (by rw [mW_at hlt, mE_obj hki]) hc j hj (X.2.2.2.2.1 _ hw) (fun _ z => z) hfin hd (v := .int x) (by rcases hy with rfl | rfl <;> decide) (by rcases hy with rfl | rfl <;> decide) (by rw [mF_len]; exact hN ▸ hj) hdg (fun H1 locs1 hP1 _ hS1 => ?_)
        rw [mW_putI hki (hN ▸ hj) hI] at hP1
        exact hk _ _ _ _ h H1 locs1 ls hP1 hS1 hl
      · cases h
  · cases h
def oPutR (ci j n : Nat) : MOp := fun k kr lv st S => match st with
  | .ref q :: .ref a :: w => bif kO a ci && (rT a j).isNone then k n lv w (uR S a j (some q)) else none
  | _ => none
theorem mo_oPutR (ci j n : Nat) : mMono (oPutR ci j n) := by
  intro k k' kr r lv st S hk h
  unfold oPutR at h ⊢
  split at h
  · rename_i x a w
    cases h0 : (kO a ci && (rT a j).isNone) with
    | false => rw [h0] at h; cases h
    | true => rw [h0] at h; exact hk _ _ _ _ h
  · cases h
theorem s_putR (X : mX p s m args meth c R cc nL own ret A D ca ad d) {ci j idx N : Nat} {C : String} {T : u_T} (hc : vwCl[ci]? = some (C, T, N)) (hN : nF ci = N) (hin : ∀ w ∈ u_ws C T N, w ∈ mALL) (ty0 : Nat → FieldType) (hty : ∀ k, k < N → parseFieldDescriptor (T k).2.2.1 = some (ty0 k)) (hnm : ∀ a, a < N → ∀ b, b < N → a ≠ b → (T a).2.1 ≠ (T b).2.1) (hj : j < N) (hI : isI ci j = false) (hfin : (T j).2.2.2 = false) {ty : FieldType} (hd : parseFieldDescriptor (T j).2.2.1 = some ty) (hn1 : ∀ q, narrow ty (.ref q) = .ref q) (hf1 : ∀ q, fits ty (.ref q) = true) (hw : Cond.fieldLink own idx (T j).1 (T j).2.1 (T j).2.2.1 ∈ mALL) (hdg : decode cc pc = .ok (.putfield idx, 3)) : mSnd (mAt p l e R s m args below meth c Q A D ca ad nL) J pc (oPutR ci j (pc + 3)) := by
  intro k kr r lv st S hk hr h H locs ls hP hS hl
  unfold oPutR at h
  split at h
  · rename_i q a w
    cases h0 : (kO a ci && (rT a j).isNone) with
    | false => rw [h0] at h; cases h
    | true =>
      rw [h0] at h
      simp only [Bool.and_eq_true] at h0
      have hki := kO_ki h0.1
      have hlt := ki_lt hki (by decide)
      refine va_put X.1 X.2.1 (Ts := mALL) X.2.2.2.2.1 hin ty0 hty hnm X.2.2.2.1 X.2.2.2.2.2.2.2.1 hP (mD_va X.2.2.2.2.2.2.2.2.1 ca S) hS a (by rw [mW_at hlt, mE_obj hki]) hc j hj (X.2.2.2.2.1 _ hw) (fun _ z => z) hfin hd (v := .ref (ad q)) (hn1 _) (hf1 _) (by rw [mF_len]; exact hN ▸ hj) hdg (fun H1 locs1 hP1 _ hS1 => ?_)
      rw [mW_putR hki (hN ▸ hj) hI (Option.isNone_iff_eq_none.mp h0.2)] at hP1
      exact hk _ _ _ _ h H1 locs1 ls hP1 hS1 hl
  · cases h
def oIald (n : Nat) : MOp := fun k kr lv st S => match st with
  | .int i :: .ref a :: w => bif kA a then (if i < 0 ∨ (ki a).2 ≤ i.toNatClampNeg then none else k n lv (.int (S.1 a i.toNatClampNeg) :: w) S)
    else bif Nat.beq a 1000 then (if i < 0 ∨ 7 ≤ i.toNatClampNeg then none else k n lv (.int (aboveL.getD i.toNatClampNeg 0) :: w) S)
    else bif Nat.beq a 1001 then (if i < 0 ∨ 28 ≤ i.toNatClampNeg then none else k n lv (.int (bodiesL.getD i.toNatClampNeg 0) :: w) S) else none
  | _ => none
theorem mo_oIald (n : Nat) : mMono (oIald n) := by
  intro k k' kr r lv st S hk h
  unfold oIald at h ⊢
  split at h
  · rename_i i a w
    cases h0 : kA a with
    | true =>
      rw [h0] at h
      simp only [cond_true] at h ⊢
      split at h
      · cases h
      · rename_i hy
        rw [if_neg hy]
        exact hk _ _ _ _ h
    | false =>
      rw [h0] at h
      simp only [cond_false] at h ⊢
      cases h1 : Nat.beq a 1000 with
      | true =>
        rw [h1] at h
        simp only [cond_true] at h ⊢
        split at h
        · cases h
        · rename_i hy
          rw [if_neg hy]
          exact hk _ _ _ _ h
      | false =>
        rw [h1] at h
        simp only [cond_false] at h ⊢
        cases h2 : Nat.beq a 1001 with
        | true =>
          rw [h2] at h
          simp only [cond_true] at h ⊢
          split at h
          · cases h
          · rename_i hy
            rw [if_neg hy]
            exact hk _ _ _ _ h
        | false => rw [h2] at h; cases h
  · cases h
theorem s_iaload (X : mX p s m args meth c R cc nL own ret A D ca ad d) (hdg : decode cc pc = .ok (.iaload, 1)) : mSnd (mAt p l e R s m args below meth c Q A D ca ad nL) J pc (oIald (pc + 1)) := by
  intro k kr r lv st S hk hr h H locs ls hP hS hl
  unfold oIald at h
  split at h
  · rename_i i a w
    cases h0 : kA a with
    | true =>
      rw [h0] at h
      simp only [cond_true] at h
      split at h
      · cases h
      · rename_i hy
        have hki := kA_ki h0
        have hlt := ki_lt hki (by decide)
        exact va_iald X.1 X.2.1 X.2.2.2.2.2.2.2.1 hP a 0 (by rw [mW_at hlt, mE_int hki]) rfl hy hdg (hk _ _ _ _ h H locs ls hP hS hl)
    | false =>
      rw [h0] at h
      simp only [cond_false] at h
      cases h1 : Nat.beq a 1000 with
      | true =>
        rw [h1] at h
        simp only [cond_true] at h
        split at h
        · cases h
        · rename_i hy
          have e := Nat.eq_of_beq_eq_true h1
          subst e
          exact va_ti X.1 X.2.1 X.2.2.2.2.2.2.2.2.2.2.1.2.1 hS hy rfl hdg (hk _ _ _ _ h H locs ls hP hS hl)
      | false =>
        rw [h1] at h
        simp only [cond_false] at h
        cases h2 : Nat.beq a 1001 with
        | true =>
          rw [h2] at h
          simp only [cond_true] at h
          split at h
          · cases h
          · rename_i hy
            have e := Nat.eq_of_beq_eq_true h2
            subst e
            exact va_ti X.1 X.2.1 X.2.2.2.2.2.2.2.2.2.2.1.2.2.2.1 hS hy rfl hdg (hk _ _ _ _ h H locs ls hP hS hl)
        | false => rw [h2] at h; cases h
  · cases h
def oIast (n : Nat) : MOp := fun k kr lv st S => match st with
  | .int x :: .int i :: .ref a :: w => bif kA a then (if i < 0 ∨ (ki a).2 ≤ i.toNatClampNeg then none else k n lv w (uI S a i.toNatClampNeg x)) else none
  | _ => none
theorem mo_oIast (n : Nat) : mMono (oIast n) := by
  intro k k' kr r lv st S hk h
  unfold oIast at h ⊢
  split at h
  · rename_i x i a w
    cases h0 : kA a with
    | true =>
      rw [h0] at h
      simp only [cond_true] at h ⊢
      split at h
      · cases h
      · rename_i hy
        rw [if_neg hy]
        exact hk _ _ _ _ h
    | false => rw [h0] at h; cases h
  · cases h
theorem mW_iast {S : MS} {a i : Nat} {x : Int32} (h0 : kA a = true) : (mW ad ca S).set a (ad a, .inl (ca 0, (ki a).2, .inl (upd (S.1 a) i x))) = mW ad ca (uI S a i x) := by
  have hki := kA_ki h0
  have hlt := ki_lt hki (by decide)
  refine mW_set hlt ?_ (fun i hi => mE_oth (uI_oth hi) rfl)
  rw [mE_int hki]
  congr 4
  funext j
  simp [uI, upd]
theorem s_iastore (X : mX p s m args meth c R cc nL own ret A D ca ad d) (hdg : decode cc pc = .ok (.iastore, 1)) : mSnd (mAt p l e R s m args below meth c Q A D ca ad nL) J pc (oIast (pc + 1)) := by
  intro k kr r lv st S hk hr h H locs ls hP hS hl
  unfold oIast at h
  split at h
  · rename_i x i a w
    cases h0 : kA a with
    | true =>
      rw [h0] at h
      simp only [cond_true] at h
      split at h
      · cases h
      · rename_i hy
        have hki := kA_ki h0
        have hlt := ki_lt hki (by decide)
        refine va_iast X.1 X.2.1 X.2.2.2.2.2.2.2.1 hP (mD_va X.2.2.2.2.2.2.2.2.1 ca S) hS a 0 (by rw [mW_at hlt, mE_int hki]) rfl hy hdg (fun H1 locs1 hP1 _ hS1 => ?_)
        rw [mW_iast h0] at hP1
        exact hk _ _ _ _ h H1 locs1 ls hP1 hS1 hl
    | false => rw [h0] at h; cases h
  · cases h
def oAald (n : Nat) : MOp := fun k kr lv st S => match st with
  | .int i :: .ref a :: w => bif Nat.beq (ki a).1 1 || Nat.beq (ki a).1 2 then (if i < 0 ∨ (ki a).2 ≤ i.toNatClampNeg then none else (match rv S a i.toNatClampNeg with
    | some q => k n lv (.ref q :: w) S
    | none => none)) else none
  | _ => none
theorem mo_oAald (n : Nat) : mMono (oAald n) := by
  intro k k' kr r lv st S hk h
  unfold oAald at h ⊢
  split at h
  · rename_i i a w
    cases h0 : (Nat.beq (ki a).1 1 || Nat.beq (ki a).1 2) with
    | true =>
      rw [h0] at h
      simp only [cond_true] at h ⊢
      split at h
      · cases h
      · rename_i hy
        rw [if_neg hy]
        cases h1 : rv S a i.toNatClampNeg with
        | none => rw [h1] at h; cases h
        | some q => rw [h1] at h; exact hk _ _ _ _ h
    | false => rw [h0] at h; cases h
  · cases h
theorem s_aaload (X : mX p s m args meth c R cc nL own ret A D ca ad d) (hdg : decode cc pc = .ok (.aaload, 1)) : mSnd (mAt p l e R s m args below meth c Q A D ca ad nL) J pc (oAald (pc + 1)) := by
  intro k kr r lv st S hk hr h H locs ls hP hS hl
  unfold oAald at h
  split at h
  · rename_i i a w
    cases h0 : (Nat.beq (ki a).1 1 || Nat.beq (ki a).1 2) with
    | true =>
      rw [h0] at h
      simp only [cond_true] at h
      split at h
      · cases h
      · rename_i hy
        cases h1 : rv S a i.toNatClampNeg with
        | none => rw [h1] at h; cases h
        | some q =>
          rw [h1] at h
          have hn := hk _ _ _ _ h H locs ls hP hS hl
          have ev : va_rf ((rv S a i.toNatClampNeg).map ad) = .ref (ad q) := by rw [h1]; rfl
          rcases Bool.or_eq_true_iff.mp h0 with h2 | h2
          · have hki : ki a = (1, (ki a).2) := Prod.ext (Nat.eq_of_beq_eq_true h2) rfl
            have hlt := ki_lt hki (by decide)
            refine va_aldq X.1 X.2.1 X.2.2.2.2.2.2.2.1 hP a 1 (by rw [mW_at hlt, mE_tx hki]) rfl hy hdg ?_
            rw [ev]
            exact hn
          · have hki : ki a = (2, (ki a).2) := Prod.ext (Nat.eq_of_beq_eq_true h2) rfl
            have hlt := ki_lt hki (by decide)
            refine va_aldq X.1 X.2.1 X.2.2.2.2.2.2.2.1 hP a 2 (by rw [mW_at hlt, mE_sh hki]) rfl hy hdg ?_
            rw [ev]
            exact hn
    | false => rw [h0] at h; cases h
  · cases h
def oAlen (n : Nat) : MOp := fun k kr lv st S => match st with
  | .ref a :: w => bif kA a then k n lv (.int (Int32.ofNat (ki a).2) :: w) S else bif Nat.beq a 1005 || Nat.beq a 1006 then k n lv (.int 3 :: w) S else none
  | _ => none
theorem mo_oAlen (n : Nat) : mMono (oAlen n) := by
  intro k k' kr r lv st S hk h
  unfold oAlen at h ⊢
  split at h
  · rename_i a w
    cases h0 : kA a with
    | true => rw [h0] at h; exact hk _ _ _ _ h
    | false =>
      rw [h0] at h
      simp only [cond_false] at h ⊢
      cases h1 : (Nat.beq a 1005 || Nat.beq a 1006) with
      | true => rw [h1] at h; exact hk _ _ _ _ h
      | false => rw [h1] at h; cases h
  · cases h
theorem s_arraylength (X : mX p s m args meth c R cc nL own ret A D ca ad d) (hdg : decode cc pc = .ok (.arraylength, 1)) : mSnd (mAt p l e R s m args below meth c Q A D ca ad nL) J pc (oAlen (pc + 1)) := by
  intro k kr r lv st S hk hr h H locs ls hP hS hl
  unfold oAlen at h
  split at h
  · rename_i a w
    cases h0 : kA a with
    | true =>
      rw [h0] at h
      have hki := kA_ki h0
      have hlt := ki_lt hki (by decide)
      exact va_alen X.1 X.2.1 X.2.2.2.2.2.2.2.1 hP a 0 (x := ((ki a).2, .inl (S.1 a))) (by rw [mW_at hlt, mE_int hki]) rfl rfl hdg (hk _ _ _ _ h H locs ls hP hS hl)
    | false =>
      rw [h0] at h
      simp only [cond_false] at h
      cases h1 : (Nat.beq a 1005 || Nat.beq a 1006) with
      | true =>
        rw [h1] at h
        have hn := hk _ _ _ _ h H locs ls hP hS hl
        have hs := X.2.2.2.2.2.2.2.2.2.2.1.2.2.2.2.2.1
        rcases Bool.or_eq_true_iff.mp h1 with h2 | h2
        · have e := Nat.eq_of_beq_eq_true h2
          subst e
          exact va_tlen X.1 X.2.1 (hs.1 0 (by decide)).2.2.2 hS rfl hdg hn
        · have e := Nat.eq_of_beq_eq_true h2
          subst e
          exact va_tlen X.1 X.2.1 (hs.1 1 (by decide)).2.2.2 hS rfl hdg hn
      | false => rw [h1] at h; cases h
  · cases h
def oBald (n : Nat) : MOp := fun k kr lv st S => match st with
  | .int i :: .ref a :: w => bif Nat.beq a 1005 then (if i < 0 ∨ 3 ≤ i.toNatClampNeg then none else k n lv (.int ((strB.getD 0 []).getD i.toNatClampNeg 0) :: w) S)
    else bif Nat.beq a 1006 then (if i < 0 ∨ 3 ≤ i.toNatClampNeg then none else k n lv (.int ((strB.getD 1 []).getD i.toNatClampNeg 0) :: w) S) else none
  | _ => none
theorem mo_oBald (n : Nat) : mMono (oBald n) := by
  intro k k' kr r lv st S hk h
  unfold oBald at h ⊢
  split at h
  · rename_i i a w
    cases h1 : Nat.beq a 1005 with
    | true =>
      rw [h1] at h
      simp only [cond_true] at h ⊢
      split at h
      · cases h
      · rename_i hy
        rw [if_neg hy]
        exact hk _ _ _ _ h
    | false =>
      rw [h1] at h
      simp only [cond_false] at h ⊢
      cases h2 : Nat.beq a 1006 with
      | true =>
        rw [h2] at h
        simp only [cond_true] at h ⊢
        split at h
        · cases h
        · rename_i hy
          rw [if_neg hy]
          exact hk _ _ _ _ h
      | false => rw [h2] at h; cases h
  · cases h
theorem s_baload (X : mX p s m args meth c R cc nL own ret A D ca ad d) (hdg : decode cc pc = .ok (.baload, 1)) : mSnd (mAt p l e R s m args below meth c Q A D ca ad nL) J pc (oBald (pc + 1)) := by
  intro k kr r lv st S hk hr h H locs ls hP hS hl
  have hs := X.2.2.2.2.2.2.2.2.2.2.1.2.2.2.2.2.1
  unfold oBald at h
  split at h
  · rename_i i a w
    cases h1 : Nat.beq a 1005 with
    | true =>
      rw [h1] at h
      simp only [cond_true] at h
      split at h
      · cases h
      · rename_i hy
        have e := Nat.eq_of_beq_eq_true h1
        subst e
        exact va_tb X.1 X.2.1 (hs.1 0 (by decide)).2.2.2 hS hy rfl hdg (hk _ _ _ _ h H locs ls hP hS hl)
    | false =>
      rw [h1] at h
      simp only [cond_false] at h
      cases h2 : Nat.beq a 1006 with
      | true =>
        rw [h2] at h
        simp only [cond_true] at h
        split at h
        · cases h
        · rename_i hy
          have e := Nat.eq_of_beq_eq_true h2
          subst e
          exact va_tb X.1 X.2.1 (hs.1 1 (by decide)).2.2.2 hS hy rfl hdg (hk _ _ _ _ h H locs ls hP hS hl)
      | false => rw [h2] at h; cases h
  · cases h
theorem s_statAbove (X : mX p s m args meth c R cc nL own ret A D ca ad d) {idx : Nat} (hw : Cond.fieldLink own idx "FountainTalk" "ABOVE" "[I" ∈ mALL) (hdg : decode cc pc = .ok (.getstatic idx, 3)) : mSnd (mAt p l e R s m args below meth c Q A D ca ad nL) J pc (oRef 1000 (pc + 3)) := by
  intro k kr r lv st S hk hr h H locs ls hP hS hl
  exact va_gets X.1 X.2.1 X.2.2.2.2.2.2.2.2.2.2.1.1 hS X.2.2.2.1 (X.2.2.2.2.1 _ hw) (fun _ z => z) hdg (hk _ _ _ _ h H locs ls hP hS hl)
theorem s_statBodies (X : mX p s m args meth c R cc nL own ret A D ca ad d) {idx : Nat} (hw : Cond.fieldLink own idx "FountainTalk$Speaker" "BODIES" "[I" ∈ mALL) (hdg : decode cc pc = .ok (.getstatic idx, 3)) : mSnd (mAt p l e R s m args below meth c Q A D ca ad nL) J pc (oRef 1001 (pc + 3)) := by
  intro k kr r lv st S hk hr h H locs ls hP hS hl
  exact va_gets X.1 X.2.1 X.2.2.2.2.2.2.2.2.2.2.1.2.2.1 hS X.2.2.2.1 (X.2.2.2.2.1 _ hw) (fun _ z => z) hdg (hk _ _ _ _ h H locs ls hP hS hl)
theorem s_statCompact (X : mX p s m args meth c R cc nL own ret A D ca ad d) {idx : Nat} (hw : Cond.fieldLink own idx "java/lang/String" "COMPACT_STRINGS" "Z" ∈ mALL) (hdg : decode cc pc = .ok (.getstatic idx, 3)) : mSnd (mAt p l e R s m args below meth c Q A D ca ad nL) J pc (oPush 1 (pc + 3)) := by
  intro k kr r lv st S hk hr h H locs ls hP hS hl
  exact va_gets X.1 X.2.1 X.2.2.2.2.2.2.2.2.2.2.1.2.2.2.2.1 hS X.2.2.2.1 (X.2.2.2.2.1 _ hw) (fun _ z => z) hdg (hk _ _ _ _ h H locs ls hP hS hl)
def oCoder (n : Nat) : MOp := fun k kr lv st S => match st with
  | .ref a :: w => bif Nat.beq a 1003 || Nat.beq a 1004 then k n lv (.int 0 :: w) S else none
  | _ => none
def oValue (n : Nat) : MOp := fun k kr lv st S => match st with
  | .ref a :: w => bif Nat.beq a 1003 || Nat.beq a 1004 then k n lv (.ref (a + 2) :: w) S else none
  | _ => none
theorem mo_oCoder (n : Nat) : mMono (oCoder n) := by
  intro k k' kr r lv st S hk h
  unfold oCoder at h ⊢
  split at h
  · rename_i a w
    cases h1 : (Nat.beq a 1003 || Nat.beq a 1004) with
    | true => rw [h1] at h; exact hk _ _ _ _ h
    | false => rw [h1] at h; cases h
  · cases h
theorem mo_oValue (n : Nat) : mMono (oValue n) := by
  intro k k' kr r lv st S hk h
  unfold oValue at h ⊢
  split at h
  · rename_i a w
    cases h1 : (Nat.beq a 1003 || Nat.beq a 1004) with
    | true => rw [h1] at h; exact hk _ _ _ _ h
    | false => rw [h1] at h; cases h
  · cases h
theorem s_str_coder (X : mX p s m args meth c R cc nL own ret A D ca ad d) {idx : Nat} (hw : Cond.fieldLink own idx "java/lang/String" "coder" "B" ∈ mALL) (hdg : decode cc pc = .ok (.getfield idx, 3)) : mSnd (mAt p l e R s m args below meth c Q A D ca ad nL) J pc (oCoder (pc + 3)) := by
  intro k kr r lv st S hk hr h H locs ls hP hS hl
  have hs := X.2.2.2.2.2.2.2.2.2.2.1.2.2.2.2.2.1
  unfold oCoder at h
  split at h
  · rename_i a w
    cases h1 : (Nat.beq a 1003 || Nat.beq a 1004) with
    | true =>
      rw [h1] at h
      have hn := hk _ _ _ _ h H locs ls hP hS hl
      rcases Bool.or_eq_true_iff.mp h1 with h2 | h2
      · have e := Nat.eq_of_beq_eq_true h2
        subst e
        exact vk_getf X.1 X.2.1 (hs.1 0 (by decide)).2.1 hS X.2.2.2.1 (X.2.2.2.2.1 _ hw) (fun _ z => z) hdg hn
      · have e := Nat.eq_of_beq_eq_true h2
        subst e
        exact vk_getf X.1 X.2.1 (hs.1 1 (by decide)).2.1 hS X.2.2.2.1 (X.2.2.2.2.1 _ hw) (fun _ z => z) hdg hn
    | false => rw [h1] at h; cases h
  · cases h
theorem s_str_value (X : mX p s m args meth c R cc nL own ret A D ca ad d) {idx : Nat} (hw : Cond.fieldLink own idx "java/lang/String" "value" "[B" ∈ mALL) (hdg : decode cc pc = .ok (.getfield idx, 3)) : mSnd (mAt p l e R s m args below meth c Q A D ca ad nL) J pc (oValue (pc + 3)) := by
  intro k kr r lv st S hk hr h H locs ls hP hS hl
  have hs := X.2.2.2.2.2.2.2.2.2.2.1.2.2.2.2.2.1
  unfold oValue at h
  split at h
  · rename_i a w
    cases h1 : (Nat.beq a 1003 || Nat.beq a 1004) with
    | true =>
      rw [h1] at h
      have hn := hk _ _ _ _ h H locs ls hP hS hl
      rcases Bool.or_eq_true_iff.mp h1 with h2 | h2
      · have e := Nat.eq_of_beq_eq_true h2
        subst e
        exact vk_getf X.1 X.2.1 (hs.1 0 (by decide)).2.2.1 hS X.2.2.2.1 (X.2.2.2.2.1 _ hw) (fun _ z => z) hdg hn
      · have e := Nat.eq_of_beq_eq_true h2
        subst e
        exact vk_getf X.1 X.2.1 (hs.1 1 (by decide)).2.2.1 hS X.2.2.2.1 (X.2.2.2.2.1 _ hw) (fun _ z => z) hdg hn
    | false => rw [h1] at h; cases h
  · cases h
def oMin (n : Nat) : MOp := fun k kr lv st S => match st with
  | .int y :: .int x :: w => bif Nat.ble (mcats w) 8 then k n lv (.int (if y < x then y else x) :: w) S else none
  | _ => none
theorem mo_oMin (n : Nat) : mMono (oMin n) := by
  intro k k' kr r lv st S hk h
  unfold oMin at h ⊢
  split at h
  · rename_i y x w
    cases h1 : Nat.ble (mcats w) 8 with
    | true => rw [h1] at h; exact hk _ _ _ _ h
    | false => rw [h1] at h; cases h
  · cases h
theorem s_min (X : mX p s m args meth c R cc nL own ret A D ca ad d) {idx : Nat} (hw : Cond.methodLink own idx Lib.Math.min.name ∈ mALL) (hw1 : Cond.static Lib.Math.min.name ∈ mALL) (hw2 : Cond.initialized "java/lang/Math" ∈ mALL) (hw3 : Cond.code Lib.Math.min.name Lib.Math.min.code 2 (some .int) ∈ mALL) (hdg : decode cc pc = .ok (.invokestatic idx, 3)) : mSnd (mAt p l e R s m args below meth c Q A D ca ad nL) J pc (oMin (pc + 3)) := by
  intro k kr r lv st S hk hr h H locs ls hP hS hl
  unfold oMin at h
  split at h
  · rename_i y x w
    cases h1 : Nat.ble (mcats w) 8 with
    | true =>
      rw [h1] at h
      have h8 := Nat.le_of_ble_eq_true h1
      have f1 := X.2.2.2.2.2.2.2.2.2.2.2.1
      have f2 := X.2.2.2.2.2.2.2.2.2.2.2.2
      exact va_mmin X.1 X.2.1 (X.2.2.1.trans hl.1.symm) X.2.2.2.1 (X.2.2.2.2.1 _ hw) (X.2.2.2.2.1 _ hw1) (X.2.2.2.2.1 _ hw2) (X.2.2.2.2.1 _ hw3) (by omega) (by rw [mcats_eq]; omega) (Nat.zero_le _) (Nat.zero_le _) hdg (hk _ _ _ _ h H locs ls hP hS hl)
    | false => rw [h1] at h; cases h
  · cases h
def oMax (n : Nat) : MOp := fun k kr lv st S => match st with
  | .int y :: .int x :: w => bif Nat.ble (mcats w) 8 then k n lv (.int (if x < y then y else x) :: w) S else none
  | _ => none
theorem mo_oMax (n : Nat) : mMono (oMax n) := by
  intro k k' kr r lv st S hk h
  unfold oMax at h ⊢
  split at h
  · rename_i y x w
    cases h1 : Nat.ble (mcats w) 8 with
    | true => rw [h1] at h; exact hk _ _ _ _ h
    | false => rw [h1] at h; cases h
  · cases h
theorem s_max (X : mX p s m args meth c R cc nL own ret A D ca ad d) {idx : Nat} (hw : Cond.methodLink own idx Lib.Math.max.name ∈ mALL) (hw1 : Cond.static Lib.Math.max.name ∈ mALL) (hw2 : Cond.initialized "java/lang/Math" ∈ mALL) (hw3 : Cond.code Lib.Math.max.name Lib.Math.max.code 2 (some .int) ∈ mALL) (hdg : decode cc pc = .ok (.invokestatic idx, 3)) : mSnd (mAt p l e R s m args below meth c Q A D ca ad nL) J pc (oMax (pc + 3)) := by
  intro k kr r lv st S hk hr h H locs ls hP hS hl
  unfold oMax at h
  split at h
  · rename_i y x w
    cases h1 : Nat.ble (mcats w) 8 with
    | true =>
      rw [h1] at h
      have h8 := Nat.le_of_ble_eq_true h1
      have f1 := X.2.2.2.2.2.2.2.2.2.2.2.1
      have f2 := X.2.2.2.2.2.2.2.2.2.2.2.2
      exact va_mmax X.1 X.2.1 (X.2.2.1.trans hl.1.symm) X.2.2.2.1 (X.2.2.2.2.1 _ hw) (X.2.2.2.2.1 _ hw1) (X.2.2.2.2.1 _ hw2) (X.2.2.2.2.1 _ hw3) (by omega) (by rw [mcats_eq]; omega) (Nat.zero_le _) (Nat.zero_le _) hdg (hk _ _ _ _ h H locs ls hP hS hl)
    | false => rw [h1] at h; cases h
  · cases h
def oCopy (n : Nat) : MOp := fun k kr lv st S => match st with
  | .int c0 :: .int dp :: .ref b :: .int sp :: .ref a :: w => bif kA a && kA b && Nat.ble (mcats w) 8 then (if sp < 0 ∨ dp < 0 ∨ c0 < 0 ∨ (ki a).2 < sp.toNatClampNeg + c0.toNatClampNeg ∨ (ki b).2 < dp.toNatClampNeg + c0.toNatClampNeg then none else k n lv w (uC S a b sp.toNatClampNeg dp.toNatClampNeg c0.toNatClampNeg)) else none
  | _ => none
theorem mo_oCopy (n : Nat) : mMono (oCopy n) := by
  intro k k' kr r lv st S hk h
  unfold oCopy at h ⊢
  split at h
  · rename_i c0 dp b sp a w
    cases h0 : (kA a && kA b && Nat.ble (mcats w) 8) with
    | true =>
      rw [h0] at h
      simp only [cond_true] at h ⊢
      split at h
      · cases h
      · rename_i hy
        rw [if_neg hy]
        exact hk _ _ _ _ h
    | false => rw [h0] at h; cases h
  · cases h
theorem mW_copy {S : MS} {a b sp dp n : Nat} (h0 : kA b = true) : (mW ad ca S).set b (ad b, .inl (ca 0, (ki b).2, .inl (va_cpy (S.1 a) (S.1 b) sp dp n))) = mW ad ca (uC S a b sp dp n) := by
  have hki := kA_ki h0
  have hlt := ki_lt hki (by decide)
  refine mW_set hlt ?_ (fun i hi => mE_oth (uC_oth hi) rfl)
  rw [mE_int hki]
  congr 4
  funext j
  simp [uC]
theorem s_copy (X : mX p s m args meth c R cc nL own ret A D ca ad d) {idx : Nat} (hw : Cond.methodLink own idx arraycopyName ∈ mALL) (hw1 : Cond.native arraycopyName ∈ mALL) (hw2 : Cond.static arraycopyName ∈ mALL) (hw3 : Cond.initialized "java/lang/System" ∈ mALL) (hdg : decode cc pc = .ok (.invokestatic idx, 3)) : mSnd (mAt p l e R s m args below meth c Q A D ca ad nL) J pc (oCopy (pc + 3)) := by
  intro k kr r lv st S hk hr h H locs ls hP hS hl
  unfold oCopy at h
  split at h
  · rename_i c0 dp b sp a w
    cases h0 : (kA a && kA b && Nat.ble (mcats w) 8) with
    | true =>
      rw [h0] at h
      simp only [cond_true] at h
      simp only [Bool.and_eq_true] at h0
      split at h
      · cases h
      · rename_i hy
        simp only [not_or, Nat.not_lt] at hy
        obtain ⟨y1, y2, y3, y4, y5⟩ := hy
        have h8 := Nat.le_of_ble_eq_true h0.2
        have f1 := X.2.2.2.2.2.2.2.2.2.2.2.1
        have f2 := X.2.2.2.2.2.2.2.2.2.2.2.2
        have ka := kA_ki h0.1.1
        have hnf : nativeFrameWords "java/lang/System" "arraycopy" 5 ≤ 20 := by decide +kernel
        have kb := kA_ki h0.1.2
        refine va_copyi X.1 X.2.1 (X.2.2.1.trans hl.1.symm) X.2.2.2.1 (X.2.2.2.2.1 _ hw) (X.2.2.2.2.1 _ hw1) (X.2.2.2.2.1 _ hw2) (X.2.2.2.2.1 _ hw3) X.2.2.2.2.2.2.2.1 hP (mD_va X.2.2.2.2.2.2.2.2.1 ca S) hS a b 0 0 (by rw [mW_at (ki_lt ka (by decide)), mE_int ka]) (by rw [mW_at (ki_lt kb (by decide)), mE_int kb]) rfl rfl rfl y1 y2 y3 y4 y5 (fun _ _ => rfl) (by omega) (by rw [mcats_eq]; omega) hdg (fun H1 locs1 hP1 _ hS1 => ?_)
        rw [mW_copy h0.1.2] at hP1
        exact hk _ _ _ _ h H1 locs1 ls hP1 hS1 hl
    | false => rw [h0] at h; cases h
  · cases h
/-- behind a call, by its contract -/
theorem m_back {H : Heap} {locs : List Loc} {ls : Array Slot} {st0 rest : List Value} {sz : Nat} {r1 : MR} {aa : Array Value} {lv : ML} (X : mX p s m args meth c R cc nL own ret A D ca ad d) (hsz : H.size = sz)
    (hrun : va_Run p l e R s m args below meth c H locs 0 0 0 0 (F0 m pc ls st0) (tS ad rest) (mQc D ca ad r1 sz aa) (mA ad sz)) (hS : va_S A s.heap H locs) (hl : lv_has ls nL (tL ad lv))
    (kk : mAt p l e R s m args below meth c Q A D ca ad nL (pc + 3) lv (r1.1.toList ++ rest) r1.2) : W p l e R s m args below meth c H locs 0 0 Q (F0 m pc ls st0) := by
  subst hsz
  have hAA : ∀ q, q < H.size → mA ad H.size q → A q := by
    intro q h1 h2
    rcases h2 with ⟨k, hk, rfl⟩ | h2
    · exact X.2.2.2.2.2.2.2.2.1.2 k hk
    · omega
  have hAf : ∀ q, mA ad H.size q → A q := by
    intro q h2
    rcases h2 with ⟨k, hk, rfl⟩ | h2
    · exact X.2.2.2.2.2.2.2.2.1.2 k hk
    · exact X.2.2.2.2.2.2.2.2.2.1 q (Nat.le_trans hS.1 h2)
  intro T hT Y
  obtain ⟨v, st₀, t, T', L, h0, X', hL, e1, e2, ⟨hv, hP1, hz, hk⟩, stp⟩ := hrun T hT Y
  rw [h0] at hz hk
  have hv : v = r1.1.map (tV ad) := Outcome.returned.inj hv
  subst hv
  have hS' : va_S A s.heap T'.heap (locs ++ L) := ⟨Nat.le_trans hS.1 (by rw [e1]; exact hz), fun q h1 h2 => by rw [e1, hk q (Nat.lt_of_lt_of_le h1 hS.1) (fun z => h2 (hAA q (Nat.lt_of_lt_of_le h1 hS.1) z))]; exact hS.2.1 q h1 h2, fun q hq => by
      rcases List.mem_append.mp hq with h | h
      · exact hS.2.2 q h
      · exact hAf _ (hL q h)⟩
  obtain ⟨t2, a1, b1⟩ := kk T'.heap (locs ++ L) ls (by rw [e1]; exact hP1) hS' hl T' rfl X'
  refine ⟨t2, stp t2 ?_, b1⟩
  have e3 : tS ad (r1.1.toList ++ rest) = (r1.1.map (tV ad)).toList ++ tS ad rest := by
    obtain ⟨o, w⟩ := r1
    cases o <;> rfl
  rw [e3] at a1
  exact a1
/-- what a callee may take -/
theorem m_pre {H : Heap} {locs : List Loc} {as : List Value} {S : MS} (X : mX p s m args meth c R cc nL own ret A D ca ad d) (hP : va_P D vwCl (mW ad ca S) H) (hS : va_S A s.heap H locs) : ∀ U : State, U.heap = H → s.WarmedH U.vm → mPc D ca ad as S H.size (tS ad as).toArray U := by
  intro U hU hW
  have hAA : ∀ q, q < H.size → mA ad H.size q → A q := by
    intro q h1 h2
    rcases h2 with ⟨k, hk, rfl⟩ | h2
    · exact X.2.2.2.2.2.2.2.2.1.2 k hk
    · omega
  refine ⟨rfl, by rw [hU], by rw [hU]; exact hP, va_K.moved hW.alike X.2.2.2.2.2.2.2.1, ⟨X.2.2.2.2.2.2.2.2.1.1, fun i hi => Or.inl ⟨i, hi, rfl⟩⟩, ?_⟩
  rw [hU]
  exact mC_call X.2.2.2.2.2.2.2.2.2.2.1 hW (fun a h1 h2 => hS.2.1 a h1 h2) hAA
def oCallV (F : List Value → MS → Option MR) (ci na n : Nat) : MOp := fun k kr lv st S => match st.drop na with
  | .ref b :: w => bif kO b ci && Nat.ble (mcats w) 8 then (F (.ref b :: (st.take na).reverse) S).bind (fun r => k n lv (r.1.toList ++ w) r.2) else none
  | _ => none
def oCallS (F : List Value → MS → Option MR) (na n : Nat) : MOp := fun k kr lv st S => bif Nat.ble na st.length && Nat.ble (mcats (st.drop na)) 8 then (F (st.take na).reverse S).bind (fun r => k n lv (r.1.toList ++ st.drop na) r.2) else none
def oCallK (F : List Value → MS → Option MR) (na n : Nat) : MOp := fun k kr lv st S => match st.drop na with
  | .ref b :: w => bif (Nat.beq b 1003 || Nat.beq b 1004) && Nat.ble (mcats w) 8 then (F (.ref b :: (st.take na).reverse) S).bind (fun r => k n lv (r.1.toList ++ w) r.2) else none
  | _ => none
theorem mo_oCallV (F : List Value → MS → Option MR) (ci na n : Nat) : mMono (oCallV F ci na n) := by
  intro k k' kr r lv st S hk h
  unfold oCallV at h ⊢
  split at h
  · rename_i b w he
    cases h0 : (kO b ci && Nat.ble (mcats w) 8) with
    | false => rw [h0] at h; cases h
    | true =>
      rw [h0] at h
      simp only [cond_true] at h ⊢
      cases h1 : F (.ref b :: (st.take na).reverse) S with
      | none => rw [h1] at h; cases h
      | some q => rw [h1] at h; exact hk _ _ _ _ h
  · cases h
theorem mo_oCallK (F : List Value → MS → Option MR) (na n : Nat) : mMono (oCallK F na n) := by
  intro k k' kr r lv st S hk h
  unfold oCallK at h ⊢
  split at h
  · rename_i b w he
    cases h0 : ((Nat.beq b 1003 || Nat.beq b 1004) && Nat.ble (mcats w) 8) with
    | false => rw [h0] at h; cases h
    | true =>
      rw [h0] at h
      simp only [cond_true] at h ⊢
      cases h1 : F (.ref b :: (st.take na).reverse) S with
      | none => rw [h1] at h; cases h
      | some q => rw [h1] at h; exact hk _ _ _ _ h
  · cases h
theorem mo_oCallS (F : List Value → MS → Option MR) (na n : Nat) : mMono (oCallS F na n) := by
  intro k k' kr r lv st S hk h
  unfold oCallS at h ⊢
  cases h0 : (Nat.ble na st.length && Nat.ble (mcats (st.drop na)) 8) with
  | false => rw [h0] at h; cases h
  | true =>
    rw [h0] at h
    simp only [cond_true] at h ⊢
    cases h1 : F (st.take na).reverse S with
    | none => rw [h1] at h; cases h
    | some q => rw [h1] at h; exact hk _ _ _ _ h
theorem m_args {na : Nat} {st w : List Value} {b : Nat} (he : st.drop na = .ref b :: w) : tS ad st = (tS ad (st.take na).reverse).reverse ++ .ref (ad b) :: tS ad w ∧ (tS ad (st.take na).reverse).length = na := by
  have h1 : st.length - na = w.length + 1 := by
    have := congrArg List.length he
    rw [List.length_drop] at this
    exact this
  have h2 : st = st.take na ++ .ref b :: w := by rw [← he, List.take_append_drop]
  constructor
  · rw [← List.map_reverse, List.reverse_reverse]
    show tS ad st = tS ad (st.take na) ++ tS ad (.ref b :: w)
    rw [← List.map_append, ← h2]
  · rw [List.length_map, List.length_reverse, List.length_take]
    omega
theorem s_callV (X : mX p s m args meth c R cc nL own ret A D ca ad d) {y : MethodName} {bytes : ByteArray} {maxL : Nat} {rt : Option FieldType} {idx na : Nat} {F : List Value → MS → Option MR} (hF : ∀ as S r, F as S = some r → mCon l D ca ad d y bytes maxL rt as S r) (hw0 : Cond.code y bytes maxL rt ∈ mALL) (hw1 : Cond.methodLink own idx y ∈ mALL) {ci : Nat} {C : String} {T : u_T} {N : Nat} (hc : vwCl[ci]? = some (C, T, N)) (hw2 : Cond.instanceMethod y ∈ mALL) (hw3 : Cond.selects C y y ∈ mALL) (hw4 : Cond.initialized C ∈ mALL) (hd : y.cls = C ∧ y.cls ≠ "java/lang/invoke/MethodHandle" ∧ y.cls ≠ "java/lang/invoke/VarHandle" ∧ (parseMethodDescriptor y.desc).map (fun d => d.parameters.length) = some na) (hm : maxL ≤ 20) (hdg : decode cc pc = .ok (.invokevirtual idx, 3)) : mSnd (mAt p l e R s m args below meth c Q A D ca ad nL) J pc (oCallV F ci na (pc + 3)) := by
  intro k kr r lv st S hk hr h H locs ls hP hS hl
  unfold oCallV at h
  split at h
  · rename_i b w he
    cases h0 : (kO b ci && Nat.ble (mcats w) 8) with
    | false => rw [h0] at h; cases h
    | true =>
      rw [h0] at h
      simp only [cond_true] at h
      simp only [Bool.and_eq_true] at h0
      cases h1 : F (.ref b :: (st.take na).reverse) S with
      | none => rw [h1] at h; cases h
      | some q =>
        rw [h1] at h
        have hki := kO_ki h0.1
        have hlt := ki_lt hki (by decide)
        have h8 := Nat.le_of_ble_eq_true h0.2
        have f1 := X.2.2.2.2.2.2.2.2.2.2.2.1
        have f2 := X.2.2.2.2.2.2.2.2.2.2.2.2
        obtain ⟨a1, a2⟩ := m_args (ad := ad) he
        refine m_back X rfl (va_runV (As := tS ad (st.take na).reverse) (n := na) (b := ad b) (mc := 0) (ms := 0) ⟨X.1, X.2.1, X.2.2.1, X.2.2.2.1, X.2.2.2.2.1⟩ (hF _ _ _ h1 H.size) (cwV na X.2.2.2.2.1 (good_mALL ?_) rfl rfl rfl hd ⟨?_, ?_⟩) ⟨mPc_fb, va_recv (q0 := b) X.2.2.2.2.2.2.2.1 hP hc (by rw [mW_at hlt, mE_obj hki]), fun U hU hW => m_pre X hP hS U hU hW⟩ rfl a2 hl.1 a1 (by show 2 * 0 + _ ≤ 8; rw [mcats_eq]; omega) hdg ⟨Nat.zero_le _, Nat.zero_le _⟩) hS hl (hk _ _ _ _ h)
        · intro x hx
          unfold wsV at hx
          rcases List.mem_append.mp hx with hx | hx
          · simp only [List.mem_cons, List.not_mem_nil, or_false] at hx
            rcases hx with rfl | rfl | rfl | rfl
            · exact hw1
            · exact hw2
            · exact hw3
            · exact hw4
          · rcases List.mem_cons.mp hx with rfl | hx
            · exact hw0
            · exact hx
        · show d + 1 + 1 ≤ R.frames
          exact f1
        · show 8 + (maxL + 11) + 50 * (d + 1) ≤ R.locals
          omega
  · cases h
theorem s_callK (X : mX p s m args meth c R cc nL own ret A D ca ad d) {y : MethodName} {bytes : ByteArray} {maxL : Nat} {rt : Option FieldType} {idx na : Nat} {F : List Value → MS → Option MR} (hF : ∀ as S r, F as S = some r → mCon l D ca ad d y bytes maxL rt as S r) (hw0 : Cond.code y bytes maxL rt ∈ mALL) (hw1 : Cond.methodLink own idx y ∈ mALL) (hw2 : Cond.instanceMethod y ∈ mALL) (hw3 : Cond.selects "java/lang/String" y y ∈ mALL) (hw4 : Cond.initialized "java/lang/String" ∈ mALL) (hd : y.cls = "java/lang/String" ∧ y.cls ≠ "java/lang/invoke/MethodHandle" ∧ y.cls ≠ "java/lang/invoke/VarHandle" ∧ (parseMethodDescriptor y.desc).map (fun d => d.parameters.length) = some na) (hm : maxL ≤ 20) (hdg : decode cc pc = .ok (.invokevirtual idx, 3)) : mSnd (mAt p l e R s m args below meth c Q A D ca ad nL) J pc (oCallK F na (pc + 3)) := by
  intro k kr r lv st S hk hr h H locs ls hP hS hl
  have hs := X.2.2.2.2.2.2.2.2.2.2.1.2.2.2.2.2.1
  unfold oCallK at h
  split at h
  · rename_i b w he
    cases h0 : ((Nat.beq b 1003 || Nat.beq b 1004) && Nat.ble (mcats w) 8) with
    | false => rw [h0] at h; cases h
    | true =>
      rw [h0] at h
      simp only [cond_true] at h
      simp only [Bool.and_eq_true] at h0
      cases h1 : F (.ref b :: (st.take na).reverse) S with
      | none => rw [h1] at h; cases h
      | some q =>
        rw [h1] at h
        have h8 := Nat.le_of_ble_eq_true h0.2
        have f1 := X.2.2.2.2.2.2.2.2.2.2.2.1
        have f2 := X.2.2.2.2.2.2.2.2.2.2.2.2
        obtain ⟨a1, a2⟩ := m_args (ad := ad) he
        have hrc : ∃ cell : Cell, H[ad b]? = some cell ∧ cell.vm.isStatics = false ∧ s.vm.findClass "java/lang/String" = some cell.cls := by
          rcases Bool.or_eq_true_iff.mp h0.1 with h2 | h2
          · have e := Nat.eq_of_beq_eq_true h2
            subst e
            exact vk_recv (i := 0) hs (by decide) hS
          · have e := Nat.eq_of_beq_eq_true h2
            subst e
            exact vk_recv (i := 1) hs (by decide) hS
        refine m_back X rfl (va_runV (As := tS ad (st.take na).reverse) (n := na) (b := ad b) (mc := 0) (ms := 0) ⟨X.1, X.2.1, X.2.2.1, X.2.2.2.1, X.2.2.2.2.1⟩ (hF _ _ _ h1 H.size) (cwV na X.2.2.2.2.1 (good_mALL ?_) rfl rfl rfl hd ⟨?_, ?_⟩) ⟨mPc_fb, hrc, fun U hU hW => m_pre X hP hS U hU hW⟩ rfl a2 hl.1 a1 (by show 2 * 0 + _ ≤ 8; rw [mcats_eq]; omega) hdg ⟨Nat.zero_le _, Nat.zero_le _⟩) hS hl (hk _ _ _ _ h)
        · intro x hx
          unfold wsV at hx
          rcases List.mem_append.mp hx with hx | hx
          · simp only [List.mem_cons, List.not_mem_nil, or_false] at hx
            rcases hx with rfl | rfl | rfl | rfl
            · exact hw1
            · exact hw2
            · exact hw3
            · exact hw4
          · rcases List.mem_cons.mp hx with rfl | hx
            · exact hw0
            · exact hx
        · show d + 1 + 1 ≤ R.frames
          exact f1
        · show 8 + (maxL + 11) + 50 * (d + 1) ≤ R.locals
          omega
  · cases h
theorem s_callS (X : mX p s m args meth c R cc nL own ret A D ca ad d) {y : MethodName} {bytes : ByteArray} {maxL : Nat} {rt : Option FieldType} {idx na : Nat} {F : List Value → MS → Option MR} (hF : ∀ as S r, F as S = some r → mCon l D ca ad d y bytes maxL rt as S r) (hw0 : Cond.code y bytes maxL rt ∈ mALL) (hw1 : Cond.methodLink own idx y ∈ mALL) (hw2 : Cond.static y ∈ mALL) (hw4 : Cond.initialized y.cls ∈ mALL) (hd : y.cls ≠ "java/lang/invoke/MethodHandle" ∧ y.cls ≠ "java/lang/invoke/VarHandle" ∧ (parseMethodDescriptor y.desc).map (fun d => d.parameters.length) = some na) (hm : maxL ≤ 20) (hdg : decode cc pc = .ok (.invokestatic idx, 3)) : mSnd (mAt p l e R s m args below meth c Q A D ca ad nL) J pc (oCallS F na (pc + 3)) := by
  intro k kr r lv st S hk hr h H locs ls hP hS hl
  unfold oCallS at h
  cases h0 : (Nat.ble na st.length && Nat.ble (mcats (st.drop na)) 8) with
  | false => rw [h0] at h; cases h
  | true =>
    rw [h0] at h
    simp only [cond_true] at h
    simp only [Bool.and_eq_true] at h0
    cases h1 : F (st.take na).reverse S with
    | none => rw [h1] at h; cases h
    | some q =>
      rw [h1] at h
      have h7 := Nat.le_of_ble_eq_true h0.1
      have h8 := Nat.le_of_ble_eq_true h0.2
      have f1 := X.2.2.2.2.2.2.2.2.2.2.2.1
      have f2 := X.2.2.2.2.2.2.2.2.2.2.2.2
      have a2 : (tS ad (st.take na).reverse).length = na := by
        rw [List.length_map, List.length_reverse, List.length_take]
        omega
      have a1 : tS ad st = (tS ad (st.take na).reverse).reverse ++ tS ad (st.drop na) := by
        rw [← List.map_reverse, List.reverse_reverse, ← List.map_append, List.take_append_drop]
      refine m_back X rfl (va_runS (As := tS ad (st.take na).reverse) (n := na) (mc := 0) (ms := 0) ⟨X.1, X.2.1, X.2.2.1, X.2.2.2.1, X.2.2.2.2.1⟩ (hF _ _ _ h1 H.size) ⟨callB_of na X.2.2.2.2.1 (good_mALL ?_) rfl rfl rfl (X.2.2.2.2.1 _ hw4) (X.2.2.2.2.1 _ hw1) hd ⟨?_, ?_⟩, X.2.2.2.2.1 _ hw2⟩ ⟨mPc_fb, fun U hU hW => m_pre X hP hS U hU hW⟩ rfl a2 hl.1 a1 (by show 2 * 0 + _ ≤ 8; rw [mcats_eq]; omega) hdg ⟨Nat.zero_le _, Nat.zero_le _⟩) hS hl (hk _ _ _ _ h)
      · intro x hx
        rcases List.mem_cons.mp hx with rfl | hx
        · exact hw0
        · exact hx
      · show d + 1 + 1 ≤ R.frames
        exact f1
      · show 8 + (maxL + 11) + 50 * (d + 1) ≤ R.locals
        omega
end
/-- what it means that the method may end here -/
def mJ (p : Program) (l : Launch) (e : Env) (R : Room) (s : State) (m : MethodId) (args : Array Value) (below : List Frame) (meth : Method) (c : Code) (Q : State → Prop) (A : Nat → Prop) (D : va_G) (ca : Nat → ClassId) (ad : Nat → Nat) (cc : ByteArray) (ret : Option FieldType) (v : Option Value) (S : MS) : Prop :=
  ∀ (pc : Nat) (H : Heap) (locs : List Loc) (ls : Array Slot), va_P D vwCl (mW ad ca S) H → va_S A s.heap H locs → (v = none → ret = none → decode cc pc = .ok (.return_, 1) → W p l e R s m args below meth c H locs 0 0 Q (F0 m pc ls [])) ∧ (∀ x, v = some (.int x) → decode cc pc = .ok (.ireturn, 1) → (∃ ty, ret = some ty ∧ narrow ty (.int x) = .int x) → W p l e R s m args below meth c H locs 0 0 Q (F0 m pc ls [.int x]))
section
variable {p : Program} {l : Launch} {e : Env} {R : Room} {s : State} {m : MethodId} {args : Array Value} {below : List Frame} {meth : Method} {c : Code} {Q : State → Prop} {A : Nat → Prop} {D : va_G} {ca : Nat → ClassId} {ad : Nat → Nat} {nL d pc : Nat} {cc : ByteArray} {own : String} {ret : Option FieldType} {J : Option Value → MS → Prop}
def oIret : MOp := fun k kr lv st S => match st with
  | [.int x] => kr (some (.int x)) S
  | _ => none
def oZret : MOp := fun k kr lv st S => match st with
  | [.int x] => if x = 0 ∨ x = 1 then kr (some (.int x)) S else none
  | _ => none
def oVret : MOp := fun k kr lv st S => match st with
  | [] => kr none S
  | _ => none
theorem mo_oIret : mMono (oIret) := by
  intro k k' kr r lv st S hk h
  exact h
theorem mo_oZret : mMono (oZret) := by
  intro k k' kr r lv st S hk h
  exact h
theorem mo_oVret : mMono (oVret) := by
  intro k k' kr r lv st S hk h
  exact h
theorem s_ireturn (hret : ret = some .int) (hdg : decode cc pc = .ok (.ireturn, 1)) : mSnd (mAt p l e R s m args below meth c Q A D ca ad nL) (mJ p l e R s m args below meth c Q A D ca ad cc ret) pc oIret := by
  intro k kr r lv st S hk hr h H locs ls hP hS hl
  unfold oIret at h
  split at h
  · exact ((hr _ _ h) pc H locs ls hP hS).2 _ rfl hdg ⟨_, hret, rfl⟩
  · cases h
theorem s_zreturn (hret : ret = some .boolean) (hdg : decode cc pc = .ok (.ireturn, 1)) : mSnd (mAt p l e R s m args below meth c Q A D ca ad nL) (mJ p l e R s m args below meth c Q A D ca ad cc ret) pc oZret := by
  intro k kr r lv st S hk hr h H locs ls hP hS hl
  unfold oZret at h
  split at h
  · split at h
    · rename_i hy
      exact ((hr _ _ h) pc H locs ls hP hS).2 _ rfl hdg ⟨_, hret, by rcases hy with rfl | rfl <;> decide⟩
    · cases h
  · cases h
theorem s_return (hret : ret = none) (hdg : decode cc pc = .ok (.return_, 1)) : mSnd (mAt p l e R s m args below meth c Q A D ca ad nL) (mJ p l e R s m args below meth c Q A D ca ad cc ret) pc oVret := by
  intro k kr r lv st S hk hr h H locs ls hP hS hl
  unfold oVret at h
  split at h
  · exact ((hr _ _ h) pc H locs ls hP hS).1 rfl hret hdg
  · cases h
end
end
section
/-! ===== runs of a table of ops; a method's value; its contract ===== -/
def mlook : List (Nat × MOp) → Nat → Option MOp
  | [], _ => none
  | q :: l, i => bif Nat.beq q.1 i then some q.2 else mlook l i
def mrun (code : List (Nat × MOp)) : Nat → MK
  | 0 => fun _ _ _ _ => none
  | n + 1 => fun pc lv st S => match mlook code pc with
    | some op => op (mrun code n) (fun v S => some (v, S)) lv st S
    | none => none
theorem mlook_mem {code : List (Nat × MOp)} {pc : Nat} {op : MOp} (h : mlook code pc = some op) : (pc, op) ∈ code := by
  induction code with
  | nil => cases h
  | cons q l ih =>
    unfold mlook at h
    cases hb : Nat.beq q.1 pc with
    | true =>
      rw [hb] at h
      have h1 : q.2 = op := Option.some.inj h
      have h2 : q.1 = pc := Nat.eq_of_beq_eq_true hb
      rw [← h1, ← h2]
      exact List.mem_cons_self
    | false => rw [hb] at h; exact List.mem_cons_of_mem _ (ih h)
theorem mrun_step {code : List (Nat × MOp)} (hc : ∀ q ∈ code, mMono q.2) : ∀ (n pc : Nat) (lv : ML) (st : List Value) (S : MS) (r : MR), mrun code n pc lv st S = some r → mrun code (n + 1) pc lv st S = some r := by
  intro n
  induction n with
  | zero => intro pc lv st S r h; cases h
  | succ n ih =>
    intro pc lv st S r h
    rw [mrun] at h ⊢
    dsimp only at h ⊢
    cases ho : mlook code pc with
    | none => rw [ho] at h; cases h
    | some op =>
      rw [ho] at h
      exact hc _ (mlook_mem ho) _ _ _ _ _ _ _ (fun a b c' d' z => ih a b c' d' r z) h
theorem mrun_le {code : List (Nat × MOp)} (hc : ∀ q ∈ code, mMono q.2) {n n' pc : Nat} {lv : ML} {st : List Value} {S : MS} {r : MR} (hn : n ≤ n') (h : mrun code n pc lv st S = some r) : mrun code n' pc lv st S = some r := by
  obtain ⟨k, rfl⟩ := Nat.exists_eq_add_of_le hn
  clear hn
  induction k with
  | zero => exact h
  | succ k ih => exact mrun_step hc _ _ _ _ _ _ ih
theorem mrun_snd {T : Nat → ML → List Value → MS → Prop} {J : Option Value → MS → Prop} {code : List (Nat × MOp)} (hc : ∀ q ∈ code, mSnd T J q.1 q.2) {r : MR} (hr : J r.1 r.2) : ∀ (n pc : Nat) (lv : ML) (st : List Value) (S : MS), mrun code n pc lv st S = some r → T pc lv st S := by
  intro n
  induction n with
  | zero => intro pc lv st S h; cases h
  | succ n ih =>
    intro pc lv st S h
    rw [mrun] at h
    dsimp only at h
    cases ho : mlook code pc with
    | none => rw [ho] at h; cases h
    | some op =>
      rw [ho] at h
      exact hc _ (mlook_mem ho) _ _ r lv st S (fun a b c' d' z => ih a b c' d' z) (fun v S' z => by cases z; exact hr) h
noncomputable def mval (code : List (Nat × MOp)) (lv : ML) (S : MS) : Option MR :=
  @dite _ (∃ n, (mrun code n 0 lv [] S).isSome = true) (Classical.propDecidable _) (fun h => mrun code h.choose 0 lv [] S) (fun _ => none)
theorem mval_ex {code : List (Nat × MOp)} {lv : ML} {S : MS} {r : MR} (h : mval code lv S = some r) : ∃ n, mrun code n 0 lv [] S = some r := by
  unfold mval at h
  split at h
  · exact ⟨_, h⟩
  · cases h
theorem mval_of {code : List (Nat × MOp)} (hc : ∀ q ∈ code, mMono q.2) {lv : ML} {S : MS} {r : MR} {n : Nat} (h : mrun code n 0 lv [] S = some r) : mval code lv S = some r := by
  have hx : ∃ n, (mrun code n 0 lv [] S).isSome = true := ⟨n, by rw [h]; rfl⟩
  unfold mval
  rw [dif_pos hx]
  have h1 := hx.choose_spec
  cases h2 : mrun code hx.choose 0 lv [] S with
  | none => rw [h2] at h1; cases h1
  | some q =>
    have a := mrun_le hc (Nat.le_max_left n hx.choose) h
    have b := mrun_le hc (Nat.le_max_right n hx.choose) h2
    rw [a] at b
    exact b.symm
theorem lg_len (ad : Nat → Nat) (as : List Value) : (lg_sl (tS ad as)).length = mcats as := by
  induction as with
  | nil => rfl
  | cons v t ih =>
    show (lg_sl (tV ad v :: tS ad t)).length = v.category + mcats t
    have e : lg_sl (tV ad v :: tS ad t) = (if (tV ad v).category = 2 then [Slot.val (tV ad v), Slot.second] else [Slot.val (tV ad v)]) ++ lg_sl (tS ad t) := by
      unfold lg_sl
      rw [List.flatMap_cons]
    rw [e, List.length_append, ih, tV_cat]
    rcases lv_cat v with h | h
    · rw [h]; rfl
    · rw [h]; rfl
theorem lv_args_t (ad : Nat → Nat) : ∀ (as : List Value) (i : Nat), lv_args i (tS ad as) = tL ad (lv_args i as) := by
  intro as
  induction as with
  | nil => intro i; rfl
  | cons v t ih =>
    intro i
    show (i, tV ad v) :: lv_args (if (tV ad v).category = 2 then i + 2 else i + 1) (tS ad t) = (i, tV ad v) :: tL ad (lv_args (if v.category = 2 then i + 2 else i + 1) t)
    rw [tV_cat, ih]
/-- a method's contract out of a run of its table -/
theorem mCon_of {l : Launch} {D : va_G} {ca : Nat → ClassId} {ad : Nat → Nat} {d : Nat} {y : MethodName} {bytes : ByteArray} {maxL : Nat} {rt : Option FieldType} {as : List Value} {S : MS} {r : MR} {own : String} {code : List (Nat × MOp)} (hy : plainName y.cls = true) (ho : y.cls = own) (hlen : mcats as ≤ maxL)
    (hsnd : ∀ (p : Program) (e : Env) (R : Room) (s : State) (m : MethodId) (args : Array Value) (below : List Frame) (meth : Method) (c : Code) (Q : State → Prop) (A : Nat → Prop), mX p s m args meth c R bytes maxL own rt A D ca ad d → ∀ q ∈ code, mSnd (mAt p l e R s m args below meth c Q A D ca ad maxL) (mJ p l e R s m args below meth c Q A D ca ad bytes rt) q.1 q.2)
    (h : ∃ n, mrun code n 0 (lv_args 0 as) [] S = some r) : mCon l D ca ad (d + 1) y bytes maxL rt as S r := by
  intro sz
  refine Met.ofW (cc := bytes) (maxL := maxL) (ret := rt) hy rfl ?_
  intro p e s m args below meth c s₁ B hml hv
  obtain ⟨ha, hsz, hP, hK, hDD, hCC⟩ := hv
  have hx := B.exec
  have hb := B.bytes
  have hr := B.returns
  have hts := atoms_spec (ws := Cond.code y bytes maxL rt :: mALL) B.pre
  have hown : s.vm.findClass own = some m.cls := ho ▸ findClass_of_methodNamed B.named
  have hlocks := B.notSynchronized
  rw [hsz] at hDD hCC
  have X : mX p s m args meth c (mR (d + 1)) bytes maxL own rt (mA ad sz) D ca ad d := ⟨hx, hb, hml, hown, fun w hw => hts w (List.mem_cons_of_mem _ hw), hlocks, hr, hK, hDD, fun q hq => Or.inr (hsz ▸ hq), hCC, Nat.le_refl _, Nat.le_refl _⟩
  obtain ⟨n, hn⟩ := h
  have hJ : mJ p l e (mR (d + 1)) s m args below meth c (MQ below (mQc D ca ad r sz) args s 0 0 (mA ad sz)) (mA ad sz) D ca ad bytes rt r.1 r.2 := by
    intro pc H locs ls hP1 hS1
    refine ⟨fun hv hrt hdg => ?_, fun x hv hdg hty => ?_⟩
    · exact W.vret hx hb (hr.trans hrt) (fun t ht _ => ⟨by rw [hv]; rfl, by rw [ht]; exact hP1, va_S.F hS1 ht⟩) hS1.2.2 hdg hlocks
    · obtain ⟨ty, h1, h2⟩ := hty
      exact W.zret hx hb (hr.trans h1) h2 (fun t ht _ => ⟨by rw [hv]; rfl, by rw [ht]; exact hP1, va_S.F hS1 ht⟩) hS1.2.2 hdg hlocks
  have hT := mrun_snd (hsnd p e (mR (d + 1)) s m args below meth c (MQ below (mQc D ca ad r sz) args s 0 0 (mA ad sz)) (mA ad sz) X) hJ n 0 (lv_args 0 as) [] S hn
  have hl := lv_entry (tS ad as) (n := maxL) (by rw [lg_len]; exact hlen)
  rw [lv_args_t] at hl
  subst ha
  rw [lg_entry_eq]
  exact hT s.heap [] _ hP va_S.rf hl
end
