-- ===== PART A: goes FIRST, ahead of the names: the tables' words, and 'selects' of the private methods out of them =====
/-- a private method of a class that the tables say can be made, by its rows of tables_1 -/
def lw_okq (q : MethodName × Nat) : Prop := (q.1.cls ≠ "java/lang/invoke/MethodHandle" ∧ q.1.cls ≠ "java/lang/invoke/VarHandle") ∧ Cond.instantiable q.1.cls q.2 ∈ tables_1 ∧ Cond.privateMethod q.1 ∈ tables_1 ∧ Cond.instanceMethod q.1 ∈ tables_1
theorem lw_p0 : lw_okq (⟨"CharadePost$Reader", "readItem", "(LCharadePost$Board;LCharadePost$Scene;)Z"⟩, 3) := ⟨⟨by decide +kernel, by decide +kernel⟩, List.mem_of_getElem? (i := 108) (by decide +kernel), List.mem_of_getElem? (i := 264) (by decide +kernel), List.mem_of_getElem? (i := 265) (by decide +kernel)⟩
theorem lw_p1 : lw_okq (⟨"CharadePost$Reader", "peek", "()I"⟩, 3) := ⟨⟨by decide +kernel, by decide +kernel⟩, List.mem_of_getElem? (i := 108) (by decide +kernel), List.mem_of_getElem? (i := 268) (by decide +kernel), List.mem_of_getElem? (i := 269) (by decide +kernel)⟩
theorem lw_p2 : lw_okq (⟨"CharadePost$Reader", "readWord", "(LCharadePost$Board;)Z"⟩, 3) := ⟨⟨by decide +kernel, by decide +kernel⟩, List.mem_of_getElem? (i := 108) (by decide +kernel), List.mem_of_getElem? (i := 272) (by decide +kernel), List.mem_of_getElem? (i := 273) (by decide +kernel)⟩
theorem lw_p3 : lw_okq (⟨"CharadePost$Reader", "number", "(II)I"⟩, 3) := ⟨⟨by decide +kernel, by decide +kernel⟩, List.mem_of_getElem? (i := 108) (by decide +kernel), List.mem_of_getElem? (i := 276) (by decide +kernel), List.mem_of_getElem? (i := 277) (by decide +kernel)⟩
theorem lw_p4 : lw_okq (⟨"CharadePost$Reader", "passes", "(I)Z"⟩, 3) := ⟨⟨by decide +kernel, by decide +kernel⟩, List.mem_of_getElem? (i := 108) (by decide +kernel), List.mem_of_getElem? (i := 283) (by decide +kernel), List.mem_of_getElem? (i := 284) (by decide +kernel)⟩
theorem lw_p5 : lw_okq (⟨"CharadePost$Reader", "readLikeness", "(LCharadePost$Board;)Z"⟩, 3) := ⟨⟨by decide +kernel, by decide +kernel⟩, List.mem_of_getElem? (i := 108) (by decide +kernel), List.mem_of_getElem? (i := 291) (by decide +kernel), List.mem_of_getElem? (i := 292) (by decide +kernel)⟩
theorem lw_p6 : lw_okq (⟨"CharadePost$Reader", "readForbidden", "(LCharadePost$Board;)Z"⟩, 3) := ⟨⟨by decide +kernel, by decide +kernel⟩, List.mem_of_getElem? (i := 108) (by decide +kernel), List.mem_of_getElem? (i := 303) (by decide +kernel), List.mem_of_getElem? (i := 304) (by decide +kernel)⟩
theorem lw_p7 : lw_okq (⟨"CharadePost$Reader", "readHabit", "(LCharadePost$Board;)Z"⟩, 3) := ⟨⟨by decide +kernel, by decide +kernel⟩, List.mem_of_getElem? (i := 108) (by decide +kernel), List.mem_of_getElem? (i := 311) (by decide +kernel), List.mem_of_getElem? (i := 312) (by decide +kernel)⟩
theorem lw_p8 : lw_okq (⟨"CharadePost$Reader", "readPrice", "(LCharadePost$Board;)Z"⟩, 3) := ⟨⟨by decide +kernel, by decide +kernel⟩, List.mem_of_getElem? (i := 108) (by decide +kernel), List.mem_of_getElem? (i := 319) (by decide +kernel), List.mem_of_getElem? (i := 320) (by decide +kernel)⟩
theorem lw_p9 : lw_okq (⟨"CharadePost$Reader", "readActor", "(LCharadePost$Board;LCharadePost$Scene;)Z"⟩, 3) := ⟨⟨by decide +kernel, by decide +kernel⟩, List.mem_of_getElem? (i := 108) (by decide +kernel), List.mem_of_getElem? (i := 327) (by decide +kernel), List.mem_of_getElem? (i := 328) (by decide +kernel)⟩
theorem lw_p10 : lw_okq (⟨"CharadePost", "isWord", "(I)Z"⟩, 13) := ⟨⟨by decide +kernel, by decide +kernel⟩, List.mem_of_getElem? (i := 19) (by decide +kernel), List.mem_of_getElem? (i := 422) (by decide +kernel), List.mem_of_getElem? (i := 423) (by decide +kernel)⟩
theorem lw_p11 : lw_okq (⟨"CharadePost$Board", "isIn", "(II)Z"⟩, 10) := ⟨⟨by decide +kernel, by decide +kernel⟩, List.mem_of_getElem? (i := 27) (by decide +kernel), List.mem_of_getElem? (i := 442) (by decide +kernel), List.mem_of_getElem? (i := 443) (by decide +kernel)⟩
theorem lw_p12 : lw_okq (⟨"CharadePost", "isSign", "(I)Z"⟩, 13) := ⟨⟨by decide +kernel, by decide +kernel⟩, List.mem_of_getElem? (i := 19) (by decide +kernel), List.mem_of_getElem? (i := 450) (by decide +kernel), List.mem_of_getElem? (i := 451) (by decide +kernel)⟩
theorem lw_p13 : lw_okq (⟨"CharadePost", "isActor", "(I)Z"⟩, 13) := ⟨⟨by decide +kernel, by decide +kernel⟩, List.mem_of_getElem? (i := 19) (by decide +kernel), List.mem_of_getElem? (i := 466) (by decide +kernel), List.mem_of_getElem? (i := 467) (by decide +kernel)⟩
theorem lw_p14 : lw_okq (⟨"CharadePost", "showSign", "(LCharadePost$Scene;II)I"⟩, 13) := ⟨⟨by decide +kernel, by decide +kernel⟩, List.mem_of_getElem? (i := 19) (by decide +kernel), List.mem_of_getElem? (i := 500) (by decide +kernel), List.mem_of_getElem? (i := 501) (by decide +kernel)⟩
theorem lw_p15 : lw_okq (⟨"CharadePost", "guessWord", "(LCharadePost$Scene;I)I"⟩, 13) := ⟨⟨by decide +kernel, by decide +kernel⟩, List.mem_of_getElem? (i := 19) (by decide +kernel), List.mem_of_getElem? (i := 514) (by decide +kernel), List.mem_of_getElem? (i := 515) (by decide +kernel)⟩
def lw_privs_1 : List (MethodName × Nat) := [(⟨"CharadePost$Reader", "readItem", "(LCharadePost$Board;LCharadePost$Scene;)Z"⟩, 3), (⟨"CharadePost$Reader", "peek", "()I"⟩, 3), (⟨"CharadePost$Reader", "readWord", "(LCharadePost$Board;)Z"⟩, 3), (⟨"CharadePost$Reader", "number", "(II)I"⟩, 3), (⟨"CharadePost$Reader", "passes", "(I)Z"⟩, 3), (⟨"CharadePost$Reader", "readLikeness", "(LCharadePost$Board;)Z"⟩, 3), (⟨"CharadePost$Reader", "readForbidden", "(LCharadePost$Board;)Z"⟩, 3), (⟨"CharadePost$Reader", "readHabit", "(LCharadePost$Board;)Z"⟩, 3), (⟨"CharadePost$Reader", "readPrice", "(LCharadePost$Board;)Z"⟩, 3), (⟨"CharadePost$Reader", "readActor", "(LCharadePost$Board;LCharadePost$Scene;)Z"⟩, 3), (⟨"CharadePost", "isWord", "(I)Z"⟩, 13), (⟨"CharadePost$Board", "isIn", "(II)Z"⟩, 10), (⟨"CharadePost", "isSign", "(I)Z"⟩, 13), (⟨"CharadePost", "isActor", "(I)Z"⟩, 13), (⟨"CharadePost", "showSign", "(LCharadePost$Scene;II)I"⟩, 13), (⟨"CharadePost", "guessWord", "(LCharadePost$Scene;I)I"⟩, 13)]
theorem lw_r1 : ∀ q ∈ lw_privs_1, lw_okq q := List.forall_mem_cons.mpr ⟨lw_p0, List.forall_mem_cons.mpr ⟨lw_p1, List.forall_mem_cons.mpr ⟨lw_p2, List.forall_mem_cons.mpr ⟨lw_p3, List.forall_mem_cons.mpr ⟨lw_p4, List.forall_mem_cons.mpr ⟨lw_p5, List.forall_mem_cons.mpr ⟨lw_p6, List.forall_mem_cons.mpr ⟨lw_p7, List.forall_mem_cons.mpr ⟨lw_p8, List.forall_mem_cons.mpr ⟨lw_p9, List.forall_mem_cons.mpr ⟨lw_p10, List.forall_mem_cons.mpr ⟨lw_p11, List.forall_mem_cons.mpr ⟨lw_p12, List.forall_mem_cons.mpr ⟨lw_p13, List.forall_mem_cons.mpr ⟨lw_p14, List.forall_mem_cons.mpr ⟨lw_p15, fun _ h => absurd h List.not_mem_nil⟩⟩⟩⟩⟩⟩⟩⟩⟩⟩⟩⟩⟩⟩⟩⟩
theorem lw_p16 : lw_okq (⟨"CharadePost$Search", "weighAtFirst", "(LCharadePost$Board;LCharadePost$Scene;I)V"⟩, 9) := ⟨⟨by decide +kernel, by decide +kernel⟩, List.mem_of_getElem? (i := 124) (by decide +kernel), List.mem_of_getElem? (i := 605) (by decide +kernel), List.mem_of_getElem? (i := 606) (by decide +kernel)⟩
theorem lw_p17 : lw_okq (⟨"CharadePost$Search", "findFree", "(LCharadePost$Board;I)V"⟩, 9) := ⟨⟨by decide +kernel, by decide +kernel⟩, List.mem_of_getElem? (i := 124) (by decide +kernel), List.mem_of_getElem? (i := 614) (by decide +kernel), List.mem_of_getElem? (i := 615) (by decide +kernel)⟩
theorem lw_p18 : lw_okq (⟨"CharadePost$Search", "judge", "(I)V"⟩, 9) := ⟨⟨by decide +kernel, by decide +kernel⟩, List.mem_of_getElem? (i := 124) (by decide +kernel), List.mem_of_getElem? (i := 621) (by decide +kernel), List.mem_of_getElem? (i := 622) (by decide +kernel)⟩
theorem lw_p19 : lw_okq (⟨"CharadePost$Search", "heaviest", "(I)I"⟩, 9) := ⟨⟨by decide +kernel, by decide +kernel⟩, List.mem_of_getElem? (i := 124) (by decide +kernel), List.mem_of_getElem? (i := 625) (by decide +kernel), List.mem_of_getElem? (i := 626) (by decide +kernel)⟩
theorem lw_p20 : lw_okq (⟨"CharadePost$Search", "freeAt", "(I)I"⟩, 9) := ⟨⟨by decide +kernel, by decide +kernel⟩, List.mem_of_getElem? (i := 124) (by decide +kernel), List.mem_of_getElem? (i := 629) (by decide +kernel), List.mem_of_getElem? (i := 630) (by decide +kernel)⟩
theorem lw_p21 : lw_okq (⟨"CharadePost$Search", "tryRows", "(I)V"⟩, 9) := ⟨⟨by decide +kernel, by decide +kernel⟩, List.mem_of_getElem? (i := 124) (by decide +kernel), List.mem_of_getElem? (i := 633) (by decide +kernel), List.mem_of_getElem? (i := 634) (by decide +kernel)⟩
theorem lw_p22 : lw_okq (⟨"CharadePost$Search", "multiply", "(II)V"⟩, 9) := ⟨⟨by decide +kernel, by decide +kernel⟩, List.mem_of_getElem? (i := 124) (by decide +kernel), List.mem_of_getElem? (i := 637) (by decide +kernel), List.mem_of_getElem? (i := 638) (by decide +kernel)⟩
theorem lw_p23 : lw_okq (⟨"CharadePost", "mostTelling", "(I)I"⟩, 13) := ⟨⟨by decide +kernel, by decide +kernel⟩, List.mem_of_getElem? (i := 19) (by decide +kernel), List.mem_of_getElem? (i := 654) (by decide +kernel), List.mem_of_getElem? (i := 655) (by decide +kernel)⟩
theorem lw_p24 : lw_okq (⟨"CharadePost", "weightBesides", "(III)I"⟩, 13) := ⟨⟨by decide +kernel, by decide +kernel⟩, List.mem_of_getElem? (i := 19) (by decide +kernel), List.mem_of_getElem? (i := 658) (by decide +kernel), List.mem_of_getElem? (i := 659) (by decide +kernel)⟩
theorem lw_p25 : lw_okq (⟨"CharadePost$Deal", "firstOfBest", "(I)I"⟩, 6) := ⟨⟨by decide +kernel, by decide +kernel⟩, List.mem_of_getElem? (i := 158) (by decide +kernel), List.mem_of_getElem? (i := 695) (by decide +kernel), List.mem_of_getElem? (i := 696) (by decide +kernel)⟩
theorem lw_p26 : lw_okq (⟨"CharadePost$Deal", "sumWith", "(II)I"⟩, 6) := ⟨⟨by decide +kernel, by decide +kernel⟩, List.mem_of_getElem? (i := 158) (by decide +kernel), List.mem_of_getElem? (i := 699) (by decide +kernel), List.mem_of_getElem? (i := 700) (by decide +kernel)⟩
theorem lw_p27 : lw_okq (⟨"CharadePost", "fewestForWanted", "(I)I"⟩, 13) := ⟨⟨by decide +kernel, by decide +kernel⟩, List.mem_of_getElem? (i := 19) (by decide +kernel), List.mem_of_getElem? (i := 721) (by decide +kernel), List.mem_of_getElem? (i := 722) (by decide +kernel)⟩
theorem lw_p28 : lw_okq (⟨"CharadePost", "playDraw", "(I)V"⟩, 13) := ⟨⟨by decide +kernel, by decide +kernel⟩, List.mem_of_getElem? (i := 19) (by decide +kernel), List.mem_of_getElem? (i := 792) (by decide +kernel), List.mem_of_getElem? (i := 793) (by decide +kernel)⟩
theorem lw_p29 : lw_okq (⟨"CharadePost", "howMany", "(LCharadePost$Scene;I)I"⟩, 13) := ⟨⟨by decide +kernel, by decide +kernel⟩, List.mem_of_getElem? (i := 19) (by decide +kernel), List.mem_of_getElem? (i := 796) (by decide +kernel), List.mem_of_getElem? (i := 797) (by decide +kernel)⟩
theorem lw_p30 : lw_okq (⟨"CharadePost", "sumOf", "(LCharadePost$Scene;I)I"⟩, 13) := ⟨⟨by decide +kernel, by decide +kernel⟩, List.mem_of_getElem? (i := 19) (by decide +kernel), List.mem_of_getElem? (i := 800) (by decide +kernel), List.mem_of_getElem? (i := 801) (by decide +kernel)⟩
theorem lw_p31 : lw_okq (⟨"CharadePostModel", "begins", "()V"⟩, 25) := ⟨⟨by decide +kernel, by decide +kernel⟩, List.mem_of_getElem? (i := 820) (by decide +kernel), List.mem_of_getElem? (i := 832) (by decide +kernel), List.mem_of_getElem? (i := 833) (by decide +kernel)⟩
def lw_privs_2 : List (MethodName × Nat) := [(⟨"CharadePost$Search", "weighAtFirst", "(LCharadePost$Board;LCharadePost$Scene;I)V"⟩, 9), (⟨"CharadePost$Search", "findFree", "(LCharadePost$Board;I)V"⟩, 9), (⟨"CharadePost$Search", "judge", "(I)V"⟩, 9), (⟨"CharadePost$Search", "heaviest", "(I)I"⟩, 9), (⟨"CharadePost$Search", "freeAt", "(I)I"⟩, 9), (⟨"CharadePost$Search", "tryRows", "(I)V"⟩, 9), (⟨"CharadePost$Search", "multiply", "(II)V"⟩, 9), (⟨"CharadePost", "mostTelling", "(I)I"⟩, 13), (⟨"CharadePost", "weightBesides", "(III)I"⟩, 13), (⟨"CharadePost$Deal", "firstOfBest", "(I)I"⟩, 6), (⟨"CharadePost$Deal", "sumWith", "(II)I"⟩, 6), (⟨"CharadePost", "fewestForWanted", "(I)I"⟩, 13), (⟨"CharadePost", "playDraw", "(I)V"⟩, 13), (⟨"CharadePost", "howMany", "(LCharadePost$Scene;I)I"⟩, 13), (⟨"CharadePost", "sumOf", "(LCharadePost$Scene;I)I"⟩, 13), (⟨"CharadePostModel", "begins", "()V"⟩, 25)]
theorem lw_r2 : ∀ q ∈ lw_privs_2, lw_okq q := List.forall_mem_cons.mpr ⟨lw_p16, List.forall_mem_cons.mpr ⟨lw_p17, List.forall_mem_cons.mpr ⟨lw_p18, List.forall_mem_cons.mpr ⟨lw_p19, List.forall_mem_cons.mpr ⟨lw_p20, List.forall_mem_cons.mpr ⟨lw_p21, List.forall_mem_cons.mpr ⟨lw_p22, List.forall_mem_cons.mpr ⟨lw_p23, List.forall_mem_cons.mpr ⟨lw_p24, List.forall_mem_cons.mpr ⟨lw_p25, List.forall_mem_cons.mpr ⟨lw_p26, List.forall_mem_cons.mpr ⟨lw_p27, List.forall_mem_cons.mpr ⟨lw_p28, List.forall_mem_cons.mpr ⟨lw_p29, List.forall_mem_cons.mpr ⟨lw_p30, List.forall_mem_cons.mpr ⟨lw_p31, fun _ h => absurd h List.not_mem_nil⟩⟩⟩⟩⟩⟩⟩⟩⟩⟩⟩⟩⟩⟩⟩⟩
theorem lw_p32 : lw_okq (⟨"CharadePostModel", "reads", "()I"⟩, 25) := ⟨⟨by decide +kernel, by decide +kernel⟩, List.mem_of_getElem? (i := 820) (by decide +kernel), List.mem_of_getElem? (i := 929) (by decide +kernel), List.mem_of_getElem? (i := 930) (by decide +kernel)⟩
theorem lw_p33 : lw_okq (⟨"CharadePostModel", "readsItem", "()Z"⟩, 25) := ⟨⟨by decide +kernel, by decide +kernel⟩, List.mem_of_getElem? (i := 820) (by decide +kernel), List.mem_of_getElem? (i := 933) (by decide +kernel), List.mem_of_getElem? (i := 934) (by decide +kernel)⟩
theorem lw_p34 : lw_okq (⟨"CharadePostModel", "here", "()I"⟩, 25) := ⟨⟨by decide +kernel, by decide +kernel⟩, List.mem_of_getElem? (i := 820) (by decide +kernel), List.mem_of_getElem? (i := 937) (by decide +kernel), List.mem_of_getElem? (i := 938) (by decide +kernel)⟩
theorem lw_p35 : lw_okq (⟨"CharadePostModel", "readsWord", "()Z"⟩, 25) := ⟨⟨by decide +kernel, by decide +kernel⟩, List.mem_of_getElem? (i := 820) (by decide +kernel), List.mem_of_getElem? (i := 941) (by decide +kernel), List.mem_of_getElem? (i := 942) (by decide +kernel)⟩
theorem lw_p36 : lw_okq (⟨"CharadePostModel", "number", "(II)Z"⟩, 25) := ⟨⟨by decide +kernel, by decide +kernel⟩, List.mem_of_getElem? (i := 820) (by decide +kernel), List.mem_of_getElem? (i := 945) (by decide +kernel), List.mem_of_getElem? (i := 946) (by decide +kernel)⟩
theorem lw_p37 : lw_okq (⟨"CharadePostModel", "takes", "(I)Z"⟩, 25) := ⟨⟨by decide +kernel, by decide +kernel⟩, List.mem_of_getElem? (i := 820) (by decide +kernel), List.mem_of_getElem? (i := 954) (by decide +kernel), List.mem_of_getElem? (i := 955) (by decide +kernel)⟩
theorem lw_p38 : lw_okq (⟨"CharadePostModel", "readsLikeness", "()Z"⟩, 25) := ⟨⟨by decide +kernel, by decide +kernel⟩, List.mem_of_getElem? (i := 820) (by decide +kernel), List.mem_of_getElem? (i := 961) (by decide +kernel), List.mem_of_getElem? (i := 962) (by decide +kernel)⟩
theorem lw_p39 : lw_okq (⟨"CharadePostModel", "readsBarred", "()Z"⟩, 25) := ⟨⟨by decide +kernel, by decide +kernel⟩, List.mem_of_getElem? (i := 820) (by decide +kernel), List.mem_of_getElem? (i := 968) (by decide +kernel), List.mem_of_getElem? (i := 969) (by decide +kernel)⟩
theorem lw_p40 : lw_okq (⟨"CharadePostModel", "readsHabits", "()Z"⟩, 25) := ⟨⟨by decide +kernel, by decide +kernel⟩, List.mem_of_getElem? (i := 820) (by decide +kernel), List.mem_of_getElem? (i := 972) (by decide +kernel), List.mem_of_getElem? (i := 973) (by decide +kernel)⟩
theorem lw_p41 : lw_okq (⟨"CharadePostModel", "readsCost", "()Z"⟩, 25) := ⟨⟨by decide +kernel, by decide +kernel⟩, List.mem_of_getElem? (i := 820) (by decide +kernel), List.mem_of_getElem? (i := 976) (by decide +kernel), List.mem_of_getElem? (i := 977) (by decide +kernel)⟩
theorem lw_p42 : lw_okq (⟨"CharadePostModel", "readsActor", "()Z"⟩, 25) := ⟨⟨by decide +kernel, by decide +kernel⟩, List.mem_of_getElem? (i := 820) (by decide +kernel), List.mem_of_getElem? (i := 980) (by decide +kernel), List.mem_of_getElem? (i := 981) (by decide +kernel)⟩
theorem lw_p43 : lw_okq (⟨"CharadePostModel", "isWord", "(I)Z"⟩, 25) := ⟨⟨by decide +kernel, by decide +kernel⟩, List.mem_of_getElem? (i := 820) (by decide +kernel), List.mem_of_getElem? (i := 995) (by decide +kernel), List.mem_of_getElem? (i := 996) (by decide +kernel)⟩
theorem lw_p44 : lw_okq (⟨"CharadePostModel", "likesOf", "(I)I"⟩, 25) := ⟨⟨by decide +kernel, by decide +kernel⟩, List.mem_of_getElem? (i := 820) (by decide +kernel), List.mem_of_getElem? (i := 999) (by decide +kernel), List.mem_of_getElem? (i := 1000) (by decide +kernel)⟩
theorem lw_p45 : lw_okq (⟨"CharadePostModel", "isSign", "(I)Z"⟩, 25) := ⟨⟨by decide +kernel, by decide +kernel⟩, List.mem_of_getElem? (i := 820) (by decide +kernel), List.mem_of_getElem? (i := 1007) (by decide +kernel), List.mem_of_getElem? (i := 1008) (by decide +kernel)⟩
theorem lw_p46 : lw_okq (⟨"CharadePostModel", "signs", "()I"⟩, 25) := ⟨⟨by decide +kernel, by decide +kernel⟩, List.mem_of_getElem? (i := 820) (by decide +kernel), List.mem_of_getElem? (i := 1011) (by decide +kernel), List.mem_of_getElem? (i := 1012) (by decide +kernel)⟩
theorem lw_p47 : lw_okq (⟨"CharadePostModel", "isActor", "(I)Z"⟩, 25) := ⟨⟨by decide +kernel, by decide +kernel⟩, List.mem_of_getElem? (i := 820) (by decide +kernel), List.mem_of_getElem? (i := 1019) (by decide +kernel), List.mem_of_getElem? (i := 1020) (by decide +kernel)⟩
def lw_privs_3 : List (MethodName × Nat) := [(⟨"CharadePostModel", "reads", "()I"⟩, 25), (⟨"CharadePostModel", "readsItem", "()Z"⟩, 25), (⟨"CharadePostModel", "here", "()I"⟩, 25), (⟨"CharadePostModel", "readsWord", "()Z"⟩, 25), (⟨"CharadePostModel", "number", "(II)Z"⟩, 25), (⟨"CharadePostModel", "takes", "(I)Z"⟩, 25), (⟨"CharadePostModel", "readsLikeness", "()Z"⟩, 25), (⟨"CharadePostModel", "readsBarred", "()Z"⟩, 25), (⟨"CharadePostModel", "readsHabits", "()Z"⟩, 25), (⟨"CharadePostModel", "readsCost", "()Z"⟩, 25), (⟨"CharadePostModel", "readsActor", "()Z"⟩, 25), (⟨"CharadePostModel", "isWord", "(I)Z"⟩, 25), (⟨"CharadePostModel", "likesOf", "(I)I"⟩, 25), (⟨"CharadePostModel", "isSign", "(I)Z"⟩, 25), (⟨"CharadePostModel", "signs", "()I"⟩, 25), (⟨"CharadePostModel", "isActor", "(I)Z"⟩, 25)]
theorem lw_r3 : ∀ q ∈ lw_privs_3, lw_okq q := List.forall_mem_cons.mpr ⟨lw_p32, List.forall_mem_cons.mpr ⟨lw_p33, List.forall_mem_cons.mpr ⟨lw_p34, List.forall_mem_cons.mpr ⟨lw_p35, List.forall_mem_cons.mpr ⟨lw_p36, List.forall_mem_cons.mpr ⟨lw_p37, List.forall_mem_cons.mpr ⟨lw_p38, List.forall_mem_cons.mpr ⟨lw_p39, List.forall_mem_cons.mpr ⟨lw_p40, List.forall_mem_cons.mpr ⟨lw_p41, List.forall_mem_cons.mpr ⟨lw_p42, List.forall_mem_cons.mpr ⟨lw_p43, List.forall_mem_cons.mpr ⟨lw_p44, List.forall_mem_cons.mpr ⟨lw_p45, List.forall_mem_cons.mpr ⟨lw_p46, List.forall_mem_cons.mpr ⟨lw_p47, fun _ h => absurd h List.not_mem_nil⟩⟩⟩⟩⟩⟩⟩⟩⟩⟩⟩⟩⟩⟩⟩⟩
theorem lw_p48 : lw_okq (⟨"CharadePostModel", "weighActor", "([II)V"⟩, 25) := ⟨⟨by decide +kernel, by decide +kernel⟩, List.mem_of_getElem? (i := 820) (by decide +kernel), List.mem_of_getElem? (i := 1031) (by decide +kernel), List.mem_of_getElem? (i := 1032) (by decide +kernel)⟩
theorem lw_p49 : lw_okq (⟨"CharadePostModel", "weigh", "(I[IIIIII)V"⟩, 25) := ⟨⟨by decide +kernel, by decide +kernel⟩, List.mem_of_getElem? (i := 820) (by decide +kernel), List.mem_of_getElem? (i := 1035) (by decide +kernel), List.mem_of_getElem? (i := 1036) (by decide +kernel)⟩
theorem lw_p50 : lw_okq (⟨"CharadePostModel", "times", "(IIIII)I"⟩, 25) := ⟨⟨by decide +kernel, by decide +kernel⟩, List.mem_of_getElem? (i := 820) (by decide +kernel), List.mem_of_getElem? (i := 1039) (by decide +kernel), List.mem_of_getElem? (i := 1040) (by decide +kernel)⟩
theorem lw_p51 : lw_okq (⟨"CharadePostModel", "byPart", "(IIII)I"⟩, 25) := ⟨⟨by decide +kernel, by decide +kernel⟩, List.mem_of_getElem? (i := 820) (by decide +kernel), List.mem_of_getElem? (i := 1043) (by decide +kernel), List.mem_of_getElem? (i := 1044) (by decide +kernel)⟩
theorem lw_p52 : lw_okq (⟨"CharadePostModel", "byLikeness", "(IIII)I"⟩, 25) := ⟨⟨by decide +kernel, by decide +kernel⟩, List.mem_of_getElem? (i := 820) (by decide +kernel), List.mem_of_getElem? (i := 1047) (by decide +kernel), List.mem_of_getElem? (i := 1048) (by decide +kernel)⟩
theorem lw_p53 : lw_okq (⟨"CharadePostModel", "sumOf", "([I)J"⟩, 25) := ⟨⟨by decide +kernel, by decide +kernel⟩, List.mem_of_getElem? (i := 820) (by decide +kernel), List.mem_of_getElem? (i := 1055) (by decide +kernel), List.mem_of_getElem? (i := 1056) (by decide +kernel)⟩
theorem lw_p54 : lw_okq (⟨"CharadePostModel", "lowest", "(JJ)V"⟩, 25) := ⟨⟨by decide +kernel, by decide +kernel⟩, List.mem_of_getElem? (i := 820) (by decide +kernel), List.mem_of_getElem? (i := 1059) (by decide +kernel), List.mem_of_getElem? (i := 1060) (by decide +kernel)⟩
theorem lw_p55 : lw_okq (⟨"CharadePostModel", "waits", "(I)Z"⟩, 25) := ⟨⟨by decide +kernel, by decide +kernel⟩, List.mem_of_getElem? (i := 820) (by decide +kernel), List.mem_of_getElem? (i := 1067) (by decide +kernel), List.mem_of_getElem? (i := 1068) (by decide +kernel)⟩
theorem lw_p56 : lw_okq (⟨"CharadePostModel", "nextAt", "([II)I"⟩, 25) := ⟨⟨by decide +kernel, by decide +kernel⟩, List.mem_of_getElem? (i := 820) (by decide +kernel), List.mem_of_getElem? (i := 1071) (by decide +kernel), List.mem_of_getElem? (i := 1072) (by decide +kernel)⟩
theorem lw_p57 : lw_okq (⟨"CharadePostModel", "greatest", "([I)I"⟩, 25) := ⟨⟨by decide +kernel, by decide +kernel⟩, List.mem_of_getElem? (i := 820) (by decide +kernel), List.mem_of_getElem? (i := 1075) (by decide +kernel), List.mem_of_getElem? (i := 1076) (by decide +kernel)⟩
theorem lw_p58 : lw_okq (⟨"CharadePostModel", "remember", "()V"⟩, 25) := ⟨⟨by decide +kernel, by decide +kernel⟩, List.mem_of_getElem? (i := 820) (by decide +kernel), List.mem_of_getElem? (i := 1086) (by decide +kernel), List.mem_of_getElem? (i := 1087) (by decide +kernel)⟩
theorem lw_p59 : lw_okq (⟨"CharadePostModel", "shows", "([III)I"⟩, 25) := ⟨⟨by decide +kernel, by decide +kernel⟩, List.mem_of_getElem? (i := 820) (by decide +kernel), List.mem_of_getElem? (i := 1090) (by decide +kernel), List.mem_of_getElem? (i := 1091) (by decide +kernel)⟩
theorem lw_p60 : lw_okq (⟨"CharadePostModel", "guesses", "([II)I"⟩, 25) := ⟨⟨by decide +kernel, by decide +kernel⟩, List.mem_of_getElem? (i := 820) (by decide +kernel), List.mem_of_getElem? (i := 1098) (by decide +kernel), List.mem_of_getElem? (i := 1099) (by decide +kernel)⟩
theorem lw_p61 : lw_okq (⟨"CharadePostModel", "isFresh", "(I)Z"⟩, 25) := ⟨⟨by decide +kernel, by decide +kernel⟩, List.mem_of_getElem? (i := 820) (by decide +kernel), List.mem_of_getElem? (i := 1109) (by decide +kernel), List.mem_of_getElem? (i := 1110) (by decide +kernel)⟩
theorem lw_p62 : lw_okq (⟨"CharadePostModel", "fewestFor", "(II)I"⟩, 25) := ⟨⟨by decide +kernel, by decide +kernel⟩, List.mem_of_getElem? (i := 820) (by decide +kernel), List.mem_of_getElem? (i := 1121) (by decide +kernel), List.mem_of_getElem? (i := 1122) (by decide +kernel)⟩
theorem lw_p63 : lw_okq (⟨"CharadePostModel", "firstRow", "(I)Z"⟩, 25) := ⟨⟨by decide +kernel, by decide +kernel⟩, List.mem_of_getElem? (i := 820) (by decide +kernel), List.mem_of_getElem? (i := 1125) (by decide +kernel), List.mem_of_getElem? (i := 1126) (by decide +kernel)⟩
def lw_privs_4 : List (MethodName × Nat) := [(⟨"CharadePostModel", "weighActor", "([II)V"⟩, 25), (⟨"CharadePostModel", "weigh", "(I[IIIIII)V"⟩, 25), (⟨"CharadePostModel", "times", "(IIIII)I"⟩, 25), (⟨"CharadePostModel", "byPart", "(IIII)I"⟩, 25), (⟨"CharadePostModel", "byLikeness", "(IIII)I"⟩, 25), (⟨"CharadePostModel", "sumOf", "([I)J"⟩, 25), (⟨"CharadePostModel", "lowest", "(JJ)V"⟩, 25), (⟨"CharadePostModel", "waits", "(I)Z"⟩, 25), (⟨"CharadePostModel", "nextAt", "([II)I"⟩, 25), (⟨"CharadePostModel", "greatest", "([I)I"⟩, 25), (⟨"CharadePostModel", "remember", "()V"⟩, 25), (⟨"CharadePostModel", "shows", "([III)I"⟩, 25), (⟨"CharadePostModel", "guesses", "([II)I"⟩, 25), (⟨"CharadePostModel", "isFresh", "(I)Z"⟩, 25), (⟨"CharadePostModel", "fewestFor", "(II)I"⟩, 25), (⟨"CharadePostModel", "firstRow", "(I)Z"⟩, 25)]
theorem lw_r4 : ∀ q ∈ lw_privs_4, lw_okq q := List.forall_mem_cons.mpr ⟨lw_p48, List.forall_mem_cons.mpr ⟨lw_p49, List.forall_mem_cons.mpr ⟨lw_p50, List.forall_mem_cons.mpr ⟨lw_p51, List.forall_mem_cons.mpr ⟨lw_p52, List.forall_mem_cons.mpr ⟨lw_p53, List.forall_mem_cons.mpr ⟨lw_p54, List.forall_mem_cons.mpr ⟨lw_p55, List.forall_mem_cons.mpr ⟨lw_p56, List.forall_mem_cons.mpr ⟨lw_p57, List.forall_mem_cons.mpr ⟨lw_p58, List.forall_mem_cons.mpr ⟨lw_p59, List.forall_mem_cons.mpr ⟨lw_p60, List.forall_mem_cons.mpr ⟨lw_p61, List.forall_mem_cons.mpr ⟨lw_p62, List.forall_mem_cons.mpr ⟨lw_p63, fun _ h => absurd h List.not_mem_nil⟩⟩⟩⟩⟩⟩⟩⟩⟩⟩⟩⟩⟩⟩⟩⟩
theorem lw_p64 : lw_okq (⟨"CharadePostModel", "wouldBe", "(III)Z"⟩, 25) := ⟨⟨by decide +kernel, by decide +kernel⟩, List.mem_of_getElem? (i := 820) (by decide +kernel), List.mem_of_getElem? (i := 1129) (by decide +kernel), List.mem_of_getElem? (i := 1130) (by decide +kernel)⟩
theorem lw_p65 : lw_okq (⟨"CharadePostModel", "nextRow", "(I)Z"⟩, 25) := ⟨⟨by decide +kernel, by decide +kernel⟩, List.mem_of_getElem? (i := 820) (by decide +kernel), List.mem_of_getElem? (i := 1133) (by decide +kernel), List.mem_of_getElem? (i := 1134) (by decide +kernel)⟩
theorem lw_p66 : lw_okq (⟨"CharadePostModel", "freshOnes", "()I"⟩, 25) := ⟨⟨by decide +kernel, by decide +kernel⟩, List.mem_of_getElem? (i := 820) (by decide +kernel), List.mem_of_getElem? (i := 1145) (by decide +kernel), List.mem_of_getElem? (i := 1146) (by decide +kernel)⟩
theorem lw_p67 : lw_okq (⟨"CharadePostModel", "deals", "(I)I"⟩, 25) := ⟨⟨by decide +kernel, by decide +kernel⟩, List.mem_of_getElem? (i := 820) (by decide +kernel), List.mem_of_getElem? (i := 1149) (by decide +kernel), List.mem_of_getElem? (i := 1150) (by decide +kernel)⟩
theorem lw_p68 : lw_okq (⟨"CharadePostModel", "firstOrder", "(I)V"⟩, 25) := ⟨⟨by decide +kernel, by decide +kernel⟩, List.mem_of_getElem? (i := 820) (by decide +kernel), List.mem_of_getElem? (i := 1154) (by decide +kernel), List.mem_of_getElem? (i := 1155) (by decide +kernel)⟩
theorem lw_p69 : lw_okq (⟨"CharadePostModel", "nextOrder", "(I)Z"⟩, 25) := ⟨⟨by decide +kernel, by decide +kernel⟩, List.mem_of_getElem? (i := 820) (by decide +kernel), List.mem_of_getElem? (i := 1158) (by decide +kernel), List.mem_of_getElem? (i := 1159) (by decide +kernel)⟩
theorem lw_p70 : lw_okq (⟨"CharadePostModel", "waitingOnes", "()I"⟩, 25) := ⟨⟨by decide +kernel, by decide +kernel⟩, List.mem_of_getElem? (i := 820) (by decide +kernel), List.mem_of_getElem? (i := 1166) (by decide +kernel), List.mem_of_getElem? (i := 1167) (by decide +kernel)⟩
theorem lw_p71 : lw_okq (⟨"CharadePostModel", "queues", "(I)I"⟩, 25) := ⟨⟨by decide +kernel, by decide +kernel⟩, List.mem_of_getElem? (i := 820) (by decide +kernel), List.mem_of_getElem? (i := 1170) (by decide +kernel), List.mem_of_getElem? (i := 1171) (by decide +kernel)⟩
theorem lw_p72 : lw_okq (⟨"CharadePostModel", "areSo", "(II)Z"⟩, 25) := ⟨⟨by decide +kernel, by decide +kernel⟩, List.mem_of_getElem? (i := 820) (by decide +kernel), List.mem_of_getElem? (i := 1194) (by decide +kernel), List.mem_of_getElem? (i := 1195) (by decide +kernel)⟩
theorem lw_p73 : lw_okq (⟨"CharadePostModel", "shownInAll", "()I"⟩, 25) := ⟨⟨by decide +kernel, by decide +kernel⟩, List.mem_of_getElem? (i := 820) (by decide +kernel), List.mem_of_getElem? (i := 1232) (by decide +kernel), List.mem_of_getElem? (i := 1233) (by decide +kernel)⟩
def lw_privs_5 : List (MethodName × Nat) := [(⟨"CharadePostModel", "wouldBe", "(III)Z"⟩, 25), (⟨"CharadePostModel", "nextRow", "(I)Z"⟩, 25), (⟨"CharadePostModel", "freshOnes", "()I"⟩, 25), (⟨"CharadePostModel", "deals", "(I)I"⟩, 25), (⟨"CharadePostModel", "firstOrder", "(I)V"⟩, 25), (⟨"CharadePostModel", "nextOrder", "(I)Z"⟩, 25), (⟨"CharadePostModel", "waitingOnes", "()I"⟩, 25), (⟨"CharadePostModel", "queues", "(I)I"⟩, 25), (⟨"CharadePostModel", "areSo", "(II)Z"⟩, 25), (⟨"CharadePostModel", "shownInAll", "()I"⟩, 25)]
theorem lw_r5 : ∀ q ∈ lw_privs_5, lw_okq q := List.forall_mem_cons.mpr ⟨lw_p64, List.forall_mem_cons.mpr ⟨lw_p65, List.forall_mem_cons.mpr ⟨lw_p66, List.forall_mem_cons.mpr ⟨lw_p67, List.forall_mem_cons.mpr ⟨lw_p68, List.forall_mem_cons.mpr ⟨lw_p69, List.forall_mem_cons.mpr ⟨lw_p70, List.forall_mem_cons.mpr ⟨lw_p71, List.forall_mem_cons.mpr ⟨lw_p72, List.forall_mem_cons.mpr ⟨lw_p73, fun _ h => absurd h List.not_mem_nil⟩⟩⟩⟩⟩⟩⟩⟩⟩⟩
def lw_privs : List (MethodName × Nat) := lw_privs_1 ++ (lw_privs_2 ++ (lw_privs_3 ++ (lw_privs_4 ++ (lw_privs_5))))
def lw_tbl : List Cond := k2_sels lw_privs ++ tables_1
theorem lw_privs_ok : ∀ q ∈ lw_privs, lw_okq q := by
  show ∀ q ∈ lw_privs_1 ++ (lw_privs_2 ++ (lw_privs_3 ++ (lw_privs_4 ++ (lw_privs_5)))), lw_okq q
  exact List.forall_mem_append.mpr ⟨lw_r1, List.forall_mem_append.mpr ⟨lw_r2, List.forall_mem_append.mpr ⟨lw_r3, List.forall_mem_append.mpr ⟨lw_r4, lw_r5⟩⟩⟩⟩
def RX0 : String := "CharadePost$Board"
def TX0 : u_T := fun k => match k with
  | 0 => ("CharadePost$Board", "commons", "[I", true)
  | 1 => ("CharadePost$Board", "lengths", "[I", true)
  | 2 => ("CharadePost$Board", "parts", "[I", true)
  | 3 => ("CharadePost$Board", "likenesses", "[I", true)
  | 4 => ("CharadePost$Board", "wordCount", "I", false)
  | 5 => ("CharadePost$Board", "likenessCount", "I", false)
  | 6 => ("CharadePost$Board", "actorCount", "I", false)
  | 7 => ("CharadePost$Board", "forbiddenBits", "I", false)
  | 8 => ("CharadePost$Board", "habitTold", "I", false)
  | _ => ("CharadePost$Board", "priceTold", "I", false)
def tyX0 : Nat → FieldType := fun k => match k with
  | 0 => .array .int
  | 1 => .array .int
  | 2 => .array .int
  | 3 => .array .int
  | 4 => .int
  | 5 => .int
  | 6 => .int
  | 7 => .int
  | 8 => .int
  | _ => .int
theorem nmX0 : ∀ a, a < 10 → ∀ b, b < 10 → a ≠ b → (TX0 a).2.1 ≠ (TX0 b).2.1 := by decide +kernel
theorem tyX0_ok : ∀ k, k < 10 → parseFieldDescriptor (TX0 k).2.2.1 = some (tyX0 k) := by decide +kernel
abbrev cX0_init : ByteArray := prog_2_method_1_code
def yX0_init : MethodName := ⟨RX0, "<init>", "()V"⟩
abbrev cX0_clear : ByteArray := prog_2_method_2_code
def yX0_clear : MethodName := ⟨RX0, "clear", "()V"⟩
abbrev cX0_addWord : ByteArray := prog_2_method_3_code
def yX0_addWord : MethodName := ⟨RX0, "addWord", "(III)Z"⟩
abbrev cX0_addLikeness : ByteArray := prog_2_method_4_code
def yX0_addLikeness : MethodName := ⟨RX0, "addLikeness", "(I)Z"⟩
abbrev cX0_addActor : ByteArray := prog_2_method_5_code
def yX0_addActor : MethodName := ⟨RX0, "addActor", "()Z"⟩
abbrev cX0_forbid : ByteArray := prog_2_method_6_code
def yX0_forbid : MethodName := ⟨RX0, "forbid", "(I)V"⟩
abbrev cX0_setHabit : ByteArray := prog_2_method_7_code
def yX0_setHabit : MethodName := ⟨RX0, "setHabit", "(I)V"⟩
abbrev cX0_setPrice : ByteArray := prog_2_method_8_code
def yX0_setPrice : MethodName := ⟨RX0, "setPrice", "(I)V"⟩
abbrev cX0_words : ByteArray := prog_2_method_9_code
def yX0_words : MethodName := ⟨RX0, "words", "()I"⟩
abbrev cX0_signs : ByteArray := prog_2_method_10_code
def yX0_signs : MethodName := ⟨RX0, "signs", "()I"⟩
abbrev cX0_actors : ByteArray := prog_2_method_11_code
def yX0_actors : MethodName := ⟨RX0, "actors", "()I"⟩
abbrev cX0_habit : ByteArray := prog_2_method_12_code
def yX0_habit : MethodName := ⟨RX0, "habit", "()I"⟩
abbrev cX0_price : ByteArray := prog_2_method_13_code
def yX0_price : MethodName := ⟨RX0, "price", "()I"⟩
abbrev cX0_isForbidden : ByteArray := prog_2_method_14_code
def yX0_isForbidden : MethodName := ⟨RX0, "isForbidden", "(I)Z"⟩
abbrev cX0_commonOf : ByteArray := prog_2_method_15_code
def yX0_commonOf : MethodName := ⟨RX0, "commonOf", "(I)I"⟩
abbrev cX0_lengthOf : ByteArray := prog_2_method_16_code
def yX0_lengthOf : MethodName := ⟨RX0, "lengthOf", "(I)I"⟩
abbrev cX0_partsOf : ByteArray := prog_2_method_17_code
def yX0_partsOf : MethodName := ⟨RX0, "partsOf", "(I)I"⟩
abbrev cX0_likenessesOf : ByteArray := prog_2_method_18_code
def yX0_likenessesOf : MethodName := ⟨RX0, "likenessesOf", "(I)I"⟩
abbrev cX0_isIn : ByteArray := prog_2_method_19_code
def yX0_isIn : MethodName := ⟨RX0, "isIn", "(II)Z"⟩
abbrev cX0_factor : ByteArray := prog_2_method_20_code
def yX0_factor : MethodName := ⟨RX0, "factor", "(IIII)I"⟩
abbrev cX0_byKind : ByteArray := prog_2_method_21_code
def yX0_byKind : MethodName := ⟨RX0, "byKind", "(II)I"⟩
abbrev cX0_weightOf : ByteArray := prog_2_method_22_code
def yX0_weightOf : MethodName := ⟨RX0, "weightOf", "(LCharadePost$Scene;IIII)I"⟩
abbrev cX0_heaviest : ByteArray := prog_2_method_23_code
def yX0_heaviest : MethodName := ⟨RX0, "heaviest", "(LCharadePost$Scene;III)I"⟩
def RX1 : String := "CharadePost$Deal"
def TX1 : u_T := fun k => match k with
  | 0 => ("CharadePost$Deal", "actors", "[I", true)
  | 1 => ("CharadePost$Deal", "words", "[I", true)
  | 2 => ("CharadePost$Deal", "costs", "[I", true)
  | 3 => ("CharadePost$Deal", "least", "[I", true)
  | 4 => ("CharadePost$Deal", "dealt", "[I", true)
  | _ => ("CharadePost$Deal", "used", "I", false)
def tyX1 : Nat → FieldType := fun k => match k with
  | 0 => .array .int
  | 1 => .array .int
  | 2 => .array .int
  | 3 => .array .int
  | 4 => .array .int
  | _ => .int
theorem nmX1 : ∀ a, a < 6 → ∀ b, b < 6 → a ≠ b → (TX1 a).2.1 ≠ (TX1 b).2.1 := by decide +kernel
theorem tyX1_ok : ∀ k, k < 6 → parseFieldDescriptor (TX1 k).2.2.1 = some (tyX1 k) := by decide +kernel
abbrev cX1_init : ByteArray := prog_3_method_1_code
def yX1_init : MethodName := ⟨RX1, "<init>", "()V"⟩
abbrev cX1_start : ByteArray := prog_3_method_2_code
def yX1_start : MethodName := ⟨RX1, "start", "()V"⟩
abbrev cX1_add : ByteArray := prog_3_method_3_code
def yX1_add : MethodName := ⟨RX1, "add", "(II)V"⟩
abbrev cX1_size : ByteArray := prog_3_method_4_code
def yX1_size : MethodName := ⟨RX1, "size", "()I"⟩
abbrev cX1_actorAt : ByteArray := prog_3_method_5_code
def yX1_actorAt : MethodName := ⟨RX1, "actorAt", "(I)I"⟩
abbrev cX1_wordAt : ByteArray := prog_3_method_6_code
def yX1_wordAt : MethodName := ⟨RX1, "wordAt", "(I)I"⟩
abbrev cX1_setCost : ByteArray := prog_3_method_7_code
def yX1_setCost : MethodName := ⟨RX1, "setCost", "(III)V"⟩
abbrev cX1_total : ByteArray := prog_3_method_8_code
def yX1_total : MethodName := ⟨RX1, "total", "()I"⟩
abbrev cX1_wordFor : ByteArray := prog_3_method_9_code
def yX1_wordFor : MethodName := ⟨RX1, "wordFor", "(I)I"⟩
abbrev cX1_settle : ByteArray := prog_3_method_10_code
def yX1_settle : MethodName := ⟨RX1, "settle", "()V"⟩
abbrev cX1_firstOfBest : ByteArray := prog_3_method_11_code
def yX1_firstOfBest : MethodName := ⟨RX1, "firstOfBest", "(I)I"⟩
abbrev cX1_sumWith : ByteArray := prog_3_method_12_code
def yX1_sumWith : MethodName := ⟨RX1, "sumWith", "(II)I"⟩
def RX2 : String := "CharadePost$Line"
def TX2 : u_T := fun k => match k with
  | 0 => ("CharadePost$Line", "actors", "[I", true)
  | 1 => ("CharadePost$Line", "minutes", "[I", true)
  | _ => ("CharadePost$Line", "used", "I", false)
def tyX2 : Nat → FieldType := fun k => match k with
  | 0 => .array .int
  | 1 => .array .int
  | _ => .int
theorem nmX2 : ∀ a, a < 3 → ∀ b, b < 3 → a ≠ b → (TX2 a).2.1 ≠ (TX2 b).2.1 := by decide +kernel
theorem tyX2_ok : ∀ k, k < 3 → parseFieldDescriptor (TX2 k).2.2.1 = some (tyX2 k) := by decide +kernel
abbrev cX2_init : ByteArray := prog_4_method_1_code
def yX2_init : MethodName := ⟨RX2, "<init>", "()V"⟩
abbrev cX2_start : ByteArray := prog_4_method_2_code
def yX2_start : MethodName := ⟨RX2, "start", "()V"⟩
abbrev cX2_add : ByteArray := prog_4_method_3_code
def yX2_add : MethodName := ⟨RX2, "add", "(II)V"⟩
abbrev cX2_actorAt : ByteArray := prog_4_method_4_code
def yX2_actorAt : MethodName := ⟨RX2, "actorAt", "(I)I"⟩
abbrev cX2_waited : ByteArray := prog_4_method_5_code
def yX2_waited : MethodName := ⟨RX2, "waited", "()I"⟩
def RX3 : String := "CharadePost$Reader"
def TX3 : u_T := fun k => match k with
  | 0 => ("CharadePost$Reader", "text", "[I", false)
  | 1 => ("CharadePost$Reader", "end", "I", false)
  | _ => ("CharadePost$Reader", "at", "I", false)
def tyX3 : Nat → FieldType := fun k => match k with
  | 0 => .array .int
  | 1 => .int
  | _ => .int
theorem nmX3 : ∀ a, a < 3 → ∀ b, b < 3 → a ≠ b → (TX3 a).2.1 ≠ (TX3 b).2.1 := by decide +kernel
theorem tyX3_ok : ∀ k, k < 3 → parseFieldDescriptor (TX3 k).2.2.1 = some (tyX3 k) := by decide +kernel
abbrev cX3_init : ByteArray := prog_5_method_1_code
def yX3_init : MethodName := ⟨RX3, "<init>", "()V"⟩
abbrev cX3_firstFault : ByteArray := prog_5_method_2_code
def yX3_firstFault : MethodName := ⟨RX3, "firstFault", "([IILCharadePost$Board;LCharadePost$Scene;)I"⟩
abbrev cX3_readItem : ByteArray := prog_5_method_3_code
def yX3_readItem : MethodName := ⟨RX3, "readItem", "(LCharadePost$Board;LCharadePost$Scene;)Z"⟩
abbrev cX3_readWord : ByteArray := prog_5_method_4_code
def yX3_readWord : MethodName := ⟨RX3, "readWord", "(LCharadePost$Board;)Z"⟩
abbrev cX3_readLikeness : ByteArray := prog_5_method_5_code
def yX3_readLikeness : MethodName := ⟨RX3, "readLikeness", "(LCharadePost$Board;)Z"⟩
abbrev cX3_readForbidden : ByteArray := prog_5_method_6_code
def yX3_readForbidden : MethodName := ⟨RX3, "readForbidden", "(LCharadePost$Board;)Z"⟩
abbrev cX3_readHabit : ByteArray := prog_5_method_7_code
def yX3_readHabit : MethodName := ⟨RX3, "readHabit", "(LCharadePost$Board;)Z"⟩
abbrev cX3_readPrice : ByteArray := prog_5_method_8_code
def yX3_readPrice : MethodName := ⟨RX3, "readPrice", "(LCharadePost$Board;)Z"⟩
abbrev cX3_readActor : ByteArray := prog_5_method_9_code
def yX3_readActor : MethodName := ⟨RX3, "readActor", "(LCharadePost$Board;LCharadePost$Scene;)Z"⟩
abbrev cX3_number : ByteArray := prog_5_method_10_code
def yX3_number : MethodName := ⟨RX3, "number", "(II)I"⟩
abbrev cX3_isFigure : ByteArray := prog_5_method_11_code
def yX3_isFigure : MethodName := ⟨RX3, "isFigure", "(I)Z"⟩
abbrev cX3_passes : ByteArray := prog_5_method_12_code
def yX3_passes : MethodName := ⟨RX3, "passes", "(I)Z"⟩
abbrev cX3_peek : ByteArray := prog_5_method_13_code
def yX3_peek : MethodName := ⟨RX3, "peek", "()I"⟩
def RX4 : String := "CharadePost$Scene"
def TX4 : u_T := fun k => match k with
  | _ => ("CharadePost$Scene", "cells", "[I", true)
def tyX4 : Nat → FieldType := fun k => match k with
  | _ => .array .int
theorem nmX4 : ∀ a, a < 1 → ∀ b, b < 1 → a ≠ b → (TX4 a).2.1 ≠ (TX4 b).2.1 := by decide +kernel
theorem tyX4_ok : ∀ k, k < 1 → parseFieldDescriptor (TX4 k).2.2.1 = some (tyX4 k) := by decide +kernel
abbrev cX4_init : ByteArray := prog_6_method_1_code
def yX4_init : MethodName := ⟨RX4, "<init>", "()V"⟩
abbrev cX4_cell : ByteArray := prog_6_method_2_code
def yX4_cell : MethodName := ⟨RX4, "cell", "(II)I"⟩
abbrev cX4_set : ByteArray := prog_6_method_3_code
def yX4_set : MethodName := ⟨RX4, "set", "(III)V"⟩
abbrev cX4_start : ByteArray := prog_6_method_4_code
def yX4_start : MethodName := ⟨RX4, "start", "(IIII)V"⟩
abbrev cX4_copyFrom : ByteArray := prog_6_method_5_code
def yX4_copyFrom : MethodName := ⟨RX4, "copyFrom", "(LCharadePost$Scene;)V"⟩
abbrev cX4_sign : ByteArray := prog_6_method_6_code
def yX4_sign : MethodName := ⟨RX4, "sign", "(II)I"⟩
abbrev cX4_waits : ByteArray := prog_6_method_7_code
def yX4_waits : MethodName := ⟨RX4, "waits", "(I)Z"⟩
abbrev cX4_canShow : ByteArray := prog_6_method_8_code
def yX4_canShow : MethodName := ⟨RX4, "canShow", "(I)Z"⟩
abbrev cX4_isFresh : ByteArray := prog_6_method_9_code
def yX4_isFresh : MethodName := ⟨RX4, "isFresh", "(I)Z"⟩
abbrev cX4_canPay : ByteArray := prog_6_method_10_code
def yX4_canPay : MethodName := ⟨RX4, "canPay", "(III)Z"⟩
abbrev cX4_payAndPass : ByteArray := prog_6_method_11_code
def yX4_payAndPass : MethodName := ⟨RX4, "payAndPass", "(II)V"⟩
abbrev cX4_addSign : ByteArray := prog_6_method_12_code
def yX4_addSign : MethodName := ⟨RX4, "addSign", "(II)V"⟩
abbrev cX4_addWrongGuess : ByteArray := prog_6_method_13_code
def yX4_addWrongGuess : MethodName := ⟨RX4, "addWrongGuess", "(II)V"⟩
def RX5 : String := "CharadePost$Search"
def TX5 : u_T := fun k => match k with
  | 0 => ("CharadePost$Search", "free", "[I", true)
  | 1 => ("CharadePost$Search", "factors", "[I", true)
  | 2 => ("CharadePost$Search", "weights", "[I", true)
  | 3 => ("CharadePost$Search", "row", "[I", true)
  | 4 => ("CharadePost$Search", "lengths", "[I", true)
  | 5 => ("CharadePost$Search", "signs", "[I", true)
  | 6 => ("CharadePost$Search", "words", "I", false)
  | 7 => ("CharadePost$Search", "freeCount", "I", false)
  | _ => ("CharadePost$Search", "open", "I", false)
def tyX5 : Nat → FieldType := fun k => match k with
  | 0 => .array .int
  | 1 => .array .int
  | 2 => .array .int
  | 3 => .array .int
  | 4 => .array .int
  | 5 => .array .int
  | 6 => .int
  | 7 => .int
  | _ => .int
theorem nmX5 : ∀ a, a < 9 → ∀ b, b < 9 → a ≠ b → (TX5 a).2.1 ≠ (TX5 b).2.1 := by decide +kernel
theorem tyX5_ok : ∀ k, k < 9 → parseFieldDescriptor (TX5 k).2.2.1 = some (tyX5 k) := by decide +kernel
abbrev cX5_init : ByteArray := prog_7_method_1_code
def yX5_init : MethodName := ⟨RX5, "<init>", "()V"⟩
abbrev cX5_run : ByteArray := prog_7_method_2_code
def yX5_run : MethodName := ⟨RX5, "run", "(LCharadePost$Board;LCharadePost$Scene;I)V"⟩
abbrev cX5_howMany : ByteArray := prog_7_method_3_code
def yX5_howMany : MethodName := ⟨RX5, "howMany", "(I)I"⟩
abbrev cX5_signOf : ByteArray := prog_7_method_4_code
def yX5_signOf : MethodName := ⟨RX5, "signOf", "(II)I"⟩
abbrev cX5_weighAtFirst : ByteArray := prog_7_method_5_code
def yX5_weighAtFirst : MethodName := ⟨RX5, "weighAtFirst", "(LCharadePost$Board;LCharadePost$Scene;I)V"⟩
abbrev cX5_findFree : ByteArray := prog_7_method_6_code
def yX5_findFree : MethodName := ⟨RX5, "findFree", "(LCharadePost$Board;I)V"⟩
abbrev cX5_tryRows : ByteArray := prog_7_method_7_code
def yX5_tryRows : MethodName := ⟨RX5, "tryRows", "(I)V"⟩
abbrev cX5_multiply : ByteArray := prog_7_method_8_code
def yX5_multiply : MethodName := ⟨RX5, "multiply", "(II)V"⟩
abbrev cX5_judge : ByteArray := prog_7_method_9_code
def yX5_judge : MethodName := ⟨RX5, "judge", "(I)V"⟩
abbrev cX5_freeAt : ByteArray := prog_7_method_10_code
def yX5_freeAt : MethodName := ⟨RX5, "freeAt", "(I)I"⟩
abbrev cX5_heaviest : ByteArray := prog_7_method_11_code
def yX5_heaviest : MethodName := ⟨RX5, "heaviest", "(I)I"⟩
def RX6 : String := "CharadePost$Seen"
def TX6 : u_T := fun k => match k with
  | 0 => ("CharadePost$Seen", "actors", "[I", true)
  | 1 => ("CharadePost$Seen", "words", "[I", true)
  | _ => ("CharadePost$Seen", "used", "I", false)
def tyX6 : Nat → FieldType := fun k => match k with
  | 0 => .array .int
  | 1 => .array .int
  | _ => .int
theorem nmX6 : ∀ a, a < 3 → ∀ b, b < 3 → a ≠ b → (TX6 a).2.1 ≠ (TX6 b).2.1 := by decide +kernel
theorem tyX6_ok : ∀ k, k < 3 → parseFieldDescriptor (TX6 k).2.2.1 = some (tyX6 k) := by decide +kernel
abbrev cX6_init : ByteArray := prog_8_method_1_code
def yX6_init : MethodName := ⟨RX6, "<init>", "()V"⟩
abbrev cX6_size : ByteArray := prog_8_method_2_code
def yX6_size : MethodName := ⟨RX6, "size", "()I"⟩
abbrev cX6_add : ByteArray := prog_8_method_3_code
def yX6_add : MethodName := ⟨RX6, "add", "(II)I"⟩
abbrev cX6_clear : ByteArray := prog_8_method_4_code
def yX6_clear : MethodName := ⟨RX6, "clear", "()I"⟩
abbrev cX6_holdsBy : ByteArray := prog_8_method_5_code
def yX6_holdsBy : MethodName := ⟨RX6, "holdsBy", "(ILCharadePost$Board;LCharadePost$Scene;)Z"⟩
def RX7 : String := "CharadePost$Shelf"
def TX7 : u_T := fun k => match k with
  | 0 => ("CharadePost$Shelf", "rows", "[I", true)
  | 1 => ("CharadePost$Shelf", "most", "I", true)
  | _ => ("CharadePost$Shelf", "used", "I", false)
def tyX7 : Nat → FieldType := fun k => match k with
  | 0 => .array .int
  | 1 => .int
  | _ => .int
theorem nmX7 : ∀ a, a < 3 → ∀ b, b < 3 → a ≠ b → (TX7 a).2.1 ≠ (TX7 b).2.1 := by decide +kernel
theorem tyX7_ok : ∀ k, k < 3 → parseFieldDescriptor (TX7 k).2.2.1 = some (tyX7 k) := by decide +kernel
abbrev cX7_init : ByteArray := prog_9_method_1_code
def yX7_init : MethodName := ⟨RX7, "<init>", "(I)V"⟩
abbrev cX7_size : ByteArray := prog_9_method_2_code
def yX7_size : MethodName := ⟨RX7, "size", "()I"⟩
abbrev cX7_clear : ByteArray := prog_9_method_3_code
def yX7_clear : MethodName := ⟨RX7, "clear", "()V"⟩
abbrev cX7_put : ByteArray := prog_9_method_4_code
def yX7_put : MethodName := ⟨RX7, "put", "(LCharadePost$Scene;)V"⟩
abbrev cX7_takeInto : ByteArray := prog_9_method_5_code
def yX7_takeInto : MethodName := ⟨RX7, "takeInto", "(LCharadePost$Scene;)Z"⟩
def RX8 : String := "CharadePost"
def TX8 : u_T := fun k => match k with
  | 0 => ("CharadePost", "letters", "[I", true)
  | 1 => ("CharadePost", "length", "I", false)
  | 2 => ("CharadePost", "board", "LCharadePost$Board;", false)
  | 3 => ("CharadePost", "draft", "LCharadePost$Board;", false)
  | 4 => ("CharadePost", "scene", "LCharadePost$Scene;", true)
  | 5 => ("CharadePost", "trial", "LCharadePost$Scene;", true)
  | 6 => ("CharadePost", "past", "LCharadePost$Shelf;", true)
  | 7 => ("CharadePost", "kept", "LCharadePost$Shelf;", true)
  | 8 => ("CharadePost", "seen", "LCharadePost$Seen;", true)
  | 9 => ("CharadePost", "reader", "LCharadePost$Reader;", true)
  | 10 => ("CharadePost", "search", "LCharadePost$Search;", true)
  | 11 => ("CharadePost", "deal", "LCharadePost$Deal;", true)
  | _ => ("CharadePost", "line", "LCharadePost$Line;", true)
def tyX8 : Nat → FieldType := fun k => match k with
  | 0 => .array .int
  | 1 => .int
  | 2 => .object "CharadePost$Board"
  | 3 => .object "CharadePost$Board"
  | 4 => .object "CharadePost$Scene"
  | 5 => .object "CharadePost$Scene"
  | 6 => .object "CharadePost$Shelf"
  | 7 => .object "CharadePost$Shelf"
  | 8 => .object "CharadePost$Seen"
  | 9 => .object "CharadePost$Reader"
  | 10 => .object "CharadePost$Search"
  | 11 => .object "CharadePost$Deal"
  | _ => .object "CharadePost$Line"
theorem nmX8 : ∀ a, a < 13 → ∀ b, b < 13 → a ≠ b → (TX8 a).2.1 ≠ (TX8 b).2.1 := by decide +kernel
theorem tyX8_ok : ∀ k, k < 13 → parseFieldDescriptor (TX8 k).2.2.1 = some (tyX8 k) := by decide +kernel
abbrev cX8_init : ByteArray := prog_1_method_1_code
def yX8_init : MethodName := ⟨RX8, "<init>", "()V"⟩
abbrev cX8_write : ByteArray := prog_1_method_2_code
def yX8_write : MethodName := ⟨RX8, "write", "(I)I"⟩
abbrev cX8_wipe : ByteArray := prog_1_method_3_code
def yX8_wipe : MethodName := ⟨RX8, "wipe", "()I"⟩
abbrev cX8_fault : ByteArray := prog_1_method_4_code
def yX8_fault : MethodName := ⟨RX8, "fault", "()I"⟩
abbrev cX8_lay : ByteArray := prog_1_method_5_code
def yX8_lay : MethodName := ⟨RX8, "lay", "()I"⟩
abbrev cX8_word : ByteArray := prog_1_method_6_code
def yX8_word : MethodName := ⟨RX8, "word", "(II)I"⟩
abbrev cX8_forbidden : ByteArray := prog_1_method_7_code
def yX8_forbidden : MethodName := ⟨RX8, "forbidden", "(I)I"⟩
abbrev cX8_actor : ByteArray := prog_1_method_8_code
def yX8_actor : MethodName := ⟨RX8, "actor", "(II)I"⟩
abbrev cX8_shown : ByteArray := prog_1_method_9_code
def yX8_shown : MethodName := ⟨RX8, "shown", "(II)I"⟩
abbrev cX8_show : ByteArray := prog_1_method_10_code
def yX8_show : MethodName := ⟨RX8, "show", "(II)I"⟩
abbrev cX8_guess : ByteArray := prog_1_method_11_code
def yX8_guess : MethodName := ⟨RX8, "guess", "(I)I"⟩
abbrev cX8_change : ByteArray := prog_1_method_12_code
def yX8_change : MethodName := ⟨RX8, "change", "(II)I"⟩
abbrev cX8_undo : ByteArray := prog_1_method_13_code
def yX8_undo : MethodName := ⟨RX8, "undo", "()I"⟩
abbrev cX8_weight : ByteArray := prog_1_method_14_code
def yX8_weight : MethodName := ⟨RX8, "weight", "(II)I"⟩
abbrev cX8_likely : ByteArray := prog_1_method_15_code
def yX8_likely : MethodName := ⟨RX8, "likely", "(III)I"⟩
abbrev cX8_next : ByteArray := prog_1_method_16_code
def yX8_next : MethodName := ⟨RX8, "next", "(I)I"⟩
abbrev cX8_fewest : ByteArray := prog_1_method_17_code
def yX8_fewest : MethodName := ⟨RX8, "fewest", "(III)I"⟩
abbrev cX8_tells : ByteArray := prog_1_method_18_code
def yX8_tells : MethodName := ⟨RX8, "tells", "(I)I"⟩
abbrev cX8_send : ByteArray := prog_1_method_19_code
def yX8_send : MethodName := ⟨RX8, "send", "(I)I"⟩
abbrev cX8_queue : ByteArray := prog_1_method_20_code
def yX8_queue : MethodName := ⟨RX8, "queue", "(I)I"⟩
abbrev cX8_parted : ByteArray := prog_1_method_21_code
def yX8_parted : MethodName := ⟨RX8, "parted", "(II)I"⟩
abbrev cX8_most : ByteArray := prog_1_method_22_code
def yX8_most : MethodName := ⟨RX8, "most", "()I"⟩
abbrev cX8_see : ByteArray := prog_1_method_23_code
def yX8_see : MethodName := ⟨RX8, "see", "(II)I"⟩
abbrev cX8_forget : ByteArray := prog_1_method_24_code
def yX8_forget : MethodName := ⟨RX8, "forget", "()I"⟩
abbrev cX8_habits : ByteArray := prog_1_method_25_code
def yX8_habits : MethodName := ⟨RX8, "habits", "(I)I"⟩
abbrev cX8_wants : ByteArray := prog_1_method_26_code
def yX8_wants : MethodName := ⟨RX8, "wants", "(I)I"⟩
abbrev cX8_missed : ByteArray := prog_1_method_27_code
def yX8_missed : MethodName := ⟨RX8, "missed", "(III)I"⟩
abbrev cX8_season : ByteArray := prog_1_method_28_code
def yX8_season : MethodName := ⟨RX8, "season", "(III)I"⟩
abbrev cX8_keep : ByteArray := prog_1_method_29_code
def yX8_keep : MethodName := ⟨RX8, "keep", "()I"⟩
abbrev cX8_back : ByteArray := prog_1_method_30_code
def yX8_back : MethodName := ⟨RX8, "back", "()I"⟩
abbrev cX8_count : ByteArray := prog_1_method_31_code
def yX8_count : MethodName := ⟨RX8, "count", "(I)I"⟩
abbrev cX8_isWord : ByteArray := prog_1_method_32_code
def yX8_isWord : MethodName := ⟨RX8, "isWord", "(I)Z"⟩
abbrev cX8_isSign : ByteArray := prog_1_method_33_code
def yX8_isSign : MethodName := ⟨RX8, "isSign", "(I)Z"⟩
abbrev cX8_isActor : ByteArray := prog_1_method_34_code
def yX8_isActor : MethodName := ⟨RX8, "isActor", "(I)Z"⟩
abbrev cX8_showSign : ByteArray := prog_1_method_35_code
def yX8_showSign : MethodName := ⟨RX8, "showSign", "(LCharadePost$Scene;II)I"⟩
abbrev cX8_guessWord : ByteArray := prog_1_method_36_code
def yX8_guessWord : MethodName := ⟨RX8, "guessWord", "(LCharadePost$Scene;I)I"⟩
abbrev cX8_fewestForWanted : ByteArray := prog_1_method_37_code
def yX8_fewestForWanted : MethodName := ⟨RX8, "fewestForWanted", "(I)I"⟩
abbrev cX8_mostTelling : ByteArray := prog_1_method_38_code
def yX8_mostTelling : MethodName := ⟨RX8, "mostTelling", "(I)I"⟩
abbrev cX8_weightBesides : ByteArray := prog_1_method_39_code
def yX8_weightBesides : MethodName := ⟨RX8, "weightBesides", "(III)I"⟩
abbrev cX8_chanceOf : ByteArray := prog_1_method_40_code
def yX8_chanceOf : MethodName := ⟨RX8, "chanceOf", "(III)I"⟩
abbrev cX8_commonDivisor : ByteArray := prog_1_method_41_code
def yX8_commonDivisor : MethodName := ⟨RX8, "commonDivisor", "(II)I"⟩
abbrev cX8_draw : ByteArray := prog_1_method_42_code
def yX8_draw : MethodName := ⟨RX8, "draw", "(II)I"⟩
abbrev cX8_playDraw : ByteArray := prog_1_method_43_code
def yX8_playDraw : MethodName := ⟨RX8, "playDraw", "(I)V"⟩
abbrev cX8_howMany : ByteArray := prog_1_method_44_code
def yX8_howMany : MethodName := ⟨RX8, "howMany", "(LCharadePost$Scene;I)I"⟩
abbrev cX8_sumOf : ByteArray := prog_1_method_45_code
def yX8_sumOf : MethodName := ⟨RX8, "sumOf", "(LCharadePost$Scene;I)I"⟩
def RX9 : String := "CharadePostModel"
def TX9 : u_T := fun k => match k with
  | 0 => ("CharadePostModel", "post", "[I", true)
  | 1 => ("CharadePostModel", "read", "[I", true)
  | 2 => ("CharadePostModel", "now", "[I", true)
  | 3 => ("CharadePostModel", "aside", "[I", true)
  | 4 => ("CharadePostModel", "past", "[I", true)
  | 5 => ("CharadePostModel", "undos", "I", false)
  | 6 => ("CharadePostModel", "kept", "[I", true)
  | 7 => ("CharadePostModel", "keptMany", "I", false)
  | 8 => ("CharadePostModel", "sights", "[I", true)
  | 9 => ("CharadePostModel", "sightMany", "I", false)
  | 10 => ("CharadePostModel", "text", "[I", true)
  | 11 => ("CharadePostModel", "size", "I", false)
  | 12 => ("CharadePostModel", "at", "I", false)
  | 13 => ("CharadePostModel", "value", "I", false)
  | 14 => ("CharadePostModel", "weights", "[I", true)
  | 15 => ("CharadePostModel", "tried", "[I", true)
  | 16 => ("CharadePostModel", "above", "J", false)
  | 17 => ("CharadePostModel", "below", "J", false)
  | 18 => ("CharadePostModel", "paid", "I", false)
  | 19 => ("CharadePostModel", "row", "[I", true)
  | 20 => ("CharadePostModel", "who", "[I", true)
  | 21 => ("CharadePostModel", "order", "[I", true)
  | 22 => ("CharadePostModel", "bestOrder", "[I", true)
  | 23 => ("CharadePostModel", "costs", "[I", true)
  | _ => ("CharadePostModel", "taken", "[I", true)
def tyX9 : Nat → FieldType := fun k => match k with
  | 0 => .array .int
  | 1 => .array .int
  | 2 => .array .int
  | 3 => .array .int
  | 4 => .array .int
  | 5 => .int
  | 6 => .array .int
  | 7 => .int
  | 8 => .array .int
  | 9 => .int
  | 10 => .array .int
  | 11 => .int
  | 12 => .int
  | 13 => .int
  | 14 => .array .int
  | 15 => .array .int
  | 16 => .long
  | 17 => .long
  | 18 => .int
  | 19 => .array .int
  | 20 => .array .int
  | 21 => .array .int
  | 22 => .array .int
  | 23 => .array .int
  | _ => .array .int
theorem nmX9 : ∀ a, a < 25 → ∀ b, b < 25 → a ≠ b → (TX9 a).2.1 ≠ (TX9 b).2.1 := by decide +kernel
theorem tyX9_ok : ∀ k, k < 25 → parseFieldDescriptor (TX9 k).2.2.1 = some (tyX9 k) := by decide +kernel
abbrev cX9_init : ByteArray := prog_11_method_1_code
def yX9_init : MethodName := ⟨RX9, "<init>", "()V"⟩
abbrev cX9_in : ByteArray := prog_11_method_3_code
def yX9_in : MethodName := ⟨RX9, "in", "(JJJ)Z"⟩
abbrev cX9_has : ByteArray := prog_11_method_4_code
def yX9_has : MethodName := ⟨RX9, "has", "(II)Z"⟩
abbrev cX9_bits : ByteArray := prog_11_method_5_code
def yX9_bits : MethodName := ⟨RX9, "bits", "(I)I"⟩
abbrev cX9_copies : ByteArray := prog_11_method_6_code
def yX9_copies : MethodName := ⟨RX9, "copies", "([II[III)V"⟩
abbrev cX9_word : ByteArray := prog_11_method_7_code
def yX9_word : MethodName := ⟨RX9, "word", "([IIII)V"⟩
abbrev cX9_actor : ByteArray := prog_11_method_8_code
def yX9_actor : MethodName := ⟨RX9, "actor", "([IIII)V"⟩
abbrev cX9_begins : ByteArray := prog_11_method_9_code
def yX9_begins : MethodName := ⟨RX9, "begins", "()V"⟩
abbrev cX9_write : ByteArray := prog_11_method_10_code
def yX9_write : MethodName := ⟨RX9, "write", "(I)I"⟩
abbrev cX9_wipe : ByteArray := prog_11_method_11_code
def yX9_wipe : MethodName := ⟨RX9, "wipe", "()I"⟩
abbrev cX9_here : ByteArray := prog_11_method_12_code
def yX9_here : MethodName := ⟨RX9, "here", "()I"⟩
abbrev cX9_takes : ByteArray := prog_11_method_13_code
def yX9_takes : MethodName := ⟨RX9, "takes", "(I)Z"⟩
abbrev cX9_isFigure : ByteArray := prog_11_method_14_code
def yX9_isFigure : MethodName := ⟨RX9, "isFigure", "(I)Z"⟩
abbrev cX9_number : ByteArray := prog_11_method_15_code
def yX9_number : MethodName := ⟨RX9, "number", "(II)Z"⟩
abbrev cX9_readsWord : ByteArray := prog_11_method_16_code
def yX9_readsWord : MethodName := ⟨RX9, "readsWord", "()Z"⟩
abbrev cX9_readsLikeness : ByteArray := prog_11_method_17_code
def yX9_readsLikeness : MethodName := ⟨RX9, "readsLikeness", "()Z"⟩
abbrev cX9_readsActor : ByteArray := prog_11_method_18_code
def yX9_readsActor : MethodName := ⟨RX9, "readsActor", "()Z"⟩
abbrev cX9_readsBarred : ByteArray := prog_11_method_19_code
def yX9_readsBarred : MethodName := ⟨RX9, "readsBarred", "()Z"⟩
abbrev cX9_readsHabits : ByteArray := prog_11_method_20_code
def yX9_readsHabits : MethodName := ⟨RX9, "readsHabits", "()Z"⟩
abbrev cX9_readsCost : ByteArray := prog_11_method_21_code
def yX9_readsCost : MethodName := ⟨RX9, "readsCost", "()Z"⟩
abbrev cX9_readsItem : ByteArray := prog_11_method_22_code
def yX9_readsItem : MethodName := ⟨RX9, "readsItem", "()Z"⟩
abbrev cX9_reads : ByteArray := prog_11_method_23_code
def yX9_reads : MethodName := ⟨RX9, "reads", "()I"⟩
abbrev cX9_fault : ByteArray := prog_11_method_24_code
def yX9_fault : MethodName := ⟨RX9, "fault", "()I"⟩
abbrev cX9_lay : ByteArray := prog_11_method_25_code
def yX9_lay : MethodName := ⟨RX9, "lay", "()I"⟩
abbrev cX9_signs : ByteArray := prog_11_method_26_code
def yX9_signs : MethodName := ⟨RX9, "signs", "()I"⟩
abbrev cX9_isWord : ByteArray := prog_11_method_27_code
def yX9_isWord : MethodName := ⟨RX9, "isWord", "(I)Z"⟩
abbrev cX9_isSign : ByteArray := prog_11_method_28_code
def yX9_isSign : MethodName := ⟨RX9, "isSign", "(I)Z"⟩
abbrev cX9_isActor : ByteArray := prog_11_method_29_code
def yX9_isActor : MethodName := ⟨RX9, "isActor", "(I)Z"⟩
abbrev cX9_likesOf : ByteArray := prog_11_method_30_code
def yX9_likesOf : MethodName := ⟨RX9, "likesOf", "(I)I"⟩
abbrev cX9_word_ : ByteArray := prog_11_method_31_code
def yX9_word_ : MethodName := ⟨RX9, "word", "(II)I"⟩
abbrev cX9_forbidden : ByteArray := prog_11_method_32_code
def yX9_forbidden : MethodName := ⟨RX9, "forbidden", "(I)I"⟩
abbrev cX9_actor_ : ByteArray := prog_11_method_33_code
def yX9_actor_ : MethodName := ⟨RX9, "actor", "(II)I"⟩
abbrev cX9_shown : ByteArray := prog_11_method_34_code
def yX9_shown : MethodName := ⟨RX9, "shown", "(II)I"⟩
abbrev cX9_byPart : ByteArray := prog_11_method_35_code
def yX9_byPart : MethodName := ⟨RX9, "byPart", "(IIII)I"⟩
abbrev cX9_byLikeness : ByteArray := prog_11_method_36_code
def yX9_byLikeness : MethodName := ⟨RX9, "byLikeness", "(IIII)I"⟩
abbrev cX9_times : ByteArray := prog_11_method_37_code
def yX9_times : MethodName := ⟨RX9, "times", "(IIIII)I"⟩
abbrev cX9_weigh : ByteArray := prog_11_method_38_code
def yX9_weigh : MethodName := ⟨RX9, "weigh", "(I[IIIIII)V"⟩
abbrev cX9_weighActor : ByteArray := prog_11_method_39_code
def yX9_weighActor : MethodName := ⟨RX9, "weighActor", "([II)V"⟩
abbrev cX9_greatest : ByteArray := prog_11_method_40_code
def yX9_greatest : MethodName := ⟨RX9, "greatest", "([I)I"⟩
abbrev cX9_nextAt : ByteArray := prog_11_method_41_code
def yX9_nextAt : MethodName := ⟨RX9, "nextAt", "([II)I"⟩
abbrev cX9_waits : ByteArray := prog_11_method_42_code
def yX9_waits : MethodName := ⟨RX9, "waits", "(I)Z"⟩
abbrev cX9_weight : ByteArray := prog_11_method_43_code
def yX9_weight : MethodName := ⟨RX9, "weight", "(II)I"⟩
abbrev cX9_lowest : ByteArray := prog_11_method_44_code
def yX9_lowest : MethodName := ⟨RX9, "lowest", "(JJ)V"⟩
abbrev cX9_sumOf : ByteArray := prog_11_method_45_code
def yX9_sumOf : MethodName := ⟨RX9, "sumOf", "([I)J"⟩
abbrev cX9_likely : ByteArray := prog_11_method_46_code
def yX9_likely : MethodName := ⟨RX9, "likely", "(III)I"⟩
abbrev cX9_next : ByteArray := prog_11_method_47_code
def yX9_next : MethodName := ⟨RX9, "next", "(I)I"⟩
abbrev cX9_remember : ByteArray := prog_11_method_48_code
def yX9_remember : MethodName := ⟨RX9, "remember", "()V"⟩
abbrev cX9_mayShow : ByteArray := prog_11_method_49_code
def yX9_mayShow : MethodName := ⟨RX9, "mayShow", "([II)Z"⟩
abbrev cX9_shows : ByteArray := prog_11_method_50_code
def yX9_shows : MethodName := ⟨RX9, "shows", "([III)I"⟩
abbrev cX9_show : ByteArray := prog_11_method_51_code
def yX9_show : MethodName := ⟨RX9, "show", "(II)I"⟩
abbrev cX9_guesses : ByteArray := prog_11_method_52_code
def yX9_guesses : MethodName := ⟨RX9, "guesses", "([II)I"⟩
abbrev cX9_guess : ByteArray := prog_11_method_53_code
def yX9_guess : MethodName := ⟨RX9, "guess", "(I)I"⟩
abbrev cX9_isFresh : ByteArray := prog_11_method_54_code
def yX9_isFresh : MethodName := ⟨RX9, "isFresh", "(I)Z"⟩
abbrev cX9_change : ByteArray := prog_11_method_55_code
def yX9_change : MethodName := ⟨RX9, "change", "(II)I"⟩
abbrev cX9_undo : ByteArray := prog_11_method_56_code
def yX9_undo : MethodName := ⟨RX9, "undo", "()I"⟩
abbrev cX9_wouldBe : ByteArray := prog_11_method_57_code
def yX9_wouldBe : MethodName := ⟨RX9, "wouldBe", "(III)Z"⟩
abbrev cX9_nextRow : ByteArray := prog_11_method_58_code
def yX9_nextRow : MethodName := ⟨RX9, "nextRow", "(I)Z"⟩
abbrev cX9_firstRow : ByteArray := prog_11_method_59_code
def yX9_firstRow : MethodName := ⟨RX9, "firstRow", "(I)Z"⟩
abbrev cX9_fewestFor : ByteArray := prog_11_method_60_code
def yX9_fewestFor : MethodName := ⟨RX9, "fewestFor", "(II)I"⟩
abbrev cX9_fewest : ByteArray := prog_11_method_61_code
def yX9_fewest : MethodName := ⟨RX9, "fewest", "(III)I"⟩
abbrev cX9_tells : ByteArray := prog_11_method_62_code
def yX9_tells : MethodName := ⟨RX9, "tells", "(I)I"⟩
abbrev cX9_nextOrder : ByteArray := prog_11_method_63_code
def yX9_nextOrder : MethodName := ⟨RX9, "nextOrder", "(I)Z"⟩
abbrev cX9_firstOrder : ByteArray := prog_11_method_64_code
def yX9_firstOrder : MethodName := ⟨RX9, "firstOrder", "(I)V"⟩
abbrev cX9_freshOnes : ByteArray := prog_11_method_65_code
def yX9_freshOnes : MethodName := ⟨RX9, "freshOnes", "()I"⟩
abbrev cX9_deals : ByteArray := prog_11_method_66_code
def yX9_deals : MethodName := ⟨RX9, "deals", "(I)I"⟩
abbrev cX9_send : ByteArray := prog_11_method_67_code
def yX9_send : MethodName := ⟨RX9, "send", "(I)I"⟩
abbrev cX9_queues : ByteArray := prog_11_method_68_code
def yX9_queues : MethodName := ⟨RX9, "queues", "(I)I"⟩
abbrev cX9_waitingOnes : ByteArray := prog_11_method_69_code
def yX9_waitingOnes : MethodName := ⟨RX9, "waitingOnes", "()I"⟩
abbrev cX9_queue : ByteArray := prog_11_method_70_code
def yX9_queue : MethodName := ⟨RX9, "queue", "(I)I"⟩
abbrev cX9_parted : ByteArray := prog_11_method_71_code
def yX9_parted : MethodName := ⟨RX9, "parted", "(II)I"⟩
abbrev cX9_most : ByteArray := prog_11_method_72_code
def yX9_most : MethodName := ⟨RX9, "most", "()I"⟩
abbrev cX9_see : ByteArray := prog_11_method_73_code
def yX9_see : MethodName := ⟨RX9, "see", "(II)I"⟩
abbrev cX9_forget : ByteArray := prog_11_method_74_code
def yX9_forget : MethodName := ⟨RX9, "forget", "()I"⟩
abbrev cX9_areSo : ByteArray := prog_11_method_75_code
def yX9_areSo : MethodName := ⟨RX9, "areSo", "(II)Z"⟩
abbrev cX9_habits : ByteArray := prog_11_method_76_code
def yX9_habits : MethodName := ⟨RX9, "habits", "(I)I"⟩
abbrev cX9_wants : ByteArray := prog_11_method_77_code
def yX9_wants : MethodName := ⟨RX9, "wants", "(I)I"⟩
abbrev cX9_missed : ByteArray := prog_11_method_78_code
def yX9_missed : MethodName := ⟨RX9, "missed", "(III)I"⟩
abbrev cX9_throughOf : ByteArray := prog_11_method_79_code
def yX9_throughOf : MethodName := ⟨RX9, "throughOf", "([III)I"⟩
abbrev cX9_season : ByteArray := prog_11_method_80_code
def yX9_season : MethodName := ⟨RX9, "season", "(III)I"⟩
abbrev cX9_keep : ByteArray := prog_11_method_81_code
def yX9_keep : MethodName := ⟨RX9, "keep", "()I"⟩
abbrev cX9_back : ByteArray := prog_11_method_82_code
def yX9_back : MethodName := ⟨RX9, "back", "()I"⟩
abbrev cX9_shownInAll : ByteArray := prog_11_method_83_code
def yX9_shownInAll : MethodName := ⟨RX9, "shownInAll", "()I"⟩
abbrev cX9_count : ByteArray := prog_11_method_84_code
def yX9_count : MethodName := ⟨RX9, "count", "(I)I"⟩
def RJ6 : String := "java/lang/Integer"
abbrev cJ6_bitCount_0f7a4 : ByteArray := prog_12_method_49_code
def yJ6_bitCount_0f7a4 : MethodName := ⟨RJ6, "bitCount", "(I)I"⟩
def RJ9 : String := "java/lang/Math"
abbrev cJ9_min_7cf53 : ByteArray := prog_13_method_69_code
def yJ9_min_7cf53 : MethodName := ⟨RJ9, "min", "(II)I"⟩
def RJ0 : String := "java/lang/String"
abbrev cJ0_length_8abf5 : ByteArray := prog_14_method_54_code
def yJ0_length_8abf5 : MethodName := ⟨RJ0, "length", "()I"⟩
abbrev cJ0_charAt_5068e : ByteArray := prog_14_method_56_code
def yJ0_charAt_5068e : MethodName := ⟨RJ0, "charAt", "(I)C"⟩
abbrev cJ0_coder_7d493 : ByteArray := prog_14_method_152_code
def yJ0_coder_7d493 : MethodName := ⟨RJ0, "coder", "()B"⟩
abbrev cJ0_isLatin1_aae02 : ByteArray := prog_14_method_154_code
def yJ0_isLatin1_aae02 : MethodName := ⟨RJ0, "isLatin1", "()Z"⟩
abbrev cJ0_checkIndex_df160 : ByteArray := prog_14_method_155_code
def yJ0_checkIndex_df160 : MethodName := ⟨RJ0, "checkIndex", "(II)V"⟩
def RJ1 : String := "java/lang/StringLatin1"
abbrev cJ1_charAt_3b067 : ByteArray := prog_15_method_2_code
def yJ1_charAt_3b067 : MethodName := ⟨RJ1, "charAt", "([BI)C"⟩
def RJ2 : String := "java/lang/StringUTF16"
abbrev cJ2_getChar_3b067 : ByteArray := prog_16_method_5_code
def yJ2_getChar_3b067 : MethodName := ⟨RJ2, "getChar", "([BI)C"⟩
abbrev cJ2_length_9d52b : ByteArray := prog_16_method_6_code
def yJ2_length_9d52b : MethodName := ⟨RJ2, "length", "([B)I"⟩
abbrev cJ2_charAt_3b067 : ByteArray := prog_16_method_83_code
def yJ2_charAt_3b067 : MethodName := ⟨RJ2, "charAt", "([BI)C"⟩
abbrev cJ2_checkIndex_2214a : ByteArray := prog_16_method_91_code
def yJ2_checkIndex_2214a : MethodName := ⟨RJ2, "checkIndex", "(I[B)V"⟩
def RJ10 : String := "java/lang/System"
def RJ3 : String := "jdk/internal/util/Preconditions"
abbrev cJ3_checkIndex_8e157 : ByteArray := prog_18_method_11_code
def yJ3_checkIndex_8e157 : MethodName := ⟨RJ3, "checkIndex", "(IILjava/util/function/BiFunction;)I"⟩
def RL : String := "CharadePostLaw"
abbrev cL_law : ByteArray := code
abbrev vwCl : List vw_C := [(RX0, TX0, 10), (RX1, TX1, 6), (RX2, TX2, 3), (RX3, TX3, 3), (RX4, TX4, 1), (RX5, TX5, 9), (RX6, TX6, 3), (RX7, TX7, 3), (RX8, TX8, 13), (RX9, TX9, 25)]
/-! The base of the walk: one judgement gg (the machine at a pc, with a world, locals, a stack), a row an instruction; contracts ct; the words gtb that every method has. -/
def gtb : List Cond := lw_tbl.filter goodWord
theorem gtb_mem {w : Cond} (h : w ∈ lw_tbl) (hg : goodWord w = true) : w ∈ gtb := List.mem_filter.mpr ⟨h, hg⟩
theorem gtb_hts {args : Array Value} {s : State} (hts : ∀ w ∈ lw_tbl, w.before args s = true) : ∀ w ∈ gtb, w.before args s = true := fun w h => hts w (List.mem_filter.mp h).1
theorem gtb_in {c : Cond} (hc : c ∈ gtb) : ∀ w ∈ c :: gtb, w ∈ gtb ∧ ((w.onTables && w.keeps) = true ∨ ∃ ty, w = .arrayClass ty) := by
  intro w h
  have h1 : w ∈ gtb := by
    rcases List.mem_cons.mp h with h | h
    · rw [h]; exact hc
    · exact h
  exact ⟨h1, good_of_word (List.mem_filter.mp h1).2⟩
theorem tk1 {w : Cond} {i : Nat} (h : tables_1_1[i]? = some w) (hg : goodWord w = true) : w ∈ gtb := gtb_mem (List.mem_append_right _ (List.mem_append_left _ (List.mem_of_getElem? h))) hg
theorem tk2 {w : Cond} {i : Nat} (h : tables_1_2[i]? = some w) (hg : goodWord w = true) : w ∈ gtb := gtb_mem (List.mem_append_right _ (List.mem_append_right _ (List.mem_append_left _ (List.mem_of_getElem? h)))) hg
theorem tk3 {w : Cond} {i : Nat} (h : tables_1_3[i]? = some w) (hg : goodWord w = true) : w ∈ gtb := gtb_mem (List.mem_append_right _ (List.mem_append_right _ (List.mem_append_right _ (List.mem_append_left _ (List.mem_of_getElem? h))))) hg
theorem tk4 {w : Cond} {i : Nat} (h : tables_1_4[i]? = some w) (hg : goodWord w = true) : w ∈ gtb := gtb_mem (List.mem_append_right _ (List.mem_append_right _ (List.mem_append_right _ (List.mem_append_right _ (List.mem_append_left _ (List.mem_of_getElem? h)))))) hg
theorem tk5 {w : Cond} {i : Nat} (h : tables_1_5[i]? = some w) (hg : goodWord w = true) : w ∈ gtb := gtb_mem (List.mem_append_right _ (List.mem_append_right _ (List.mem_append_right _ (List.mem_append_right _ (List.mem_append_right _ (List.mem_append_left _ (List.mem_of_getElem? h))))))) hg
theorem tk6 {w : Cond} {i : Nat} (h : tables_1_6[i]? = some w) (hg : goodWord w = true) : w ∈ gtb := gtb_mem (List.mem_append_right _ (List.mem_append_right _ (List.mem_append_right _ (List.mem_append_right _ (List.mem_append_right _ (List.mem_append_right _ (List.mem_of_getElem? h))))))) hg
theorem tk0 {w : Cond} {i : Nat} (h : (k2_sels lw_privs)[i]? = some w) (hg : goodWord w = true) : w ∈ gtb := gtb_mem (List.mem_append_left _ (List.mem_of_getElem? h)) hg
-- facts of the pool: a field, a method, a static method, a code
def fk (own : String) (idx ci k : Nat) (ty : FieldType) (fin : Bool) : Prop := ∃ (C : String) (T : u_T) (N : Nat) (ty0 : Nat → FieldType), vwCl[ci]? = some (C, T, N) ∧ (∀ w ∈ u_ws C T N, w ∈ gtb) ∧ k < N ∧ Cond.fieldLink own idx (T k).1 (T k).2.1 (T k).2.2.1 ∈ gtb ∧ (∀ k, k < N → parseFieldDescriptor (T k).2.2.1 = some (ty0 k)) ∧ (∀ a, a < N → ∀ b, b < N → a ≠ b → (T a).2.1 ≠ (T b).2.1) ∧ parseFieldDescriptor (T k).2.2.1 = some ty ∧ (T k).2.2.2 = fin ∧ (T k).1 = C
def vk (own : String) (idx : Nat) (C : String) (y : MethodName) (n : Nat) : Prop := Cond.methodLink own idx y ∈ gtb ∧ Cond.instanceMethod y ∈ gtb ∧ Cond.selects C y y ∈ gtb ∧ Cond.initialized C ∈ gtb ∧ y.cls = C ∧ y.cls ≠ "java/lang/invoke/MethodHandle" ∧ y.cls ≠ "java/lang/invoke/VarHandle" ∧ (parseMethodDescriptor y.desc).map (fun d => d.parameters.length) = some n
def sk (own : String) (idx : Nat) (y : MethodName) (n : Nat) : Prop := Cond.methodLink own idx y ∈ gtb ∧ Cond.static y ∈ gtb ∧ Cond.initialized y.cls ∈ gtb ∧ y.cls ≠ "java/lang/invoke/MethodHandle" ∧ y.cls ≠ "java/lang/invoke/VarHandle" ∧ (parseMethodDescriptor y.desc).map (fun d => d.parameters.length) = some n
theorem q1_0 : Cond.initialized RL ∈ gtb := tk1 (i := 0) rfl (by decide +kernel)
theorem q1_1 : Cond.initialized RX8 ∈ gtb := tk1 (i := 1) rfl (by decide +kernel)
theorem q1_2 : Cond.initialized RX0 ∈ gtb := tk1 (i := 2) rfl (by decide +kernel)
theorem q1_3 : Cond.initialized RX4 ∈ gtb := tk1 (i := 3) rfl (by decide +kernel)
theorem q1_4 : Cond.initialized RX7 ∈ gtb := tk1 (i := 4) rfl (by decide +kernel)
theorem q1_5 : Cond.initialized RX6 ∈ gtb := tk1 (i := 5) rfl (by decide +kernel)
theorem q1_6 : Cond.initialized RX3 ∈ gtb := tk1 (i := 6) rfl (by decide +kernel)
theorem q1_7 : Cond.initialized RX5 ∈ gtb := tk1 (i := 7) rfl (by decide +kernel)
theorem q1_8 : Cond.initialized RX1 ∈ gtb := tk1 (i := 8) rfl (by decide +kernel)
theorem q1_9 : Cond.initialized RX2 ∈ gtb := tk1 (i := 9) rfl (by decide +kernel)
theorem q1_10 : Cond.initialized RJ0 ∈ gtb := tk1 (i := 10) rfl (by decide +kernel)
theorem q1_11 : Cond.initialized RJ1 ∈ gtb := tk1 (i := 11) rfl (by decide +kernel)
theorem q1_12 : Cond.initialized RJ3 ∈ gtb := tk1 (i := 12) rfl (by decide +kernel)
theorem q1_13 : Cond.initialized RJ2 ∈ gtb := tk1 (i := 13) rfl (by decide +kernel)
theorem q1_14 : Cond.initialized RJ9 ∈ gtb := tk1 (i := 14) rfl (by decide +kernel)
theorem q1_15 : Cond.initialized RJ10 ∈ gtb := tk1 (i := 15) rfl (by decide +kernel)
theorem q1_16 : Cond.initialized RX9 ∈ gtb := tk1 (i := 16) rfl (by decide +kernel)
theorem q1_17 : Cond.initialized RJ6 ∈ gtb := tk1 (i := 17) rfl (by decide +kernel)
theorem q1_18 : Cond.classLink RL 7 RX8 ∈ gtb := tk1 (i := 18) rfl (by decide +kernel)
theorem q1_19 : Cond.instantiable RX8 13 ∈ gtb := tk1 (i := 19) rfl (by decide +kernel)
theorem q1_20 : Cond.methodLink RL 9 yX8_init ∈ gtb := tk1 (i := 20) rfl (by decide +kernel)
theorem q1_21 : Cond.instanceMethod yX8_init ∈ gtb := tk1 (i := 21) rfl (by decide +kernel)
theorem q1_22 : Cond.code yX8_init cX8_init 2 none ∈ gtb := tk1 (i := 22) rfl (by decide +kernel)
theorem q1_23 : Cond.methodLink RX8 3 objectInit ∈ gtb := tk1 (i := 23) rfl (by decide +kernel)
theorem q1_24 : Cond.instanceMethod objectInit ∈ gtb := tk1 (i := 24) rfl (by decide +kernel)
theorem q1_25 : Cond.code objectInit ⟨#[0xb1]⟩ 1 none ∈ gtb := tk1 (i := 25) rfl (by decide +kernel)
theorem q1_26 : Cond.classLink RX8 13 RX0 ∈ gtb := tk1 (i := 26) rfl (by decide +kernel)
theorem q1_27 : Cond.instantiable RX0 10 ∈ gtb := tk1 (i := 27) rfl (by decide +kernel)
theorem q1_29 : Cond.instanceMethod yX0_init ∈ gtb := tk1 (i := 29) rfl (by decide +kernel)
theorem q1_30 : Cond.code yX0_init cX0_init 1 none ∈ gtb := tk1 (i := 30) rfl (by decide +kernel)
theorem q1_31 : Cond.methodLink RX0 3 objectInit ∈ gtb := tk1 (i := 31) rfl (by decide +kernel)
theorem q1_32 : Cond.fieldLink RX0 9 "CharadePost$Board" "commons" "[I" ∈ gtb := tk1 (i := 32) rfl (by decide +kernel)
theorem q1_33 : Cond.fieldLink RX0 15 "CharadePost$Board" "lengths" "[I" ∈ gtb := tk1 (i := 33) rfl (by decide +kernel)
theorem q1_34 : Cond.fieldLink RX0 18 "CharadePost$Board" "parts" "[I" ∈ gtb := tk1 (i := 34) rfl (by decide +kernel)
theorem q1_35 : Cond.fieldLink RX0 21 "CharadePost$Board" "likenesses" "[I" ∈ gtb := tk1 (i := 35) rfl (by decide +kernel)
theorem q1_36 : Cond.fieldLink RX0 24 "CharadePost$Board" "wordCount" "I" ∈ gtb := tk1 (i := 36) rfl (by decide +kernel)
theorem q1_37 : Cond.fieldLink RX0 28 "CharadePost$Board" "likenessCount" "I" ∈ gtb := tk1 (i := 37) rfl (by decide +kernel)
theorem q1_38 : Cond.fieldLink RX0 31 "CharadePost$Board" "actorCount" "I" ∈ gtb := tk1 (i := 38) rfl (by decide +kernel)
theorem q1_39 : Cond.fieldLink RX0 34 "CharadePost$Board" "forbiddenBits" "I" ∈ gtb := tk1 (i := 39) rfl (by decide +kernel)
theorem q1_40 : Cond.fieldLink RX0 37 "CharadePost$Board" "habitTold" "I" ∈ gtb := tk1 (i := 40) rfl (by decide +kernel)
theorem q1_41 : Cond.fieldLink RX0 40 "CharadePost$Board" "priceTold" "I" ∈ gtb := tk1 (i := 41) rfl (by decide +kernel)
theorem q1_42 : Cond.laysFinal "CharadePost$Board" "CharadePost$Board" "commons" "[I" ∈ gtb := tk1 (i := 42) rfl (by decide +kernel)
theorem q1_44 : Cond.laysFinal "CharadePost$Board" "CharadePost$Board" "lengths" "[I" ∈ gtb := tk1 (i := 44) rfl (by decide +kernel)
theorem q1_46 : Cond.laysFinal "CharadePost$Board" "CharadePost$Board" "parts" "[I" ∈ gtb := tk1 (i := 46) rfl (by decide +kernel)
theorem q1_48 : Cond.laysFinal "CharadePost$Board" "CharadePost$Board" "likenesses" "[I" ∈ gtb := tk1 (i := 48) rfl (by decide +kernel)
theorem q1_50 : Cond.lays "CharadePost$Board" "CharadePost$Board" "wordCount" "I" ∈ gtb := tk1 (i := 50) rfl (by decide +kernel)
theorem q1_52 : Cond.lays "CharadePost$Board" "CharadePost$Board" "likenessCount" "I" ∈ gtb := tk1 (i := 52) rfl (by decide +kernel)
theorem q1_54 : Cond.lays "CharadePost$Board" "CharadePost$Board" "actorCount" "I" ∈ gtb := tk1 (i := 54) rfl (by decide +kernel)
theorem q1_56 : Cond.lays "CharadePost$Board" "CharadePost$Board" "forbiddenBits" "I" ∈ gtb := tk1 (i := 56) rfl (by decide +kernel)
theorem q1_58 : Cond.lays "CharadePost$Board" "CharadePost$Board" "habitTold" "I" ∈ gtb := tk1 (i := 58) rfl (by decide +kernel)
theorem q1_60 : Cond.lays "CharadePost$Board" "CharadePost$Board" "priceTold" "I" ∈ gtb := tk1 (i := 60) rfl (by decide +kernel)
theorem q1_63 : Cond.arrayClass Jvm.ClassFile.FieldType.int ∈ gtb := tk1 (i := 63) rfl (by decide +kernel)
theorem q1_64 : Cond.classLink RX8 23 RX4 ∈ gtb := tk1 (i := 64) rfl (by decide +kernel)
theorem q1_65 : Cond.instantiable RX4 1 ∈ gtb := tk1 (i := 65) rfl (by decide +kernel)
theorem q1_67 : Cond.instanceMethod yX4_init ∈ gtb := tk1 (i := 67) rfl (by decide +kernel)
theorem q1_68 : Cond.code yX4_init cX4_init 1 none ∈ gtb := tk1 (i := 68) rfl (by decide +kernel)
theorem q1_69 : Cond.methodLink RX4 3 objectInit ∈ gtb := tk1 (i := 69) rfl (by decide +kernel)
theorem q1_70 : Cond.fieldLink RX4 9 "CharadePost$Scene" "cells" "[I" ∈ gtb := tk1 (i := 70) rfl (by decide +kernel)
theorem q1_72 : Cond.laysFinal "CharadePost$Scene" "CharadePost$Scene" "cells" "[I" ∈ gtb := tk1 (i := 72) rfl (by decide +kernel)
theorem q1_75 : Cond.classLink RX8 33 RX7 ∈ gtb := tk1 (i := 75) rfl (by decide +kernel)
theorem q1_76 : Cond.instantiable RX7 3 ∈ gtb := tk1 (i := 76) rfl (by decide +kernel)
theorem q1_77 : Cond.methodLink RX8 35 yX7_init ∈ gtb := tk1 (i := 77) rfl (by decide +kernel)
theorem q1_78 : Cond.instanceMethod yX7_init ∈ gtb := tk1 (i := 78) rfl (by decide +kernel)
theorem q1_79 : Cond.code yX7_init cX7_init 2 none ∈ gtb := tk1 (i := 79) rfl (by decide +kernel)
theorem q1_80 : Cond.methodLink RX7 3 objectInit ∈ gtb := tk1 (i := 80) rfl (by decide +kernel)
theorem q1_81 : Cond.fieldLink RX7 15 "CharadePost$Shelf" "rows" "[I" ∈ gtb := tk1 (i := 81) rfl (by decide +kernel)
theorem q1_82 : Cond.fieldLink RX7 9 "CharadePost$Shelf" "most" "I" ∈ gtb := tk1 (i := 82) rfl (by decide +kernel)
theorem q1_83 : Cond.fieldLink RX7 19 "CharadePost$Shelf" "used" "I" ∈ gtb := tk1 (i := 83) rfl (by decide +kernel)
theorem q1_84 : Cond.laysFinal "CharadePost$Shelf" "CharadePost$Shelf" "rows" "[I" ∈ gtb := tk1 (i := 84) rfl (by decide +kernel)
theorem q1_86 : Cond.laysFinal "CharadePost$Shelf" "CharadePost$Shelf" "most" "I" ∈ gtb := tk1 (i := 86) rfl (by decide +kernel)
theorem q1_88 : Cond.lays "CharadePost$Shelf" "CharadePost$Shelf" "used" "I" ∈ gtb := tk1 (i := 88) rfl (by decide +kernel)
theorem q1_91 : Cond.classLink RX8 45 RX6 ∈ gtb := tk1 (i := 91) rfl (by decide +kernel)
theorem q1_92 : Cond.instantiable RX6 3 ∈ gtb := tk1 (i := 92) rfl (by decide +kernel)
theorem q1_94 : Cond.instanceMethod yX6_init ∈ gtb := tk1 (i := 94) rfl (by decide +kernel)
theorem q1_95 : Cond.code yX6_init cX6_init 1 none ∈ gtb := tk1 (i := 95) rfl (by decide +kernel)
theorem q1_96 : Cond.methodLink RX6 3 objectInit ∈ gtb := tk1 (i := 96) rfl (by decide +kernel)
theorem q1_97 : Cond.fieldLink RX6 9 "CharadePost$Seen" "actors" "[I" ∈ gtb := tk1 (i := 97) rfl (by decide +kernel)
theorem q1_98 : Cond.fieldLink RX6 15 "CharadePost$Seen" "words" "[I" ∈ gtb := tk1 (i := 98) rfl (by decide +kernel)
theorem q1_99 : Cond.fieldLink RX6 18 "CharadePost$Seen" "used" "I" ∈ gtb := tk1 (i := 99) rfl (by decide +kernel)
theorem q1_100 : Cond.laysFinal "CharadePost$Seen" "CharadePost$Seen" "actors" "[I" ∈ gtb := tk1 (i := 100) rfl (by decide +kernel)
theorem q1_102 : Cond.laysFinal "CharadePost$Seen" "CharadePost$Seen" "words" "[I" ∈ gtb := tk1 (i := 102) rfl (by decide +kernel)
theorem q1_104 : Cond.lays "CharadePost$Seen" "CharadePost$Seen" "used" "I" ∈ gtb := tk1 (i := 104) rfl (by decide +kernel)
theorem q1_107 : Cond.classLink RX8 52 RX3 ∈ gtb := tk1 (i := 107) rfl (by decide +kernel)
theorem q1_108 : Cond.instantiable RX3 3 ∈ gtb := tk1 (i := 108) rfl (by decide +kernel)
theorem q1_110 : Cond.instanceMethod yX3_init ∈ gtb := tk1 (i := 110) rfl (by decide +kernel)
theorem q1_111 : Cond.code yX3_init cX3_init 1 none ∈ gtb := tk1 (i := 111) rfl (by decide +kernel)
theorem q1_112 : Cond.methodLink RX3 3 objectInit ∈ gtb := tk1 (i := 112) rfl (by decide +kernel)
theorem q1_113 : Cond.fieldLink RX3 9 "CharadePost$Reader" "text" "[I" ∈ gtb := tk1 (i := 113) rfl (by decide +kernel)
theorem q1_114 : Cond.fieldLink RX3 21 "CharadePost$Reader" "end" "I" ∈ gtb := tk1 (i := 114) rfl (by decide +kernel)
theorem q1_115 : Cond.fieldLink RX3 25 "CharadePost$Reader" "at" "I" ∈ gtb := tk1 (i := 115) rfl (by decide +kernel)
theorem q1_116 : Cond.lays "CharadePost$Reader" "CharadePost$Reader" "text" "[I" ∈ gtb := tk1 (i := 116) rfl (by decide +kernel)
theorem q1_118 : Cond.lays "CharadePost$Reader" "CharadePost$Reader" "end" "I" ∈ gtb := tk1 (i := 118) rfl (by decide +kernel)
theorem q1_120 : Cond.lays "CharadePost$Reader" "CharadePost$Reader" "at" "I" ∈ gtb := tk1 (i := 120) rfl (by decide +kernel)
theorem q1_123 : Cond.classLink RX8 59 RX5 ∈ gtb := tk1 (i := 123) rfl (by decide +kernel)
theorem q1_124 : Cond.instantiable RX5 9 ∈ gtb := tk1 (i := 124) rfl (by decide +kernel)
theorem q1_126 : Cond.instanceMethod yX5_init ∈ gtb := tk1 (i := 126) rfl (by decide +kernel)
theorem q1_127 : Cond.code yX5_init cX5_init 1 none ∈ gtb := tk1 (i := 127) rfl (by decide +kernel)
theorem q1_128 : Cond.methodLink RX5 3 objectInit ∈ gtb := tk1 (i := 128) rfl (by decide +kernel)
theorem q1_129 : Cond.fieldLink RX5 9 "CharadePost$Search" "free" "[I" ∈ gtb := tk1 (i := 129) rfl (by decide +kernel)
theorem q1_130 : Cond.fieldLink RX5 15 "CharadePost$Search" "factors" "[I" ∈ gtb := tk1 (i := 130) rfl (by decide +kernel)
theorem q1_131 : Cond.fieldLink RX5 18 "CharadePost$Search" "weights" "[I" ∈ gtb := tk1 (i := 131) rfl (by decide +kernel)
theorem q1_132 : Cond.fieldLink RX5 21 "CharadePost$Search" "row" "[I" ∈ gtb := tk1 (i := 132) rfl (by decide +kernel)
theorem q1_133 : Cond.fieldLink RX5 24 "CharadePost$Search" "lengths" "[I" ∈ gtb := tk1 (i := 133) rfl (by decide +kernel)
theorem q1_134 : Cond.fieldLink RX5 27 "CharadePost$Search" "signs" "[I" ∈ gtb := tk1 (i := 134) rfl (by decide +kernel)
theorem q1_135 : Cond.fieldLink RX5 56 "CharadePost$Search" "words" "I" ∈ gtb := tk1 (i := 135) rfl (by decide +kernel)
theorem q1_136 : Cond.fieldLink RX5 79 "CharadePost$Search" "freeCount" "I" ∈ gtb := tk1 (i := 136) rfl (by decide +kernel)
theorem q1_137 : Cond.fieldLink RX5 69 "CharadePost$Search" "open" "I" ∈ gtb := tk1 (i := 137) rfl (by decide +kernel)
theorem q1_138 : Cond.laysFinal "CharadePost$Search" "CharadePost$Search" "free" "[I" ∈ gtb := tk1 (i := 138) rfl (by decide +kernel)
theorem q1_140 : Cond.laysFinal "CharadePost$Search" "CharadePost$Search" "factors" "[I" ∈ gtb := tk1 (i := 140) rfl (by decide +kernel)
theorem q1_142 : Cond.laysFinal "CharadePost$Search" "CharadePost$Search" "weights" "[I" ∈ gtb := tk1 (i := 142) rfl (by decide +kernel)
theorem q1_144 : Cond.laysFinal "CharadePost$Search" "CharadePost$Search" "row" "[I" ∈ gtb := tk1 (i := 144) rfl (by decide +kernel)
theorem q1_146 : Cond.laysFinal "CharadePost$Search" "CharadePost$Search" "lengths" "[I" ∈ gtb := tk1 (i := 146) rfl (by decide +kernel)
theorem q1_148 : Cond.laysFinal "CharadePost$Search" "CharadePost$Search" "signs" "[I" ∈ gtb := tk1 (i := 148) rfl (by decide +kernel)
theorem q1_150 : Cond.lays "CharadePost$Search" "CharadePost$Search" "words" "I" ∈ gtb := tk1 (i := 150) rfl (by decide +kernel)
theorem q1_152 : Cond.lays "CharadePost$Search" "CharadePost$Search" "freeCount" "I" ∈ gtb := tk1 (i := 152) rfl (by decide +kernel)
theorem q1_154 : Cond.lays "CharadePost$Search" "CharadePost$Search" "open" "I" ∈ gtb := tk1 (i := 154) rfl (by decide +kernel)
theorem q1_157 : Cond.classLink RX8 66 RX1 ∈ gtb := tk1 (i := 157) rfl (by decide +kernel)
theorem q1_158 : Cond.instantiable RX1 6 ∈ gtb := tk1 (i := 158) rfl (by decide +kernel)
theorem q1_160 : Cond.instanceMethod yX1_init ∈ gtb := tk1 (i := 160) rfl (by decide +kernel)
theorem q1_161 : Cond.code yX1_init cX1_init 1 none ∈ gtb := tk1 (i := 161) rfl (by decide +kernel)
theorem q1_162 : Cond.methodLink RX1 3 objectInit ∈ gtb := tk1 (i := 162) rfl (by decide +kernel)
theorem q1_163 : Cond.fieldLink RX1 9 "CharadePost$Deal" "actors" "[I" ∈ gtb := tk1 (i := 163) rfl (by decide +kernel)
theorem q1_164 : Cond.fieldLink RX1 15 "CharadePost$Deal" "words" "[I" ∈ gtb := tk1 (i := 164) rfl (by decide +kernel)
theorem q1_165 : Cond.fieldLink RX1 18 "CharadePost$Deal" "costs" "[I" ∈ gtb := tk1 (i := 165) rfl (by decide +kernel)
theorem q1_166 : Cond.fieldLink RX1 21 "CharadePost$Deal" "least" "[I" ∈ gtb := tk1 (i := 166) rfl (by decide +kernel)
theorem q1_167 : Cond.fieldLink RX1 24 "CharadePost$Deal" "dealt" "[I" ∈ gtb := tk1 (i := 167) rfl (by decide +kernel)
theorem q1_168 : Cond.fieldLink RX1 27 "CharadePost$Deal" "used" "I" ∈ gtb := tk1 (i := 168) rfl (by decide +kernel)
theorem q1_169 : Cond.laysFinal "CharadePost$Deal" "CharadePost$Deal" "actors" "[I" ∈ gtb := tk1 (i := 169) rfl (by decide +kernel)
theorem q1_171 : Cond.laysFinal "CharadePost$Deal" "CharadePost$Deal" "words" "[I" ∈ gtb := tk1 (i := 171) rfl (by decide +kernel)
theorem q1_173 : Cond.laysFinal "CharadePost$Deal" "CharadePost$Deal" "costs" "[I" ∈ gtb := tk1 (i := 173) rfl (by decide +kernel)
theorem q1_175 : Cond.laysFinal "CharadePost$Deal" "CharadePost$Deal" "least" "[I" ∈ gtb := tk1 (i := 175) rfl (by decide +kernel)
theorem q1_177 : Cond.laysFinal "CharadePost$Deal" "CharadePost$Deal" "dealt" "[I" ∈ gtb := tk1 (i := 177) rfl (by decide +kernel)
theorem q1_179 : Cond.lays "CharadePost$Deal" "CharadePost$Deal" "used" "I" ∈ gtb := tk1 (i := 179) rfl (by decide +kernel)
theorem q1_182 : Cond.classLink RX8 73 RX2 ∈ gtb := tk1 (i := 182) rfl (by decide +kernel)
theorem q1_183 : Cond.instantiable RX2 3 ∈ gtb := tk1 (i := 183) rfl (by decide +kernel)
theorem q1_185 : Cond.instanceMethod yX2_init ∈ gtb := tk1 (i := 185) rfl (by decide +kernel)
theorem q1_186 : Cond.code yX2_init cX2_init 1 none ∈ gtb := tk1 (i := 186) rfl (by decide +kernel)
theorem q1_187 : Cond.methodLink RX2 3 objectInit ∈ gtb := tk1 (i := 187) rfl (by decide +kernel)
theorem q1_188 : Cond.fieldLink RX2 9 "CharadePost$Line" "actors" "[I" ∈ gtb := tk1 (i := 188) rfl (by decide +kernel)
theorem q1_189 : Cond.fieldLink RX2 15 "CharadePost$Line" "minutes" "[I" ∈ gtb := tk1 (i := 189) rfl (by decide +kernel)
theorem q1_190 : Cond.fieldLink RX2 18 "CharadePost$Line" "used" "I" ∈ gtb := tk1 (i := 190) rfl (by decide +kernel)
theorem q1_191 : Cond.laysFinal "CharadePost$Line" "CharadePost$Line" "actors" "[I" ∈ gtb := tk1 (i := 191) rfl (by decide +kernel)
theorem q1_193 : Cond.laysFinal "CharadePost$Line" "CharadePost$Line" "minutes" "[I" ∈ gtb := tk1 (i := 193) rfl (by decide +kernel)
theorem q1_195 : Cond.lays "CharadePost$Line" "CharadePost$Line" "used" "I" ∈ gtb := tk1 (i := 195) rfl (by decide +kernel)
theorem q1_199 : Cond.methodLink RX8 82 yJ0_length_8abf5 ∈ gtb := tk1 (i := 199) rfl (by decide +kernel)
theorem q1_200 : Cond.instanceMethod yJ0_length_8abf5 ∈ gtb := tk1 (i := 200) rfl (by decide +kernel)
theorem q1_201 : Cond.selects RJ0 yJ0_length_8abf5 yJ0_length_8abf5 ∈ gtb := tk1 (i := 201) rfl (by decide +kernel)
theorem q1_202 : Cond.code yJ0_length_8abf5 cJ0_length_8abf5 1 (some .int) ∈ gtb := tk1 (i := 202) rfl (by decide +kernel)
theorem q1_203 : Cond.methodLink RJ0 335 yJ0_coder_7d493 ∈ gtb := tk1 (i := 203) rfl (by decide +kernel)
theorem q1_204 : Cond.instanceMethod yJ0_coder_7d493 ∈ gtb := tk1 (i := 204) rfl (by decide +kernel)
theorem q1_205 : Cond.selects RJ0 yJ0_coder_7d493 yJ0_coder_7d493 ∈ gtb := tk1 (i := 205) rfl (by decide +kernel)
theorem q1_206 : Cond.code yJ0_coder_7d493 cJ0_coder_7d493 1 (some .byte) ∈ gtb := tk1 (i := 206) rfl (by decide +kernel)
theorem q1_207 : Cond.fieldLink RJ0 38 "java/lang/String" "COMPACT_STRINGS" "Z" ∈ gtb := tk1 (i := 207) rfl (by decide +kernel)
theorem q1_209 : Cond.methodLink RX8 88 yJ0_charAt_5068e ∈ gtb := tk1 (i := 209) rfl (by decide +kernel)
theorem q1_210 : Cond.instanceMethod yJ0_charAt_5068e ∈ gtb := tk1 (i := 210) rfl (by decide +kernel)
theorem q1_211 : Cond.selects RJ0 yJ0_charAt_5068e yJ0_charAt_5068e ∈ gtb := tk1 (i := 211) rfl (by decide +kernel)
theorem q1_212 : Cond.code yJ0_charAt_5068e cJ0_charAt_5068e 2 (some .char) ∈ gtb := tk1 (i := 212) rfl (by decide +kernel)
theorem q1_213 : Cond.methodLink RJ0 492 yJ0_isLatin1_aae02 ∈ gtb := tk1 (i := 213) rfl (by decide +kernel)
theorem q1_214 : Cond.instanceMethod yJ0_isLatin1_aae02 ∈ gtb := tk1 (i := 214) rfl (by decide +kernel)
theorem q1_215 : Cond.selects RJ0 yJ0_isLatin1_aae02 yJ0_isLatin1_aae02 ∈ gtb := tk1 (i := 215) rfl (by decide +kernel)
theorem q1_216 : Cond.code yJ0_isLatin1_aae02 cJ0_isLatin1_aae02 1 (some .boolean) ∈ gtb := tk1 (i := 216) rfl (by decide +kernel)
theorem q1_217 : Cond.methodLink RJ0 495 yJ1_charAt_3b067 ∈ gtb := tk1 (i := 217) rfl (by decide +kernel)
theorem q1_218 : Cond.static yJ1_charAt_3b067 ∈ gtb := tk1 (i := 218) rfl (by decide +kernel)
theorem q1_219 : Cond.code yJ1_charAt_3b067 cJ1_charAt_3b067 2 (some .char) ∈ gtb := tk1 (i := 219) rfl (by decide +kernel)
theorem q1_220 : Cond.methodLink RJ1 9 yJ0_checkIndex_df160 ∈ gtb := tk1 (i := 220) rfl (by decide +kernel)
theorem q1_221 : Cond.static yJ0_checkIndex_df160 ∈ gtb := tk1 (i := 221) rfl (by decide +kernel)
theorem q1_222 : Cond.code yJ0_checkIndex_df160 cJ0_checkIndex_df160 2 none ∈ gtb := tk1 (i := 222) rfl (by decide +kernel)
theorem q1_223 : Cond.fieldLink RJ0 1053 "jdk/internal/util/Preconditions" "SIOOBE_FORMATTER" "Ljava/util/function/BiFunction;" ∈ gtb := tk1 (i := 223) rfl (by decide +kernel)
theorem q1_225 : Cond.methodLink RJ0 1059 yJ3_checkIndex_8e157 ∈ gtb := tk1 (i := 225) rfl (by decide +kernel)
theorem q1_226 : Cond.static yJ3_checkIndex_8e157 ∈ gtb := tk1 (i := 226) rfl (by decide +kernel)
theorem q1_227 : Cond.code yJ3_checkIndex_8e157 cJ3_checkIndex_8e157 3 (some .int) ∈ gtb := tk1 (i := 227) rfl (by decide +kernel)
theorem q1_228 : Cond.methodLink RJ0 498 yJ2_charAt_3b067 ∈ gtb := tk1 (i := 228) rfl (by decide +kernel)
theorem q1_229 : Cond.static yJ2_charAt_3b067 ∈ gtb := tk1 (i := 229) rfl (by decide +kernel)
theorem q1_230 : Cond.code yJ2_charAt_3b067 cJ2_charAt_3b067 2 (some .char) ∈ gtb := tk1 (i := 230) rfl (by decide +kernel)
theorem q1_231 : Cond.methodLink RJ2 67 yJ2_checkIndex_2214a ∈ gtb := tk1 (i := 231) rfl (by decide +kernel)
theorem q1_232 : Cond.static yJ2_checkIndex_2214a ∈ gtb := tk1 (i := 232) rfl (by decide +kernel)
theorem q1_233 : Cond.code yJ2_checkIndex_2214a cJ2_checkIndex_2214a 2 none ∈ gtb := tk1 (i := 233) rfl (by decide +kernel)
theorem q1_234 : Cond.methodLink RJ2 48 yJ2_length_9d52b ∈ gtb := tk1 (i := 234) rfl (by decide +kernel)
theorem q1_235 : Cond.static yJ2_length_9d52b ∈ gtb := tk1 (i := 235) rfl (by decide +kernel)
theorem q1_236 : Cond.code yJ2_length_9d52b cJ2_length_9d52b 1 (some .int) ∈ gtb := tk1 (i := 236) rfl (by decide +kernel)
theorem q1_237 : Cond.methodLink RJ2 414 yJ0_checkIndex_df160 ∈ gtb := tk1 (i := 237) rfl (by decide +kernel)
theorem q1_238 : Cond.methodLink RJ2 71 yJ2_getChar_3b067 ∈ gtb := tk1 (i := 238) rfl (by decide +kernel)
theorem q1_239 : Cond.static yJ2_getChar_3b067 ∈ gtb := tk1 (i := 239) rfl (by decide +kernel)
theorem q2_0 : Cond.code yJ2_getChar_3b067 cJ2_getChar_3b067 2 (some .char) ∈ gtb := tk2 (i := 0) rfl (by decide +kernel)
theorem q2_1 : Cond.fieldLink RJ2 44 "java/lang/StringUTF16" "$assertionsDisabled" "Z" ∈ gtb := tk2 (i := 1) rfl (by decide +kernel)
theorem q2_3 : Cond.fieldLink RJ2 59 "java/lang/StringUTF16" "HI_BYTE_SHIFT" "I" ∈ gtb := tk2 (i := 3) rfl (by decide +kernel)
theorem q2_5 : Cond.fieldLink RJ2 63 "java/lang/StringUTF16" "LO_BYTE_SHIFT" "I" ∈ gtb := tk2 (i := 5) rfl (by decide +kernel)
theorem q2_7 : Cond.methodLink RX8 92 yJ9_min_7cf53 ∈ gtb := tk2 (i := 7) rfl (by decide +kernel)
theorem q2_8 : Cond.static yJ9_min_7cf53 ∈ gtb := tk2 (i := 8) rfl (by decide +kernel)
theorem q2_9 : Cond.code yJ9_min_7cf53 cJ9_min_7cf53 2 (some .int) ∈ gtb := tk2 (i := 9) rfl (by decide +kernel)
theorem q2_10 : Cond.methodLink RX8 101 yX8_lay ∈ gtb := tk2 (i := 10) rfl (by decide +kernel)
theorem q2_11 : Cond.instanceMethod yX8_lay ∈ gtb := tk2 (i := 11) rfl (by decide +kernel)
theorem q2_12 : Cond.selects RX8 yX8_lay yX8_lay ∈ gtb := tk2 (i := 12) rfl (by decide +kernel)
theorem q2_13 : Cond.code yX8_lay cX8_lay 3 (some .int) ∈ gtb := tk2 (i := 13) rfl (by decide +kernel)
theorem q2_14 : Cond.methodLink RX8 104 yX3_firstFault ∈ gtb := tk2 (i := 14) rfl (by decide +kernel)
theorem q2_15 : Cond.instanceMethod yX3_firstFault ∈ gtb := tk2 (i := 15) rfl (by decide +kernel)
theorem q2_16 : Cond.selects RX3 yX3_firstFault yX3_firstFault ∈ gtb := tk2 (i := 16) rfl (by decide +kernel)
theorem q2_17 : Cond.code yX3_firstFault cX3_firstFault 7 (some .int) ∈ gtb := tk2 (i := 17) rfl (by decide +kernel)
theorem q2_18 : Cond.methodLink RX3 15 yJ9_min_7cf53 ∈ gtb := tk2 (i := 18) rfl (by decide +kernel)
theorem q2_19 : Cond.methodLink RX3 28 yX0_clear ∈ gtb := tk2 (i := 19) rfl (by decide +kernel)
theorem q2_20 : Cond.instanceMethod yX0_clear ∈ gtb := tk2 (i := 20) rfl (by decide +kernel)
theorem q2_21 : Cond.selects RX0 yX0_clear yX0_clear ∈ gtb := tk2 (i := 21) rfl (by decide +kernel)
theorem q2_22 : Cond.code yX0_clear cX0_clear 1 none ∈ gtb := tk2 (i := 22) rfl (by decide +kernel)
theorem q2_23 : Cond.methodLink RX3 33 yX3_readItem ∈ gtb := tk2 (i := 23) rfl (by decide +kernel)
theorem q2_25 : Cond.instanceMethod yX3_readItem ∈ gtb := tk2 (i := 25) rfl (by decide +kernel)
theorem q2_26 : Cond.code yX3_readItem cX3_readItem 4 (some .boolean) ∈ gtb := tk2 (i := 26) rfl (by decide +kernel)
theorem q2_27 : Cond.methodLink RX3 37 yX3_peek ∈ gtb := tk2 (i := 27) rfl (by decide +kernel)
theorem q2_29 : Cond.instanceMethod yX3_peek ∈ gtb := tk2 (i := 29) rfl (by decide +kernel)
theorem q2_30 : Cond.code yX3_peek cX3_peek 1 (some .int) ∈ gtb := tk2 (i := 30) rfl (by decide +kernel)
theorem q2_31 : Cond.methodLink RX3 41 yX3_readWord ∈ gtb := tk2 (i := 31) rfl (by decide +kernel)
theorem q2_33 : Cond.instanceMethod yX3_readWord ∈ gtb := tk2 (i := 33) rfl (by decide +kernel)
theorem q2_34 : Cond.code yX3_readWord cX3_readWord 5 (some .boolean) ∈ gtb := tk2 (i := 34) rfl (by decide +kernel)
theorem q2_35 : Cond.methodLink RX3 60 yX3_number ∈ gtb := tk2 (i := 35) rfl (by decide +kernel)
theorem q2_37 : Cond.instanceMethod yX3_number ∈ gtb := tk2 (i := 37) rfl (by decide +kernel)
theorem q2_38 : Cond.code yX3_number cX3_number 5 (some .int) ∈ gtb := tk2 (i := 38) rfl (by decide +kernel)
theorem q2_39 : Cond.methodLink RX3 100 yX3_isFigure ∈ gtb := tk2 (i := 39) rfl (by decide +kernel)
theorem q2_40 : Cond.static yX3_isFigure ∈ gtb := tk2 (i := 40) rfl (by decide +kernel)
theorem q2_41 : Cond.code yX3_isFigure cX3_isFigure 1 (some .boolean) ∈ gtb := tk2 (i := 41) rfl (by decide +kernel)
theorem q2_42 : Cond.methodLink RX3 63 yX3_passes ∈ gtb := tk2 (i := 42) rfl (by decide +kernel)
theorem q2_44 : Cond.instanceMethod yX3_passes ∈ gtb := tk2 (i := 44) rfl (by decide +kernel)
theorem q2_45 : Cond.code yX3_passes cX3_passes 2 (some .boolean) ∈ gtb := tk2 (i := 45) rfl (by decide +kernel)
theorem q2_46 : Cond.methodLink RX3 67 yX0_addWord ∈ gtb := tk2 (i := 46) rfl (by decide +kernel)
theorem q2_47 : Cond.instanceMethod yX0_addWord ∈ gtb := tk2 (i := 47) rfl (by decide +kernel)
theorem q2_48 : Cond.selects RX0 yX0_addWord yX0_addWord ∈ gtb := tk2 (i := 48) rfl (by decide +kernel)
theorem q2_49 : Cond.code yX0_addWord cX0_addWord 4 (some .boolean) ∈ gtb := tk2 (i := 49) rfl (by decide +kernel)
theorem q2_50 : Cond.methodLink RX3 45 yX3_readLikeness ∈ gtb := tk2 (i := 50) rfl (by decide +kernel)
theorem q2_52 : Cond.instanceMethod yX3_readLikeness ∈ gtb := tk2 (i := 52) rfl (by decide +kernel)
theorem q2_53 : Cond.code yX3_readLikeness cX3_readLikeness 5 (some .boolean) ∈ gtb := tk2 (i := 53) rfl (by decide +kernel)
theorem q2_54 : Cond.methodLink RX3 71 yX0_words ∈ gtb := tk2 (i := 54) rfl (by decide +kernel)
theorem q2_55 : Cond.instanceMethod yX0_words ∈ gtb := tk2 (i := 55) rfl (by decide +kernel)
theorem q2_56 : Cond.selects RX0 yX0_words yX0_words ∈ gtb := tk2 (i := 56) rfl (by decide +kernel)
theorem q2_57 : Cond.code yX0_words cX0_words 1 (some .int) ∈ gtb := tk2 (i := 57) rfl (by decide +kernel)
theorem q2_58 : Cond.methodLink RX3 74 yX0_addLikeness ∈ gtb := tk2 (i := 58) rfl (by decide +kernel)
theorem q2_59 : Cond.instanceMethod yX0_addLikeness ∈ gtb := tk2 (i := 59) rfl (by decide +kernel)
theorem q2_60 : Cond.selects RX0 yX0_addLikeness yX0_addLikeness ∈ gtb := tk2 (i := 60) rfl (by decide +kernel)
theorem q2_61 : Cond.code yX0_addLikeness cX0_addLikeness 2 (some .boolean) ∈ gtb := tk2 (i := 61) rfl (by decide +kernel)
theorem q2_62 : Cond.methodLink RX3 48 yX3_readForbidden ∈ gtb := tk2 (i := 62) rfl (by decide +kernel)
theorem q2_64 : Cond.instanceMethod yX3_readForbidden ∈ gtb := tk2 (i := 64) rfl (by decide +kernel)
theorem q2_65 : Cond.code yX3_readForbidden cX3_readForbidden 3 (some .boolean) ∈ gtb := tk2 (i := 65) rfl (by decide +kernel)
theorem q2_66 : Cond.methodLink RX3 77 yX0_forbid ∈ gtb := tk2 (i := 66) rfl (by decide +kernel)
theorem q2_67 : Cond.instanceMethod yX0_forbid ∈ gtb := tk2 (i := 67) rfl (by decide +kernel)
theorem q2_68 : Cond.selects RX0 yX0_forbid yX0_forbid ∈ gtb := tk2 (i := 68) rfl (by decide +kernel)
theorem q2_69 : Cond.code yX0_forbid cX0_forbid 2 none ∈ gtb := tk2 (i := 69) rfl (by decide +kernel)
theorem q2_70 : Cond.methodLink RX3 51 yX3_readHabit ∈ gtb := tk2 (i := 70) rfl (by decide +kernel)
theorem q2_72 : Cond.instanceMethod yX3_readHabit ∈ gtb := tk2 (i := 72) rfl (by decide +kernel)
theorem q2_73 : Cond.code yX3_readHabit cX3_readHabit 4 (some .boolean) ∈ gtb := tk2 (i := 73) rfl (by decide +kernel)
theorem q2_74 : Cond.methodLink RX3 81 yX0_setHabit ∈ gtb := tk2 (i := 74) rfl (by decide +kernel)
theorem q2_75 : Cond.instanceMethod yX0_setHabit ∈ gtb := tk2 (i := 75) rfl (by decide +kernel)
theorem q2_76 : Cond.selects RX0 yX0_setHabit yX0_setHabit ∈ gtb := tk2 (i := 76) rfl (by decide +kernel)
theorem q2_77 : Cond.code yX0_setHabit cX0_setHabit 2 none ∈ gtb := tk2 (i := 77) rfl (by decide +kernel)
theorem q2_78 : Cond.methodLink RX3 54 yX3_readPrice ∈ gtb := tk2 (i := 78) rfl (by decide +kernel)
theorem q2_80 : Cond.instanceMethod yX3_readPrice ∈ gtb := tk2 (i := 80) rfl (by decide +kernel)
theorem q2_81 : Cond.code yX3_readPrice cX3_readPrice 3 (some .boolean) ∈ gtb := tk2 (i := 81) rfl (by decide +kernel)
theorem q2_82 : Cond.methodLink RX3 84 yX0_setPrice ∈ gtb := tk2 (i := 82) rfl (by decide +kernel)
theorem q2_83 : Cond.instanceMethod yX0_setPrice ∈ gtb := tk2 (i := 83) rfl (by decide +kernel)
theorem q2_84 : Cond.selects RX0 yX0_setPrice yX0_setPrice ∈ gtb := tk2 (i := 84) rfl (by decide +kernel)
theorem q2_85 : Cond.code yX0_setPrice cX0_setPrice 2 none ∈ gtb := tk2 (i := 85) rfl (by decide +kernel)
theorem q2_86 : Cond.methodLink RX3 57 yX3_readActor ∈ gtb := tk2 (i := 86) rfl (by decide +kernel)
theorem q2_88 : Cond.instanceMethod yX3_readActor ∈ gtb := tk2 (i := 88) rfl (by decide +kernel)
theorem q2_89 : Cond.code yX3_readActor cX3_readActor 6 (some .boolean) ∈ gtb := tk2 (i := 89) rfl (by decide +kernel)
theorem q2_90 : Cond.methodLink RX3 87 yX0_addActor ∈ gtb := tk2 (i := 90) rfl (by decide +kernel)
theorem q2_91 : Cond.instanceMethod yX0_addActor ∈ gtb := tk2 (i := 91) rfl (by decide +kernel)
theorem q2_92 : Cond.selects RX0 yX0_addActor yX0_addActor ∈ gtb := tk2 (i := 92) rfl (by decide +kernel)
theorem q2_93 : Cond.code yX0_addActor cX0_addActor 1 (some .boolean) ∈ gtb := tk2 (i := 93) rfl (by decide +kernel)
theorem q2_94 : Cond.methodLink RX3 91 yX0_actors ∈ gtb := tk2 (i := 94) rfl (by decide +kernel)
theorem q2_95 : Cond.instanceMethod yX0_actors ∈ gtb := tk2 (i := 95) rfl (by decide +kernel)
theorem q2_96 : Cond.selects RX0 yX0_actors yX0_actors ∈ gtb := tk2 (i := 96) rfl (by decide +kernel)
theorem q2_97 : Cond.code yX0_actors cX0_actors 1 (some .int) ∈ gtb := tk2 (i := 97) rfl (by decide +kernel)
theorem q2_98 : Cond.methodLink RX3 94 yX4_start ∈ gtb := tk2 (i := 98) rfl (by decide +kernel)
theorem q2_99 : Cond.instanceMethod yX4_start ∈ gtb := tk2 (i := 99) rfl (by decide +kernel)
theorem q2_100 : Cond.selects RX4 yX4_start yX4_start ∈ gtb := tk2 (i := 100) rfl (by decide +kernel)
theorem q2_101 : Cond.code yX4_start cX4_start 6 none ∈ gtb := tk2 (i := 101) rfl (by decide +kernel)
theorem q2_102 : Cond.methodLink RX4 15 yX4_set ∈ gtb := tk2 (i := 102) rfl (by decide +kernel)
theorem q2_103 : Cond.instanceMethod yX4_set ∈ gtb := tk2 (i := 103) rfl (by decide +kernel)
theorem q2_104 : Cond.selects RX4 yX4_set yX4_set ∈ gtb := tk2 (i := 104) rfl (by decide +kernel)
theorem q2_105 : Cond.code yX4_set cX4_set 5 none ∈ gtb := tk2 (i := 105) rfl (by decide +kernel)
theorem q2_106 : Cond.methodLink RX8 108 yX0_words ∈ gtb := tk2 (i := 106) rfl (by decide +kernel)
theorem q2_107 : Cond.methodLink RX8 111 yX0_actors ∈ gtb := tk2 (i := 107) rfl (by decide +kernel)
theorem q2_108 : Cond.methodLink RX8 114 yX4_copyFrom ∈ gtb := tk2 (i := 108) rfl (by decide +kernel)
theorem q2_109 : Cond.instanceMethod yX4_copyFrom ∈ gtb := tk2 (i := 109) rfl (by decide +kernel)
theorem q2_110 : Cond.selects RX4 yX4_copyFrom yX4_copyFrom ∈ gtb := tk2 (i := 110) rfl (by decide +kernel)
theorem q2_111 : Cond.code yX4_copyFrom cX4_copyFrom 2 none ∈ gtb := tk2 (i := 111) rfl (by decide +kernel)
theorem q2_112 : Cond.methodLink RX4 19 arraycopyName ∈ gtb := tk2 (i := 112) rfl (by decide +kernel)
theorem q2_113 : Cond.static arraycopyName ∈ gtb := tk2 (i := 113) rfl (by decide +kernel)
theorem q2_114 : Cond.native arraycopyName ∈ gtb := tk2 (i := 114) rfl (by decide +kernel)
theorem q2_115 : Cond.methodLink RX8 118 yX7_clear ∈ gtb := tk2 (i := 115) rfl (by decide +kernel)
theorem q2_116 : Cond.instanceMethod yX7_clear ∈ gtb := tk2 (i := 116) rfl (by decide +kernel)
theorem q2_117 : Cond.selects RX7 yX7_clear yX7_clear ∈ gtb := tk2 (i := 117) rfl (by decide +kernel)
theorem q2_118 : Cond.code yX7_clear cX7_clear 1 none ∈ gtb := tk2 (i := 118) rfl (by decide +kernel)
theorem q2_119 : Cond.methodLink RX8 121 yX6_clear ∈ gtb := tk2 (i := 119) rfl (by decide +kernel)
theorem q2_120 : Cond.instanceMethod yX6_clear ∈ gtb := tk2 (i := 120) rfl (by decide +kernel)
theorem q2_121 : Cond.selects RX6 yX6_clear yX6_clear ∈ gtb := tk2 (i := 121) rfl (by decide +kernel)
theorem q2_122 : Cond.code yX6_clear cX6_clear 2 (some .int) ∈ gtb := tk2 (i := 122) rfl (by decide +kernel)
theorem q2_123 : Cond.fieldLink RX8 9 "CharadePost" "letters" "[I" ∈ gtb := tk2 (i := 123) rfl (by decide +kernel)
theorem q2_124 : Cond.fieldLink RX8 98 "CharadePost" "length" "I" ∈ gtb := tk2 (i := 124) rfl (by decide +kernel)
theorem q2_125 : Cond.fieldLink RX8 16 "CharadePost" "board" "LCharadePost$Board;" ∈ gtb := tk2 (i := 125) rfl (by decide +kernel)
theorem q2_126 : Cond.fieldLink RX8 20 "CharadePost" "draft" "LCharadePost$Board;" ∈ gtb := tk2 (i := 126) rfl (by decide +kernel)
theorem q2_127 : Cond.fieldLink RX8 26 "CharadePost" "scene" "LCharadePost$Scene;" ∈ gtb := tk2 (i := 127) rfl (by decide +kernel)
theorem q2_128 : Cond.fieldLink RX8 30 "CharadePost" "trial" "LCharadePost$Scene;" ∈ gtb := tk2 (i := 128) rfl (by decide +kernel)
theorem q2_129 : Cond.fieldLink RX8 38 "CharadePost" "past" "LCharadePost$Shelf;" ∈ gtb := tk2 (i := 129) rfl (by decide +kernel)
theorem q2_130 : Cond.fieldLink RX8 42 "CharadePost" "kept" "LCharadePost$Shelf;" ∈ gtb := tk2 (i := 130) rfl (by decide +kernel)
theorem q2_131 : Cond.fieldLink RX8 48 "CharadePost" "seen" "LCharadePost$Seen;" ∈ gtb := tk2 (i := 131) rfl (by decide +kernel)
theorem q2_132 : Cond.fieldLink RX8 55 "CharadePost" "reader" "LCharadePost$Reader;" ∈ gtb := tk2 (i := 132) rfl (by decide +kernel)
theorem q2_133 : Cond.fieldLink RX8 62 "CharadePost" "search" "LCharadePost$Search;" ∈ gtb := tk2 (i := 133) rfl (by decide +kernel)
theorem q2_134 : Cond.fieldLink RX8 69 "CharadePost" "deal" "LCharadePost$Deal;" ∈ gtb := tk2 (i := 134) rfl (by decide +kernel)
theorem q2_135 : Cond.fieldLink RX8 76 "CharadePost" "line" "LCharadePost$Line;" ∈ gtb := tk2 (i := 135) rfl (by decide +kernel)
theorem q2_136 : Cond.laysFinal "CharadePost" "CharadePost" "letters" "[I" ∈ gtb := tk2 (i := 136) rfl (by decide +kernel)
theorem q2_138 : Cond.lays "CharadePost" "CharadePost" "length" "I" ∈ gtb := tk2 (i := 138) rfl (by decide +kernel)
theorem q2_140 : Cond.lays "CharadePost" "CharadePost" "board" "LCharadePost$Board;" ∈ gtb := tk2 (i := 140) rfl (by decide +kernel)
theorem q2_142 : Cond.lays "CharadePost" "CharadePost" "draft" "LCharadePost$Board;" ∈ gtb := tk2 (i := 142) rfl (by decide +kernel)
theorem q2_144 : Cond.laysFinal "CharadePost" "CharadePost" "scene" "LCharadePost$Scene;" ∈ gtb := tk2 (i := 144) rfl (by decide +kernel)
theorem q2_146 : Cond.laysFinal "CharadePost" "CharadePost" "trial" "LCharadePost$Scene;" ∈ gtb := tk2 (i := 146) rfl (by decide +kernel)
theorem q2_148 : Cond.laysFinal "CharadePost" "CharadePost" "past" "LCharadePost$Shelf;" ∈ gtb := tk2 (i := 148) rfl (by decide +kernel)
theorem q2_150 : Cond.laysFinal "CharadePost" "CharadePost" "kept" "LCharadePost$Shelf;" ∈ gtb := tk2 (i := 150) rfl (by decide +kernel)
theorem q2_152 : Cond.laysFinal "CharadePost" "CharadePost" "seen" "LCharadePost$Seen;" ∈ gtb := tk2 (i := 152) rfl (by decide +kernel)
theorem q2_154 : Cond.laysFinal "CharadePost" "CharadePost" "reader" "LCharadePost$Reader;" ∈ gtb := tk2 (i := 154) rfl (by decide +kernel)
theorem q2_156 : Cond.laysFinal "CharadePost" "CharadePost" "search" "LCharadePost$Search;" ∈ gtb := tk2 (i := 156) rfl (by decide +kernel)
theorem q2_158 : Cond.laysFinal "CharadePost" "CharadePost" "deal" "LCharadePost$Deal;" ∈ gtb := tk2 (i := 158) rfl (by decide +kernel)
theorem q2_160 : Cond.laysFinal "CharadePost" "CharadePost" "line" "LCharadePost$Line;" ∈ gtb := tk2 (i := 160) rfl (by decide +kernel)
theorem q2_163 : Cond.arrayClass Jvm.ClassFile.FieldType.byte ∈ gtb := tk2 (i := 163) rfl (by decide +kernel)
theorem q2_164 : Cond.methodLink RL 13 yX8_write ∈ gtb := tk2 (i := 164) rfl (by decide +kernel)
theorem q2_165 : Cond.instanceMethod yX8_write ∈ gtb := tk2 (i := 165) rfl (by decide +kernel)
theorem q2_166 : Cond.selects RX8 yX8_write yX8_write ∈ gtb := tk2 (i := 166) rfl (by decide +kernel)
theorem q2_167 : Cond.code yX8_write cX8_write 2 (some .int) ∈ gtb := tk2 (i := 167) rfl (by decide +kernel)
theorem q2_168 : Cond.methodLink RL 18 yX8_wipe ∈ gtb := tk2 (i := 168) rfl (by decide +kernel)
theorem q2_169 : Cond.instanceMethod yX8_wipe ∈ gtb := tk2 (i := 169) rfl (by decide +kernel)
theorem q2_170 : Cond.selects RX8 yX8_wipe yX8_wipe ∈ gtb := tk2 (i := 170) rfl (by decide +kernel)
theorem q2_171 : Cond.code yX8_wipe cX8_wipe 2 (some .int) ∈ gtb := tk2 (i := 171) rfl (by decide +kernel)
theorem q2_172 : Cond.methodLink RL 23 yX8_fault ∈ gtb := tk2 (i := 172) rfl (by decide +kernel)
theorem q2_173 : Cond.instanceMethod yX8_fault ∈ gtb := tk2 (i := 173) rfl (by decide +kernel)
theorem q2_174 : Cond.selects RX8 yX8_fault yX8_fault ∈ gtb := tk2 (i := 174) rfl (by decide +kernel)
theorem q2_175 : Cond.code yX8_fault cX8_fault 1 (some .int) ∈ gtb := tk2 (i := 175) rfl (by decide +kernel)
theorem q2_176 : Cond.methodLink RL 27 yX8_lay ∈ gtb := tk2 (i := 176) rfl (by decide +kernel)
theorem q2_177 : Cond.methodLink RL 31 yX8_word ∈ gtb := tk2 (i := 177) rfl (by decide +kernel)
theorem q2_178 : Cond.instanceMethod yX8_word ∈ gtb := tk2 (i := 178) rfl (by decide +kernel)
theorem q2_179 : Cond.selects RX8 yX8_word yX8_word ∈ gtb := tk2 (i := 179) rfl (by decide +kernel)
theorem q2_180 : Cond.code yX8_word cX8_word 3 (some .int) ∈ gtb := tk2 (i := 180) rfl (by decide +kernel)
theorem q2_181 : Cond.methodLink RX8 123 yX8_isWord ∈ gtb := tk2 (i := 181) rfl (by decide +kernel)
theorem q2_183 : Cond.instanceMethod yX8_isWord ∈ gtb := tk2 (i := 183) rfl (by decide +kernel)
theorem q2_184 : Cond.code yX8_isWord cX8_isWord 2 (some .boolean) ∈ gtb := tk2 (i := 184) rfl (by decide +kernel)
theorem q2_185 : Cond.methodLink RX8 127 yX0_commonOf ∈ gtb := tk2 (i := 185) rfl (by decide +kernel)
theorem q2_186 : Cond.instanceMethod yX0_commonOf ∈ gtb := tk2 (i := 186) rfl (by decide +kernel)
theorem q2_187 : Cond.selects RX0 yX0_commonOf yX0_commonOf ∈ gtb := tk2 (i := 187) rfl (by decide +kernel)
theorem q2_188 : Cond.code yX0_commonOf cX0_commonOf 2 (some .int) ∈ gtb := tk2 (i := 188) rfl (by decide +kernel)
theorem q2_189 : Cond.methodLink RX8 131 yX0_lengthOf ∈ gtb := tk2 (i := 189) rfl (by decide +kernel)
theorem q2_190 : Cond.instanceMethod yX0_lengthOf ∈ gtb := tk2 (i := 190) rfl (by decide +kernel)
theorem q2_191 : Cond.selects RX0 yX0_lengthOf yX0_lengthOf ∈ gtb := tk2 (i := 191) rfl (by decide +kernel)
theorem q2_192 : Cond.code yX0_lengthOf cX0_lengthOf 2 (some .int) ∈ gtb := tk2 (i := 192) rfl (by decide +kernel)
theorem q2_193 : Cond.methodLink RX8 134 yX0_partsOf ∈ gtb := tk2 (i := 193) rfl (by decide +kernel)
theorem q2_194 : Cond.instanceMethod yX0_partsOf ∈ gtb := tk2 (i := 194) rfl (by decide +kernel)
theorem q2_195 : Cond.selects RX0 yX0_partsOf yX0_partsOf ∈ gtb := tk2 (i := 195) rfl (by decide +kernel)
theorem q2_196 : Cond.code yX0_partsOf cX0_partsOf 2 (some .int) ∈ gtb := tk2 (i := 196) rfl (by decide +kernel)
theorem q2_197 : Cond.methodLink RX8 137 yX0_likenessesOf ∈ gtb := tk2 (i := 197) rfl (by decide +kernel)
theorem q2_198 : Cond.instanceMethod yX0_likenessesOf ∈ gtb := tk2 (i := 198) rfl (by decide +kernel)
theorem q2_199 : Cond.selects RX0 yX0_likenessesOf yX0_likenessesOf ∈ gtb := tk2 (i := 199) rfl (by decide +kernel)
theorem q2_200 : Cond.code yX0_likenessesOf cX0_likenessesOf 4 (some .int) ∈ gtb := tk2 (i := 200) rfl (by decide +kernel)
theorem q2_201 : Cond.methodLink RX0 43 yX0_isIn ∈ gtb := tk2 (i := 201) rfl (by decide +kernel)
theorem q2_203 : Cond.instanceMethod yX0_isIn ∈ gtb := tk2 (i := 203) rfl (by decide +kernel)
theorem q2_204 : Cond.code yX0_isIn cX0_isIn 3 (some .boolean) ∈ gtb := tk2 (i := 204) rfl (by decide +kernel)
theorem q2_205 : Cond.methodLink RL 36 yX8_forbidden ∈ gtb := tk2 (i := 205) rfl (by decide +kernel)
theorem q2_206 : Cond.instanceMethod yX8_forbidden ∈ gtb := tk2 (i := 206) rfl (by decide +kernel)
theorem q2_207 : Cond.selects RX8 yX8_forbidden yX8_forbidden ∈ gtb := tk2 (i := 207) rfl (by decide +kernel)
theorem q2_208 : Cond.code yX8_forbidden cX8_forbidden 2 (some .int) ∈ gtb := tk2 (i := 208) rfl (by decide +kernel)
theorem q2_209 : Cond.methodLink RX8 140 yX8_isSign ∈ gtb := tk2 (i := 209) rfl (by decide +kernel)
theorem q2_211 : Cond.instanceMethod yX8_isSign ∈ gtb := tk2 (i := 211) rfl (by decide +kernel)
theorem q2_212 : Cond.code yX8_isSign cX8_isSign 2 (some .boolean) ∈ gtb := tk2 (i := 212) rfl (by decide +kernel)
theorem q2_213 : Cond.methodLink RX8 245 yX0_signs ∈ gtb := tk2 (i := 213) rfl (by decide +kernel)
theorem q2_214 : Cond.instanceMethod yX0_signs ∈ gtb := tk2 (i := 214) rfl (by decide +kernel)
theorem q2_215 : Cond.selects RX0 yX0_signs yX0_signs ∈ gtb := tk2 (i := 215) rfl (by decide +kernel)
theorem q2_216 : Cond.code yX0_signs cX0_signs 1 (some .int) ∈ gtb := tk2 (i := 216) rfl (by decide +kernel)
theorem q2_217 : Cond.methodLink RX8 143 yX0_isForbidden ∈ gtb := tk2 (i := 217) rfl (by decide +kernel)
theorem q2_218 : Cond.instanceMethod yX0_isForbidden ∈ gtb := tk2 (i := 218) rfl (by decide +kernel)
theorem q2_219 : Cond.selects RX0 yX0_isForbidden yX0_isForbidden ∈ gtb := tk2 (i := 219) rfl (by decide +kernel)
theorem q2_220 : Cond.code yX0_isForbidden cX0_isForbidden 2 (some .boolean) ∈ gtb := tk2 (i := 220) rfl (by decide +kernel)
theorem q2_221 : Cond.methodLink RL 40 yX8_actor ∈ gtb := tk2 (i := 221) rfl (by decide +kernel)
theorem q2_222 : Cond.instanceMethod yX8_actor ∈ gtb := tk2 (i := 222) rfl (by decide +kernel)
theorem q2_223 : Cond.selects RX8 yX8_actor yX8_actor ∈ gtb := tk2 (i := 223) rfl (by decide +kernel)
theorem q2_224 : Cond.code yX8_actor cX8_actor 3 (some .int) ∈ gtb := tk2 (i := 224) rfl (by decide +kernel)
theorem q2_225 : Cond.methodLink RX8 146 yX8_isActor ∈ gtb := tk2 (i := 225) rfl (by decide +kernel)
theorem q2_227 : Cond.instanceMethod yX8_isActor ∈ gtb := tk2 (i := 227) rfl (by decide +kernel)
theorem q2_228 : Cond.code yX8_isActor cX8_isActor 2 (some .boolean) ∈ gtb := tk2 (i := 228) rfl (by decide +kernel)
theorem q2_229 : Cond.methodLink RX8 149 yX4_cell ∈ gtb := tk2 (i := 229) rfl (by decide +kernel)
theorem q2_230 : Cond.instanceMethod yX4_cell ∈ gtb := tk2 (i := 230) rfl (by decide +kernel)
theorem q2_231 : Cond.selects RX4 yX4_cell yX4_cell ∈ gtb := tk2 (i := 231) rfl (by decide +kernel)
theorem q2_232 : Cond.code yX4_cell cX4_cell 4 (some .int) ∈ gtb := tk2 (i := 232) rfl (by decide +kernel)
theorem q2_233 : Cond.methodLink RL 44 yX8_shown ∈ gtb := tk2 (i := 233) rfl (by decide +kernel)
theorem q2_234 : Cond.instanceMethod yX8_shown ∈ gtb := tk2 (i := 234) rfl (by decide +kernel)
theorem q2_235 : Cond.selects RX8 yX8_shown yX8_shown ∈ gtb := tk2 (i := 235) rfl (by decide +kernel)
theorem q2_236 : Cond.code yX8_shown cX8_shown 3 (some .int) ∈ gtb := tk2 (i := 236) rfl (by decide +kernel)
theorem q2_237 : Cond.methodLink RX8 152 yX4_sign ∈ gtb := tk2 (i := 237) rfl (by decide +kernel)
theorem q2_238 : Cond.instanceMethod yX4_sign ∈ gtb := tk2 (i := 238) rfl (by decide +kernel)
theorem q2_239 : Cond.selects RX4 yX4_sign yX4_sign ∈ gtb := tk2 (i := 239) rfl (by decide +kernel)
theorem q3_0 : Cond.code yX4_sign cX4_sign 3 (some .int) ∈ gtb := tk3 (i := 0) rfl (by decide +kernel)
theorem q3_1 : Cond.methodLink RX4 25 yX4_cell ∈ gtb := tk3 (i := 1) rfl (by decide +kernel)
theorem q3_2 : Cond.methodLink RL 48 yX8_show ∈ gtb := tk3 (i := 2) rfl (by decide +kernel)
theorem q3_3 : Cond.instanceMethod yX8_show ∈ gtb := tk3 (i := 3) rfl (by decide +kernel)
theorem q3_4 : Cond.selects RX8 yX8_show yX8_show ∈ gtb := tk3 (i := 4) rfl (by decide +kernel)
theorem q3_5 : Cond.code yX8_show cX8_show 3 (some .int) ∈ gtb := tk3 (i := 5) rfl (by decide +kernel)
theorem q3_6 : Cond.methodLink RX8 155 yX4_canShow ∈ gtb := tk3 (i := 6) rfl (by decide +kernel)
theorem q3_7 : Cond.instanceMethod yX4_canShow ∈ gtb := tk3 (i := 7) rfl (by decide +kernel)
theorem q3_8 : Cond.selects RX4 yX4_canShow yX4_canShow ∈ gtb := tk3 (i := 8) rfl (by decide +kernel)
theorem q3_9 : Cond.code yX4_canShow cX4_canShow 2 (some .boolean) ∈ gtb := tk3 (i := 9) rfl (by decide +kernel)
theorem q3_10 : Cond.methodLink RX4 29 yX4_waits ∈ gtb := tk3 (i := 10) rfl (by decide +kernel)
theorem q3_11 : Cond.instanceMethod yX4_waits ∈ gtb := tk3 (i := 11) rfl (by decide +kernel)
theorem q3_12 : Cond.selects RX4 yX4_waits yX4_waits ∈ gtb := tk3 (i := 12) rfl (by decide +kernel)
theorem q3_13 : Cond.code yX4_waits cX4_waits 2 (some .boolean) ∈ gtb := tk3 (i := 13) rfl (by decide +kernel)
theorem q3_14 : Cond.methodLink RX8 158 yX7_put ∈ gtb := tk3 (i := 14) rfl (by decide +kernel)
theorem q3_15 : Cond.instanceMethod yX7_put ∈ gtb := tk3 (i := 15) rfl (by decide +kernel)
theorem q3_16 : Cond.selects RX7 yX7_put yX7_put ∈ gtb := tk3 (i := 16) rfl (by decide +kernel)
theorem q3_17 : Cond.code yX7_put cX7_put 2 none ∈ gtb := tk3 (i := 17) rfl (by decide +kernel)
theorem q3_18 : Cond.methodLink RX7 22 arraycopyName ∈ gtb := tk3 (i := 18) rfl (by decide +kernel)
theorem q3_19 : Cond.methodLink RX8 161 yX8_showSign ∈ gtb := tk3 (i := 19) rfl (by decide +kernel)
theorem q3_21 : Cond.instanceMethod yX8_showSign ∈ gtb := tk3 (i := 21) rfl (by decide +kernel)
theorem q3_22 : Cond.code yX8_showSign cX8_showSign 4 (some .int) ∈ gtb := tk3 (i := 22) rfl (by decide +kernel)
theorem q3_23 : Cond.methodLink RX8 175 yX4_set ∈ gtb := tk3 (i := 23) rfl (by decide +kernel)
theorem q3_24 : Cond.methodLink RX8 284 yX4_addSign ∈ gtb := tk3 (i := 24) rfl (by decide +kernel)
theorem q3_25 : Cond.instanceMethod yX4_addSign ∈ gtb := tk3 (i := 25) rfl (by decide +kernel)
theorem q3_26 : Cond.selects RX4 yX4_addSign yX4_addSign ∈ gtb := tk3 (i := 26) rfl (by decide +kernel)
theorem q3_27 : Cond.code yX4_addSign cX4_addSign 4 none ∈ gtb := tk3 (i := 27) rfl (by decide +kernel)
theorem q3_28 : Cond.methodLink RL 52 yX8_guess ∈ gtb := tk3 (i := 28) rfl (by decide +kernel)
theorem q3_29 : Cond.instanceMethod yX8_guess ∈ gtb := tk3 (i := 29) rfl (by decide +kernel)
theorem q3_30 : Cond.selects RX8 yX8_guess yX8_guess ∈ gtb := tk3 (i := 30) rfl (by decide +kernel)
theorem q3_31 : Cond.code yX8_guess cX8_guess 2 (some .int) ∈ gtb := tk3 (i := 31) rfl (by decide +kernel)
theorem q3_32 : Cond.methodLink RX8 165 yX4_waits ∈ gtb := tk3 (i := 32) rfl (by decide +kernel)
theorem q3_33 : Cond.methodLink RX8 168 yX8_guessWord ∈ gtb := tk3 (i := 33) rfl (by decide +kernel)
theorem q3_35 : Cond.instanceMethod yX8_guessWord ∈ gtb := tk3 (i := 35) rfl (by decide +kernel)
theorem q3_36 : Cond.code yX8_guessWord cX8_guessWord 4 (some .int) ∈ gtb := tk3 (i := 36) rfl (by decide +kernel)
theorem q3_37 : Cond.methodLink RX8 186 yX0_habit ∈ gtb := tk3 (i := 37) rfl (by decide +kernel)
theorem q3_38 : Cond.instanceMethod yX0_habit ∈ gtb := tk3 (i := 38) rfl (by decide +kernel)
theorem q3_39 : Cond.selects RX0 yX0_habit yX0_habit ∈ gtb := tk3 (i := 39) rfl (by decide +kernel)
theorem q3_40 : Cond.code yX0_habit cX0_habit 1 (some .int) ∈ gtb := tk3 (i := 40) rfl (by decide +kernel)
theorem q3_41 : Cond.methodLink RX8 193 yX0_heaviest ∈ gtb := tk3 (i := 41) rfl (by decide +kernel)
theorem q3_42 : Cond.instanceMethod yX0_heaviest ∈ gtb := tk3 (i := 42) rfl (by decide +kernel)
theorem q3_43 : Cond.selects RX0 yX0_heaviest yX0_heaviest ∈ gtb := tk3 (i := 43) rfl (by decide +kernel)
theorem q3_44 : Cond.code yX0_heaviest cX0_heaviest 9 (some .int) ∈ gtb := tk3 (i := 44) rfl (by decide +kernel)
theorem q3_45 : Cond.methodLink RX0 73 yX0_weightOf ∈ gtb := tk3 (i := 45) rfl (by decide +kernel)
theorem q3_46 : Cond.instanceMethod yX0_weightOf ∈ gtb := tk3 (i := 46) rfl (by decide +kernel)
theorem q3_47 : Cond.selects RX0 yX0_weightOf yX0_weightOf ∈ gtb := tk3 (i := 47) rfl (by decide +kernel)
theorem q3_48 : Cond.code yX0_weightOf cX0_weightOf 8 (some .int) ∈ gtb := tk3 (i := 48) rfl (by decide +kernel)
theorem q3_49 : Cond.methodLink RX0 58 yX4_cell ∈ gtb := tk3 (i := 49) rfl (by decide +kernel)
theorem q3_50 : Cond.methodLink RX0 63 yX0_commonOf ∈ gtb := tk3 (i := 50) rfl (by decide +kernel)
theorem q3_51 : Cond.methodLink RX0 66 yX4_sign ∈ gtb := tk3 (i := 51) rfl (by decide +kernel)
theorem q3_52 : Cond.methodLink RX0 69 yX0_factor ∈ gtb := tk3 (i := 52) rfl (by decide +kernel)
theorem q3_53 : Cond.instanceMethod yX0_factor ∈ gtb := tk3 (i := 53) rfl (by decide +kernel)
theorem q3_54 : Cond.selects RX0 yX0_factor yX0_factor ∈ gtb := tk3 (i := 54) rfl (by decide +kernel)
theorem q3_55 : Cond.code yX0_factor cX0_factor 6 (some .int) ∈ gtb := tk3 (i := 55) rfl (by decide +kernel)
theorem q3_56 : Cond.methodLink RX0 47 yX0_partsOf ∈ gtb := tk3 (i := 56) rfl (by decide +kernel)
theorem q3_57 : Cond.methodLink RX0 51 yX0_byKind ∈ gtb := tk3 (i := 57) rfl (by decide +kernel)
theorem q3_58 : Cond.static yX0_byKind ∈ gtb := tk3 (i := 58) rfl (by decide +kernel)
theorem q3_59 : Cond.code yX0_byKind cX0_byKind 2 (some .int) ∈ gtb := tk3 (i := 59) rfl (by decide +kernel)
theorem q3_60 : Cond.methodLink RX0 55 yX0_lengthOf ∈ gtb := tk3 (i := 60) rfl (by decide +kernel)
theorem q3_61 : Cond.methodLink RX8 287 yX4_addWrongGuess ∈ gtb := tk3 (i := 61) rfl (by decide +kernel)
theorem q3_62 : Cond.instanceMethod yX4_addWrongGuess ∈ gtb := tk3 (i := 62) rfl (by decide +kernel)
theorem q3_63 : Cond.selects RX4 yX4_addWrongGuess yX4_addWrongGuess ∈ gtb := tk3 (i := 63) rfl (by decide +kernel)
theorem q3_64 : Cond.code yX4_addWrongGuess cX4_addWrongGuess 3 none ∈ gtb := tk3 (i := 64) rfl (by decide +kernel)
theorem q3_65 : Cond.methodLink RX4 33 yJ6_bitCount_0f7a4 ∈ gtb := tk3 (i := 65) rfl (by decide +kernel)
theorem q3_66 : Cond.static yJ6_bitCount_0f7a4 ∈ gtb := tk3 (i := 66) rfl (by decide +kernel)
theorem q3_67 : Cond.code yJ6_bitCount_0f7a4 cJ6_bitCount_0f7a4 1 (some .int) ∈ gtb := tk3 (i := 67) rfl (by decide +kernel)
theorem q3_68 : Cond.constant RJ6 265 (1431655765) ∈ gtb := tk3 (i := 68) rfl (by decide +kernel)
theorem q3_69 : Cond.constant RJ6 266 (858993459) ∈ gtb := tk3 (i := 69) rfl (by decide +kernel)
theorem q3_70 : Cond.constant RJ6 267 (252645135) ∈ gtb := tk3 (i := 70) rfl (by decide +kernel)
theorem q3_71 : Cond.methodLink RX8 252 yX0_price ∈ gtb := tk3 (i := 71) rfl (by decide +kernel)
theorem q3_72 : Cond.instanceMethod yX0_price ∈ gtb := tk3 (i := 72) rfl (by decide +kernel)
theorem q3_73 : Cond.selects RX0 yX0_price yX0_price ∈ gtb := tk3 (i := 73) rfl (by decide +kernel)
theorem q3_74 : Cond.code yX0_price cX0_price 1 (some .int) ∈ gtb := tk3 (i := 74) rfl (by decide +kernel)
theorem q3_75 : Cond.methodLink RX8 255 yX4_canPay ∈ gtb := tk3 (i := 75) rfl (by decide +kernel)
theorem q3_76 : Cond.instanceMethod yX4_canPay ∈ gtb := tk3 (i := 76) rfl (by decide +kernel)
theorem q3_77 : Cond.selects RX4 yX4_canPay yX4_canPay ∈ gtb := tk3 (i := 77) rfl (by decide +kernel)
theorem q3_78 : Cond.code yX4_canPay cX4_canPay 4 (some .boolean) ∈ gtb := tk3 (i := 78) rfl (by decide +kernel)
theorem q3_79 : Cond.methodLink RX8 290 yX4_payAndPass ∈ gtb := tk3 (i := 79) rfl (by decide +kernel)
theorem q3_80 : Cond.instanceMethod yX4_payAndPass ∈ gtb := tk3 (i := 80) rfl (by decide +kernel)
theorem q3_81 : Cond.selects RX4 yX4_payAndPass yX4_payAndPass ∈ gtb := tk3 (i := 81) rfl (by decide +kernel)
theorem q3_82 : Cond.code yX4_payAndPass cX4_payAndPass 3 none ∈ gtb := tk3 (i := 82) rfl (by decide +kernel)
theorem q3_83 : Cond.methodLink RL 56 yX8_change ∈ gtb := tk3 (i := 83) rfl (by decide +kernel)
theorem q3_84 : Cond.instanceMethod yX8_change ∈ gtb := tk3 (i := 84) rfl (by decide +kernel)
theorem q3_85 : Cond.selects RX8 yX8_change yX8_change ∈ gtb := tk3 (i := 85) rfl (by decide +kernel)
theorem q3_86 : Cond.code yX8_change cX8_change 4 (some .int) ∈ gtb := tk3 (i := 86) rfl (by decide +kernel)
theorem q3_87 : Cond.methodLink RX8 172 yX4_isFresh ∈ gtb := tk3 (i := 87) rfl (by decide +kernel)
theorem q3_88 : Cond.instanceMethod yX4_isFresh ∈ gtb := tk3 (i := 88) rfl (by decide +kernel)
theorem q3_89 : Cond.selects RX4 yX4_isFresh yX4_isFresh ∈ gtb := tk3 (i := 89) rfl (by decide +kernel)
theorem q3_90 : Cond.code yX4_isFresh cX4_isFresh 2 (some .boolean) ∈ gtb := tk3 (i := 90) rfl (by decide +kernel)
theorem q3_91 : Cond.methodLink RL 60 yX8_undo ∈ gtb := tk3 (i := 91) rfl (by decide +kernel)
theorem q3_92 : Cond.instanceMethod yX8_undo ∈ gtb := tk3 (i := 92) rfl (by decide +kernel)
theorem q3_93 : Cond.selects RX8 yX8_undo yX8_undo ∈ gtb := tk3 (i := 93) rfl (by decide +kernel)
theorem q3_94 : Cond.code yX8_undo cX8_undo 1 (some .int) ∈ gtb := tk3 (i := 94) rfl (by decide +kernel)
theorem q3_95 : Cond.methodLink RX8 179 yX7_takeInto ∈ gtb := tk3 (i := 95) rfl (by decide +kernel)
theorem q3_96 : Cond.instanceMethod yX7_takeInto ∈ gtb := tk3 (i := 96) rfl (by decide +kernel)
theorem q3_97 : Cond.selects RX7 yX7_takeInto yX7_takeInto ∈ gtb := tk3 (i := 97) rfl (by decide +kernel)
theorem q3_98 : Cond.code yX7_takeInto cX7_takeInto 2 (some .boolean) ∈ gtb := tk3 (i := 98) rfl (by decide +kernel)
theorem q3_99 : Cond.methodLink RX8 183 yX7_size ∈ gtb := tk3 (i := 99) rfl (by decide +kernel)
theorem q3_100 : Cond.instanceMethod yX7_size ∈ gtb := tk3 (i := 100) rfl (by decide +kernel)
theorem q3_101 : Cond.selects RX7 yX7_size yX7_size ∈ gtb := tk3 (i := 101) rfl (by decide +kernel)
theorem q3_102 : Cond.code yX7_size cX7_size 1 (some .int) ∈ gtb := tk3 (i := 102) rfl (by decide +kernel)
theorem q3_103 : Cond.methodLink RL 64 yX8_weight ∈ gtb := tk3 (i := 103) rfl (by decide +kernel)
theorem q3_104 : Cond.instanceMethod yX8_weight ∈ gtb := tk3 (i := 104) rfl (by decide +kernel)
theorem q3_105 : Cond.selects RX8 yX8_weight yX8_weight ∈ gtb := tk3 (i := 105) rfl (by decide +kernel)
theorem q3_106 : Cond.code yX8_weight cX8_weight 3 (some .int) ∈ gtb := tk3 (i := 106) rfl (by decide +kernel)
theorem q3_107 : Cond.methodLink RX8 189 yX0_weightOf ∈ gtb := tk3 (i := 107) rfl (by decide +kernel)
theorem q3_108 : Cond.methodLink RL 68 yX8_likely ∈ gtb := tk3 (i := 108) rfl (by decide +kernel)
theorem q3_109 : Cond.instanceMethod yX8_likely ∈ gtb := tk3 (i := 109) rfl (by decide +kernel)
theorem q3_110 : Cond.selects RX8 yX8_likely yX8_likely ∈ gtb := tk3 (i := 110) rfl (by decide +kernel)
theorem q3_111 : Cond.code yX8_likely cX8_likely 6 (some .int) ∈ gtb := tk3 (i := 111) rfl (by decide +kernel)
theorem q3_112 : Cond.methodLink RL 73 yX8_next ∈ gtb := tk3 (i := 112) rfl (by decide +kernel)
theorem q3_113 : Cond.instanceMethod yX8_next ∈ gtb := tk3 (i := 113) rfl (by decide +kernel)
theorem q3_114 : Cond.selects RX8 yX8_next yX8_next ∈ gtb := tk3 (i := 114) rfl (by decide +kernel)
theorem q3_115 : Cond.code yX8_next cX8_next 2 (some .int) ∈ gtb := tk3 (i := 115) rfl (by decide +kernel)
theorem q3_116 : Cond.methodLink RL 77 yX8_fewest ∈ gtb := tk3 (i := 116) rfl (by decide +kernel)
theorem q3_117 : Cond.instanceMethod yX8_fewest ∈ gtb := tk3 (i := 117) rfl (by decide +kernel)
theorem q3_118 : Cond.selects RX8 yX8_fewest yX8_fewest ∈ gtb := tk3 (i := 118) rfl (by decide +kernel)
theorem q3_119 : Cond.code yX8_fewest cX8_fewest 4 (some .int) ∈ gtb := tk3 (i := 119) rfl (by decide +kernel)
theorem q3_120 : Cond.methodLink RX8 197 yX5_run ∈ gtb := tk3 (i := 120) rfl (by decide +kernel)
theorem q3_121 : Cond.instanceMethod yX5_run ∈ gtb := tk3 (i := 121) rfl (by decide +kernel)
theorem q3_122 : Cond.selects RX5 yX5_run yX5_run ∈ gtb := tk3 (i := 122) rfl (by decide +kernel)
theorem q3_123 : Cond.code yX5_run cX5_run 6 none ∈ gtb := tk3 (i := 123) rfl (by decide +kernel)
theorem q3_124 : Cond.methodLink RX5 30 yX5_weighAtFirst ∈ gtb := tk3 (i := 124) rfl (by decide +kernel)
theorem q3_126 : Cond.instanceMethod yX5_weighAtFirst ∈ gtb := tk3 (i := 126) rfl (by decide +kernel)
theorem q3_127 : Cond.code yX5_weighAtFirst cX5_weighAtFirst 5 none ∈ gtb := tk3 (i := 127) rfl (by decide +kernel)
theorem q3_128 : Cond.methodLink RX5 64 yX0_words ∈ gtb := tk3 (i := 128) rfl (by decide +kernel)
theorem q3_129 : Cond.methodLink RX5 48 yJ9_min_7cf53 ∈ gtb := tk3 (i := 129) rfl (by decide +kernel)
theorem q3_130 : Cond.methodLink RX5 72 yX0_habit ∈ gtb := tk3 (i := 130) rfl (by decide +kernel)
theorem q3_131 : Cond.methodLink RX5 75 yX0_weightOf ∈ gtb := tk3 (i := 131) rfl (by decide +kernel)
theorem q3_132 : Cond.methodLink RX5 34 yX4_cell ∈ gtb := tk3 (i := 132) rfl (by decide +kernel)
theorem q3_133 : Cond.methodLink RX5 40 yX5_findFree ∈ gtb := tk3 (i := 133) rfl (by decide +kernel)
theorem q3_135 : Cond.instanceMethod yX5_findFree ∈ gtb := tk3 (i := 135) rfl (by decide +kernel)
theorem q3_136 : Cond.code yX5_findFree cX5_findFree 5 none ∈ gtb := tk3 (i := 136) rfl (by decide +kernel)
theorem q3_137 : Cond.methodLink RX5 82 yX0_signs ∈ gtb := tk3 (i := 137) rfl (by decide +kernel)
theorem q3_138 : Cond.methodLink RX5 84 yX0_isForbidden ∈ gtb := tk3 (i := 138) rfl (by decide +kernel)
theorem q3_139 : Cond.methodLink RX5 88 yX0_factor ∈ gtb := tk3 (i := 139) rfl (by decide +kernel)
theorem q3_140 : Cond.methodLink RX5 44 yX5_judge ∈ gtb := tk3 (i := 140) rfl (by decide +kernel)
theorem q3_142 : Cond.instanceMethod yX5_judge ∈ gtb := tk3 (i := 142) rfl (by decide +kernel)
theorem q3_143 : Cond.code yX5_judge cX5_judge 4 none ∈ gtb := tk3 (i := 143) rfl (by decide +kernel)
theorem q3_144 : Cond.methodLink RX5 96 yX5_heaviest ∈ gtb := tk3 (i := 144) rfl (by decide +kernel)
theorem q3_146 : Cond.instanceMethod yX5_heaviest ∈ gtb := tk3 (i := 146) rfl (by decide +kernel)
theorem q3_147 : Cond.code yX5_heaviest cX5_heaviest 6 (some .int) ∈ gtb := tk3 (i := 147) rfl (by decide +kernel)
theorem q3_148 : Cond.methodLink RX5 99 yX5_freeAt ∈ gtb := tk3 (i := 148) rfl (by decide +kernel)
theorem q3_150 : Cond.instanceMethod yX5_freeAt ∈ gtb := tk3 (i := 150) rfl (by decide +kernel)
theorem q3_151 : Cond.code yX5_freeAt cX5_freeAt 2 (some .int) ∈ gtb := tk3 (i := 151) rfl (by decide +kernel)
theorem q3_152 : Cond.methodLink RX5 53 yX5_tryRows ∈ gtb := tk3 (i := 152) rfl (by decide +kernel)
theorem q3_154 : Cond.instanceMethod yX5_tryRows ∈ gtb := tk3 (i := 154) rfl (by decide +kernel)
theorem q3_155 : Cond.code yX5_tryRows cX5_tryRows 7 none ∈ gtb := tk3 (i := 155) rfl (by decide +kernel)
theorem q3_156 : Cond.methodLink RX5 92 yX5_multiply ∈ gtb := tk3 (i := 156) rfl (by decide +kernel)
theorem q3_158 : Cond.instanceMethod yX5_multiply ∈ gtb := tk3 (i := 158) rfl (by decide +kernel)
theorem q3_159 : Cond.code yX5_multiply cX5_multiply 7 none ∈ gtb := tk3 (i := 159) rfl (by decide +kernel)
theorem q3_160 : Cond.methodLink RX8 201 yX5_howMany ∈ gtb := tk3 (i := 160) rfl (by decide +kernel)
theorem q3_161 : Cond.instanceMethod yX5_howMany ∈ gtb := tk3 (i := 161) rfl (by decide +kernel)
theorem q3_162 : Cond.selects RX5 yX5_howMany yX5_howMany ∈ gtb := tk3 (i := 162) rfl (by decide +kernel)
theorem q3_163 : Cond.code yX5_howMany cX5_howMany 2 (some .int) ∈ gtb := tk3 (i := 163) rfl (by decide +kernel)
theorem q3_164 : Cond.methodLink RX8 204 yX5_signOf ∈ gtb := tk3 (i := 164) rfl (by decide +kernel)
theorem q3_165 : Cond.instanceMethod yX5_signOf ∈ gtb := tk3 (i := 165) rfl (by decide +kernel)
theorem q3_166 : Cond.selects RX5 yX5_signOf yX5_signOf ∈ gtb := tk3 (i := 166) rfl (by decide +kernel)
theorem q3_167 : Cond.code yX5_signOf cX5_signOf 3 (some .int) ∈ gtb := tk3 (i := 167) rfl (by decide +kernel)
theorem q3_168 : Cond.methodLink RX5 60 yX5_howMany ∈ gtb := tk3 (i := 168) rfl (by decide +kernel)
theorem q3_169 : Cond.methodLink RL 81 yX8_tells ∈ gtb := tk3 (i := 169) rfl (by decide +kernel)
theorem q3_170 : Cond.instanceMethod yX8_tells ∈ gtb := tk3 (i := 170) rfl (by decide +kernel)
theorem q3_171 : Cond.selects RX8 yX8_tells yX8_tells ∈ gtb := tk3 (i := 171) rfl (by decide +kernel)
theorem q3_172 : Cond.code yX8_tells cX8_tells 2 (some .int) ∈ gtb := tk3 (i := 172) rfl (by decide +kernel)
theorem q3_173 : Cond.methodLink RX8 207 yX8_mostTelling ∈ gtb := tk3 (i := 173) rfl (by decide +kernel)
theorem q3_175 : Cond.instanceMethod yX8_mostTelling ∈ gtb := tk3 (i := 175) rfl (by decide +kernel)
theorem q3_176 : Cond.code yX8_mostTelling cX8_mostTelling 13 (some .int) ∈ gtb := tk3 (i := 176) rfl (by decide +kernel)
theorem q3_177 : Cond.methodLink RX8 293 yX8_weightBesides ∈ gtb := tk3 (i := 177) rfl (by decide +kernel)
theorem q3_179 : Cond.instanceMethod yX8_weightBesides ∈ gtb := tk3 (i := 179) rfl (by decide +kernel)
theorem q3_180 : Cond.code yX8_weightBesides cX8_weightBesides 4 (some .int) ∈ gtb := tk3 (i := 180) rfl (by decide +kernel)
theorem q3_181 : Cond.methodLink RX8 248 yX0_factor ∈ gtb := tk3 (i := 181) rfl (by decide +kernel)
theorem q3_182 : Cond.methodLink RL 85 yX8_send ∈ gtb := tk3 (i := 182) rfl (by decide +kernel)
theorem q3_183 : Cond.instanceMethod yX8_send ∈ gtb := tk3 (i := 183) rfl (by decide +kernel)
theorem q3_184 : Cond.selects RX8 yX8_send yX8_send ∈ gtb := tk3 (i := 184) rfl (by decide +kernel)
theorem q3_185 : Cond.code yX8_send cX8_send 5 (some .int) ∈ gtb := tk3 (i := 185) rfl (by decide +kernel)
theorem q3_186 : Cond.methodLink RX8 210 yX1_start ∈ gtb := tk3 (i := 186) rfl (by decide +kernel)
theorem q3_187 : Cond.instanceMethod yX1_start ∈ gtb := tk3 (i := 187) rfl (by decide +kernel)
theorem q3_188 : Cond.selects RX1 yX1_start yX1_start ∈ gtb := tk3 (i := 188) rfl (by decide +kernel)
theorem q3_189 : Cond.code yX1_start cX1_start 1 none ∈ gtb := tk3 (i := 189) rfl (by decide +kernel)
theorem q3_190 : Cond.methodLink RX8 213 yX1_add ∈ gtb := tk3 (i := 190) rfl (by decide +kernel)
theorem q3_191 : Cond.instanceMethod yX1_add ∈ gtb := tk3 (i := 191) rfl (by decide +kernel)
theorem q3_192 : Cond.selects RX1 yX1_add yX1_add ∈ gtb := tk3 (i := 192) rfl (by decide +kernel)
theorem q3_193 : Cond.code yX1_add cX1_add 3 none ∈ gtb := tk3 (i := 193) rfl (by decide +kernel)
theorem q3_194 : Cond.methodLink RX8 217 yX1_size ∈ gtb := tk3 (i := 194) rfl (by decide +kernel)
theorem q3_195 : Cond.instanceMethod yX1_size ∈ gtb := tk3 (i := 195) rfl (by decide +kernel)
theorem q3_196 : Cond.selects RX1 yX1_size yX1_size ∈ gtb := tk3 (i := 196) rfl (by decide +kernel)
theorem q3_197 : Cond.code yX1_size cX1_size 1 (some .int) ∈ gtb := tk3 (i := 197) rfl (by decide +kernel)
theorem q3_198 : Cond.methodLink RX8 218 yX1_actorAt ∈ gtb := tk3 (i := 198) rfl (by decide +kernel)
theorem q3_199 : Cond.instanceMethod yX1_actorAt ∈ gtb := tk3 (i := 199) rfl (by decide +kernel)
theorem q3_200 : Cond.selects RX1 yX1_actorAt yX1_actorAt ∈ gtb := tk3 (i := 200) rfl (by decide +kernel)
theorem q3_201 : Cond.code yX1_actorAt cX1_actorAt 2 (some .int) ∈ gtb := tk3 (i := 201) rfl (by decide +kernel)
theorem q3_202 : Cond.methodLink RX8 221 yX1_wordAt ∈ gtb := tk3 (i := 202) rfl (by decide +kernel)
theorem q3_203 : Cond.instanceMethod yX1_wordAt ∈ gtb := tk3 (i := 203) rfl (by decide +kernel)
theorem q3_204 : Cond.selects RX1 yX1_wordAt yX1_wordAt ∈ gtb := tk3 (i := 204) rfl (by decide +kernel)
theorem q3_205 : Cond.code yX1_wordAt cX1_wordAt 2 (some .int) ∈ gtb := tk3 (i := 205) rfl (by decide +kernel)
theorem q3_206 : Cond.methodLink RX8 224 yX1_setCost ∈ gtb := tk3 (i := 206) rfl (by decide +kernel)
theorem q3_207 : Cond.instanceMethod yX1_setCost ∈ gtb := tk3 (i := 207) rfl (by decide +kernel)
theorem q3_208 : Cond.selects RX1 yX1_setCost yX1_setCost ∈ gtb := tk3 (i := 208) rfl (by decide +kernel)
theorem q3_209 : Cond.code yX1_setCost cX1_setCost 4 none ∈ gtb := tk3 (i := 209) rfl (by decide +kernel)
theorem q3_210 : Cond.methodLink RX8 227 yX1_settle ∈ gtb := tk3 (i := 210) rfl (by decide +kernel)
theorem q3_211 : Cond.instanceMethod yX1_settle ∈ gtb := tk3 (i := 211) rfl (by decide +kernel)
theorem q3_212 : Cond.selects RX1 yX1_settle yX1_settle ∈ gtb := tk3 (i := 212) rfl (by decide +kernel)
theorem q3_213 : Cond.code yX1_settle cX1_settle 3 none ∈ gtb := tk3 (i := 213) rfl (by decide +kernel)
theorem q3_214 : Cond.methodLink RX1 35 yX1_firstOfBest ∈ gtb := tk3 (i := 214) rfl (by decide +kernel)
theorem q3_216 : Cond.instanceMethod yX1_firstOfBest ∈ gtb := tk3 (i := 216) rfl (by decide +kernel)
theorem q3_217 : Cond.code yX1_firstOfBest cX1_firstOfBest 4 (some .int) ∈ gtb := tk3 (i := 217) rfl (by decide +kernel)
theorem q3_218 : Cond.methodLink RX1 38 yX1_sumWith ∈ gtb := tk3 (i := 218) rfl (by decide +kernel)
theorem q3_220 : Cond.instanceMethod yX1_sumWith ∈ gtb := tk3 (i := 220) rfl (by decide +kernel)
theorem q3_221 : Cond.code yX1_sumWith cX1_sumWith 6 (some .int) ∈ gtb := tk3 (i := 221) rfl (by decide +kernel)
theorem q3_222 : Cond.methodLink RX1 42 yJ6_bitCount_0f7a4 ∈ gtb := tk3 (i := 222) rfl (by decide +kernel)
theorem q3_223 : Cond.methodLink RX8 230 yX1_total ∈ gtb := tk3 (i := 223) rfl (by decide +kernel)
theorem q3_224 : Cond.instanceMethod yX1_total ∈ gtb := tk3 (i := 224) rfl (by decide +kernel)
theorem q3_225 : Cond.selects RX1 yX1_total yX1_total ∈ gtb := tk3 (i := 225) rfl (by decide +kernel)
theorem q3_226 : Cond.code yX1_total cX1_total 2 (some .int) ∈ gtb := tk3 (i := 226) rfl (by decide +kernel)
theorem q3_227 : Cond.methodLink RX8 233 yX1_wordFor ∈ gtb := tk3 (i := 227) rfl (by decide +kernel)
theorem q3_228 : Cond.instanceMethod yX1_wordFor ∈ gtb := tk3 (i := 228) rfl (by decide +kernel)
theorem q3_229 : Cond.selects RX1 yX1_wordFor yX1_wordFor ∈ gtb := tk3 (i := 229) rfl (by decide +kernel)
theorem q3_230 : Cond.code yX1_wordFor cX1_wordFor 3 (some .int) ∈ gtb := tk3 (i := 230) rfl (by decide +kernel)
theorem q3_231 : Cond.methodLink RX1 31 yX1_wordAt ∈ gtb := tk3 (i := 231) rfl (by decide +kernel)
theorem q3_232 : Cond.methodLink RL 89 yX8_queue ∈ gtb := tk3 (i := 232) rfl (by decide +kernel)
theorem q3_233 : Cond.instanceMethod yX8_queue ∈ gtb := tk3 (i := 233) rfl (by decide +kernel)
theorem q3_234 : Cond.selects RX8 yX8_queue yX8_queue ∈ gtb := tk3 (i := 234) rfl (by decide +kernel)
theorem q3_235 : Cond.code yX8_queue cX8_queue 4 (some .int) ∈ gtb := tk3 (i := 235) rfl (by decide +kernel)
theorem q3_236 : Cond.methodLink RX8 236 yX2_start ∈ gtb := tk3 (i := 236) rfl (by decide +kernel)
theorem q3_237 : Cond.instanceMethod yX2_start ∈ gtb := tk3 (i := 237) rfl (by decide +kernel)
theorem q3_238 : Cond.selects RX2 yX2_start yX2_start ∈ gtb := tk3 (i := 238) rfl (by decide +kernel)
theorem q3_239 : Cond.code yX2_start cX2_start 1 none ∈ gtb := tk3 (i := 239) rfl (by decide +kernel)
theorem q4_0 : Cond.methodLink RX8 237 yX8_fewestForWanted ∈ gtb := tk4 (i := 0) rfl (by decide +kernel)
theorem q4_2 : Cond.instanceMethod yX8_fewestForWanted ∈ gtb := tk4 (i := 2) rfl (by decide +kernel)
theorem q4_3 : Cond.code yX8_fewestForWanted cX8_fewestForWanted 2 (some .int) ∈ gtb := tk4 (i := 3) rfl (by decide +kernel)
theorem q4_4 : Cond.methodLink RX8 240 yX2_add ∈ gtb := tk4 (i := 4) rfl (by decide +kernel)
theorem q4_5 : Cond.instanceMethod yX2_add ∈ gtb := tk4 (i := 5) rfl (by decide +kernel)
theorem q4_6 : Cond.selects RX2 yX2_add yX2_add ∈ gtb := tk4 (i := 6) rfl (by decide +kernel)
theorem q4_7 : Cond.code yX2_add cX2_add 4 none ∈ gtb := tk4 (i := 7) rfl (by decide +kernel)
theorem q4_8 : Cond.methodLink RX8 241 yX2_waited ∈ gtb := tk4 (i := 8) rfl (by decide +kernel)
theorem q4_9 : Cond.instanceMethod yX2_waited ∈ gtb := tk4 (i := 9) rfl (by decide +kernel)
theorem q4_10 : Cond.selects RX2 yX2_waited yX2_waited ∈ gtb := tk4 (i := 10) rfl (by decide +kernel)
theorem q4_11 : Cond.code yX2_waited cX2_waited 4 (some .int) ∈ gtb := tk4 (i := 11) rfl (by decide +kernel)
theorem q4_12 : Cond.methodLink RX8 244 yX2_actorAt ∈ gtb := tk4 (i := 12) rfl (by decide +kernel)
theorem q4_13 : Cond.instanceMethod yX2_actorAt ∈ gtb := tk4 (i := 13) rfl (by decide +kernel)
theorem q4_14 : Cond.selects RX2 yX2_actorAt yX2_actorAt ∈ gtb := tk4 (i := 14) rfl (by decide +kernel)
theorem q4_15 : Cond.code yX2_actorAt cX2_actorAt 2 (some .int) ∈ gtb := tk4 (i := 15) rfl (by decide +kernel)
theorem q4_16 : Cond.methodLink RL 93 yX8_parted ∈ gtb := tk4 (i := 16) rfl (by decide +kernel)
theorem q4_17 : Cond.instanceMethod yX8_parted ∈ gtb := tk4 (i := 17) rfl (by decide +kernel)
theorem q4_18 : Cond.selects RX8 yX8_parted yX8_parted ∈ gtb := tk4 (i := 18) rfl (by decide +kernel)
theorem q4_19 : Cond.code yX8_parted cX8_parted 5 (some .int) ∈ gtb := tk4 (i := 19) rfl (by decide +kernel)
theorem q4_20 : Cond.methodLink RL 97 yX8_most ∈ gtb := tk4 (i := 20) rfl (by decide +kernel)
theorem q4_21 : Cond.instanceMethod yX8_most ∈ gtb := tk4 (i := 21) rfl (by decide +kernel)
theorem q4_22 : Cond.selects RX8 yX8_most yX8_most ∈ gtb := tk4 (i := 22) rfl (by decide +kernel)
theorem q4_23 : Cond.code yX8_most cX8_most 4 (some .int) ∈ gtb := tk4 (i := 23) rfl (by decide +kernel)
theorem q4_24 : Cond.methodLink RL 101 yX8_see ∈ gtb := tk4 (i := 24) rfl (by decide +kernel)
theorem q4_25 : Cond.instanceMethod yX8_see ∈ gtb := tk4 (i := 25) rfl (by decide +kernel)
theorem q4_26 : Cond.selects RX8 yX8_see yX8_see ∈ gtb := tk4 (i := 26) rfl (by decide +kernel)
theorem q4_27 : Cond.code yX8_see cX8_see 3 (some .int) ∈ gtb := tk4 (i := 27) rfl (by decide +kernel)
theorem q4_28 : Cond.methodLink RX8 259 yX6_add ∈ gtb := tk4 (i := 28) rfl (by decide +kernel)
theorem q4_29 : Cond.instanceMethod yX6_add ∈ gtb := tk4 (i := 29) rfl (by decide +kernel)
theorem q4_30 : Cond.selects RX6 yX6_add yX6_add ∈ gtb := tk4 (i := 30) rfl (by decide +kernel)
theorem q4_31 : Cond.code yX6_add cX6_add 3 (some .int) ∈ gtb := tk4 (i := 31) rfl (by decide +kernel)
theorem q4_32 : Cond.methodLink RL 105 yX8_forget ∈ gtb := tk4 (i := 32) rfl (by decide +kernel)
theorem q4_33 : Cond.instanceMethod yX8_forget ∈ gtb := tk4 (i := 33) rfl (by decide +kernel)
theorem q4_34 : Cond.selects RX8 yX8_forget yX8_forget ∈ gtb := tk4 (i := 34) rfl (by decide +kernel)
theorem q4_35 : Cond.code yX8_forget cX8_forget 1 (some .int) ∈ gtb := tk4 (i := 35) rfl (by decide +kernel)
theorem q4_36 : Cond.methodLink RL 109 yX8_habits ∈ gtb := tk4 (i := 36) rfl (by decide +kernel)
theorem q4_37 : Cond.instanceMethod yX8_habits ∈ gtb := tk4 (i := 37) rfl (by decide +kernel)
theorem q4_38 : Cond.selects RX8 yX8_habits yX8_habits ∈ gtb := tk4 (i := 38) rfl (by decide +kernel)
theorem q4_39 : Cond.code yX8_habits cX8_habits 7 (some .int) ∈ gtb := tk4 (i := 39) rfl (by decide +kernel)
theorem q4_40 : Cond.methodLink RX8 261 yX6_holdsBy ∈ gtb := tk4 (i := 40) rfl (by decide +kernel)
theorem q4_41 : Cond.instanceMethod yX6_holdsBy ∈ gtb := tk4 (i := 41) rfl (by decide +kernel)
theorem q4_42 : Cond.selects RX6 yX6_holdsBy yX6_holdsBy ∈ gtb := tk4 (i := 42) rfl (by decide +kernel)
theorem q4_43 : Cond.code yX6_holdsBy cX6_holdsBy 5 (some .boolean) ∈ gtb := tk4 (i := 43) rfl (by decide +kernel)
theorem q4_44 : Cond.methodLink RX6 22 yX4_waits ∈ gtb := tk4 (i := 44) rfl (by decide +kernel)
theorem q4_45 : Cond.methodLink RX6 28 yX0_heaviest ∈ gtb := tk4 (i := 45) rfl (by decide +kernel)
theorem q4_46 : Cond.methodLink RL 113 yX8_wants ∈ gtb := tk4 (i := 46) rfl (by decide +kernel)
theorem q4_47 : Cond.instanceMethod yX8_wants ∈ gtb := tk4 (i := 47) rfl (by decide +kernel)
theorem q4_48 : Cond.selects RX8 yX8_wants yX8_wants ∈ gtb := tk4 (i := 48) rfl (by decide +kernel)
theorem q4_49 : Cond.code yX8_wants cX8_wants 4 (some .int) ∈ gtb := tk4 (i := 49) rfl (by decide +kernel)
theorem q4_50 : Cond.methodLink RL 117 yX8_missed ∈ gtb := tk4 (i := 50) rfl (by decide +kernel)
theorem q4_51 : Cond.instanceMethod yX8_missed ∈ gtb := tk4 (i := 51) rfl (by decide +kernel)
theorem q4_52 : Cond.selects RX8 yX8_missed yX8_missed ∈ gtb := tk4 (i := 52) rfl (by decide +kernel)
theorem q4_53 : Cond.code yX8_missed cX8_missed 8 (some .int) ∈ gtb := tk4 (i := 53) rfl (by decide +kernel)
theorem q4_54 : Cond.methodLink RX8 265 yX8_chanceOf ∈ gtb := tk4 (i := 54) rfl (by decide +kernel)
theorem q4_55 : Cond.static yX8_chanceOf ∈ gtb := tk4 (i := 55) rfl (by decide +kernel)
theorem q4_56 : Cond.code yX8_chanceOf cX8_chanceOf 5 (some .int) ∈ gtb := tk4 (i := 56) rfl (by decide +kernel)
theorem q4_57 : Cond.methodLink RX8 269 yX8_commonDivisor ∈ gtb := tk4 (i := 57) rfl (by decide +kernel)
theorem q4_58 : Cond.static yX8_commonDivisor ∈ gtb := tk4 (i := 58) rfl (by decide +kernel)
theorem q4_59 : Cond.code yX8_commonDivisor cX8_commonDivisor 6 (some .int) ∈ gtb := tk4 (i := 59) rfl (by decide +kernel)
theorem q4_60 : Cond.methodLink RL 121 yX8_season ∈ gtb := tk4 (i := 60) rfl (by decide +kernel)
theorem q4_61 : Cond.instanceMethod yX8_season ∈ gtb := tk4 (i := 61) rfl (by decide +kernel)
theorem q4_62 : Cond.selects RX8 yX8_season yX8_season ∈ gtb := tk4 (i := 62) rfl (by decide +kernel)
theorem q4_63 : Cond.code yX8_season cX8_season 5 (some .int) ∈ gtb := tk4 (i := 63) rfl (by decide +kernel)
theorem q4_64 : Cond.methodLink RX8 272 yX8_draw ∈ gtb := tk4 (i := 64) rfl (by decide +kernel)
theorem q4_65 : Cond.static yX8_draw ∈ gtb := tk4 (i := 65) rfl (by decide +kernel)
theorem q4_66 : Cond.code yX8_draw cX8_draw 4 (some .int) ∈ gtb := tk4 (i := 66) rfl (by decide +kernel)
theorem q4_67 : Cond.constantLong RX8 296 (7919) ∈ gtb := tk4 (i := 67) rfl (by decide +kernel)
theorem q4_68 : Cond.constantLong RX8 298 (6151) ∈ gtb := tk4 (i := 68) rfl (by decide +kernel)
theorem q4_69 : Cond.constantLong RX8 300 (65521) ∈ gtb := tk4 (i := 69) rfl (by decide +kernel)
theorem q4_70 : Cond.constantLong RX8 302 (2) ∈ gtb := tk4 (i := 70) rfl (by decide +kernel)
theorem q4_71 : Cond.methodLink RX8 275 yX8_playDraw ∈ gtb := tk4 (i := 71) rfl (by decide +kernel)
theorem q4_73 : Cond.instanceMethod yX8_playDraw ∈ gtb := tk4 (i := 73) rfl (by decide +kernel)
theorem q4_74 : Cond.code yX8_playDraw cX8_playDraw 5 none ∈ gtb := tk4 (i := 74) rfl (by decide +kernel)
theorem q4_75 : Cond.methodLink RX8 278 yX8_howMany ∈ gtb := tk4 (i := 75) rfl (by decide +kernel)
theorem q4_77 : Cond.instanceMethod yX8_howMany ∈ gtb := tk4 (i := 77) rfl (by decide +kernel)
theorem q4_78 : Cond.code yX8_howMany cX8_howMany 5 (some .int) ∈ gtb := tk4 (i := 78) rfl (by decide +kernel)
theorem q4_79 : Cond.methodLink RX8 280 yX8_sumOf ∈ gtb := tk4 (i := 79) rfl (by decide +kernel)
theorem q4_81 : Cond.instanceMethod yX8_sumOf ∈ gtb := tk4 (i := 81) rfl (by decide +kernel)
theorem q4_82 : Cond.code yX8_sumOf cX8_sumOf 5 (some .int) ∈ gtb := tk4 (i := 82) rfl (by decide +kernel)
theorem q4_83 : Cond.methodLink RL 125 yX8_keep ∈ gtb := tk4 (i := 83) rfl (by decide +kernel)
theorem q4_84 : Cond.instanceMethod yX8_keep ∈ gtb := tk4 (i := 84) rfl (by decide +kernel)
theorem q4_85 : Cond.selects RX8 yX8_keep yX8_keep ∈ gtb := tk4 (i := 85) rfl (by decide +kernel)
theorem q4_86 : Cond.code yX8_keep cX8_keep 1 (some .int) ∈ gtb := tk4 (i := 86) rfl (by decide +kernel)
theorem q4_87 : Cond.methodLink RL 129 yX8_back ∈ gtb := tk4 (i := 87) rfl (by decide +kernel)
theorem q4_88 : Cond.instanceMethod yX8_back ∈ gtb := tk4 (i := 88) rfl (by decide +kernel)
theorem q4_89 : Cond.selects RX8 yX8_back yX8_back ∈ gtb := tk4 (i := 89) rfl (by decide +kernel)
theorem q4_90 : Cond.code yX8_back cX8_back 1 (some .int) ∈ gtb := tk4 (i := 90) rfl (by decide +kernel)
theorem q4_91 : Cond.methodLink RL 133 yX8_count ∈ gtb := tk4 (i := 91) rfl (by decide +kernel)
theorem q4_92 : Cond.instanceMethod yX8_count ∈ gtb := tk4 (i := 92) rfl (by decide +kernel)
theorem q4_93 : Cond.selects RX8 yX8_count yX8_count ∈ gtb := tk4 (i := 93) rfl (by decide +kernel)
theorem q4_94 : Cond.code yX8_count cX8_count 2 (some .int) ∈ gtb := tk4 (i := 94) rfl (by decide +kernel)
theorem q4_95 : Cond.methodLink RX8 283 yX6_size ∈ gtb := tk4 (i := 95) rfl (by decide +kernel)
theorem q4_96 : Cond.instanceMethod yX6_size ∈ gtb := tk4 (i := 96) rfl (by decide +kernel)
theorem q4_97 : Cond.selects RX6 yX6_size yX6_size ∈ gtb := tk4 (i := 97) rfl (by decide +kernel)
theorem q4_98 : Cond.code yX6_size cX6_size 1 (some .int) ∈ gtb := tk4 (i := 98) rfl (by decide +kernel)
theorem q4_99 : Cond.classLink RL 10 RX9 ∈ gtb := tk4 (i := 99) rfl (by decide +kernel)
theorem q4_100 : Cond.instantiable RX9 25 ∈ gtb := tk4 (i := 100) rfl (by decide +kernel)
theorem q4_101 : Cond.methodLink RL 12 yX9_init ∈ gtb := tk4 (i := 101) rfl (by decide +kernel)
theorem q4_102 : Cond.instanceMethod yX9_init ∈ gtb := tk4 (i := 102) rfl (by decide +kernel)
theorem q4_103 : Cond.code yX9_init cX9_init 1 none ∈ gtb := tk4 (i := 103) rfl (by decide +kernel)
theorem q4_104 : Cond.methodLink RX9 1 objectInit ∈ gtb := tk4 (i := 104) rfl (by decide +kernel)
theorem q4_105 : Cond.methodLink RX9 58 yX9_word ∈ gtb := tk4 (i := 105) rfl (by decide +kernel)
theorem q4_106 : Cond.static yX9_word ∈ gtb := tk4 (i := 106) rfl (by decide +kernel)
theorem q4_107 : Cond.code yX9_word cX9_word 5 none ∈ gtb := tk4 (i := 107) rfl (by decide +kernel)
theorem q4_108 : Cond.methodLink RX9 62 yX9_actor ∈ gtb := tk4 (i := 108) rfl (by decide +kernel)
theorem q4_109 : Cond.static yX9_actor ∈ gtb := tk4 (i := 109) rfl (by decide +kernel)
theorem q4_110 : Cond.code yX9_actor cX9_actor 5 none ∈ gtb := tk4 (i := 110) rfl (by decide +kernel)
theorem q4_111 : Cond.methodLink RX9 65 yX9_begins ∈ gtb := tk4 (i := 111) rfl (by decide +kernel)
theorem q4_113 : Cond.instanceMethod yX9_begins ∈ gtb := tk4 (i := 113) rfl (by decide +kernel)
theorem q4_114 : Cond.code yX9_begins cX9_begins 2 none ∈ gtb := tk4 (i := 114) rfl (by decide +kernel)
theorem q4_115 : Cond.fieldLink RX9 7 "CharadePostModel" "post" "[I" ∈ gtb := tk4 (i := 115) rfl (by decide +kernel)
theorem q4_116 : Cond.fieldLink RX9 13 "CharadePostModel" "read" "[I" ∈ gtb := tk4 (i := 116) rfl (by decide +kernel)
theorem q4_117 : Cond.fieldLink RX9 16 "CharadePostModel" "now" "[I" ∈ gtb := tk4 (i := 117) rfl (by decide +kernel)
theorem q4_118 : Cond.fieldLink RX9 19 "CharadePostModel" "aside" "[I" ∈ gtb := tk4 (i := 118) rfl (by decide +kernel)
theorem q4_119 : Cond.fieldLink RX9 22 "CharadePostModel" "past" "[I" ∈ gtb := tk4 (i := 119) rfl (by decide +kernel)
theorem q4_120 : Cond.fieldLink RX9 68 "CharadePostModel" "undos" "I" ∈ gtb := tk4 (i := 120) rfl (by decide +kernel)
theorem q4_121 : Cond.fieldLink RX9 25 "CharadePostModel" "kept" "[I" ∈ gtb := tk4 (i := 121) rfl (by decide +kernel)
theorem q4_122 : Cond.fieldLink RX9 72 "CharadePostModel" "keptMany" "I" ∈ gtb := tk4 (i := 122) rfl (by decide +kernel)
theorem q4_123 : Cond.fieldLink RX9 28 "CharadePostModel" "sights" "[I" ∈ gtb := tk4 (i := 123) rfl (by decide +kernel)
theorem q4_124 : Cond.fieldLink RX9 75 "CharadePostModel" "sightMany" "I" ∈ gtb := tk4 (i := 124) rfl (by decide +kernel)
theorem q4_125 : Cond.fieldLink RX9 31 "CharadePostModel" "text" "[I" ∈ gtb := tk4 (i := 125) rfl (by decide +kernel)
theorem q4_126 : Cond.fieldLink RX9 86 "CharadePostModel" "size" "I" ∈ gtb := tk4 (i := 126) rfl (by decide +kernel)
theorem q4_127 : Cond.fieldLink RX9 89 "CharadePostModel" "at" "I" ∈ gtb := tk4 (i := 127) rfl (by decide +kernel)
theorem q4_128 : Cond.fieldLink RX9 104 "CharadePostModel" "value" "I" ∈ gtb := tk4 (i := 128) rfl (by decide +kernel)
theorem q4_129 : Cond.fieldLink RX9 34 "CharadePostModel" "weights" "[I" ∈ gtb := tk4 (i := 129) rfl (by decide +kernel)
theorem q4_130 : Cond.fieldLink RX9 37 "CharadePostModel" "tried" "[I" ∈ gtb := tk4 (i := 130) rfl (by decide +kernel)
theorem q4_131 : Cond.fieldLink RX9 191 "CharadePostModel" "above" "J" ∈ gtb := tk4 (i := 131) rfl (by decide +kernel)
theorem q4_132 : Cond.fieldLink RX9 195 "CharadePostModel" "below" "J" ∈ gtb := tk4 (i := 132) rfl (by decide +kernel)
theorem q4_133 : Cond.fieldLink RX9 224 "CharadePostModel" "paid" "I" ∈ gtb := tk4 (i := 133) rfl (by decide +kernel)
theorem q4_134 : Cond.fieldLink RX9 40 "CharadePostModel" "row" "[I" ∈ gtb := tk4 (i := 134) rfl (by decide +kernel)
theorem q4_135 : Cond.fieldLink RX9 43 "CharadePostModel" "who" "[I" ∈ gtb := tk4 (i := 135) rfl (by decide +kernel)
theorem q4_136 : Cond.fieldLink RX9 46 "CharadePostModel" "order" "[I" ∈ gtb := tk4 (i := 136) rfl (by decide +kernel)
theorem q4_137 : Cond.fieldLink RX9 49 "CharadePostModel" "bestOrder" "[I" ∈ gtb := tk4 (i := 137) rfl (by decide +kernel)
theorem q4_138 : Cond.fieldLink RX9 52 "CharadePostModel" "costs" "[I" ∈ gtb := tk4 (i := 138) rfl (by decide +kernel)
theorem q4_139 : Cond.fieldLink RX9 55 "CharadePostModel" "taken" "[I" ∈ gtb := tk4 (i := 139) rfl (by decide +kernel)
theorem q4_140 : Cond.laysFinal "CharadePostModel" "CharadePostModel" "post" "[I" ∈ gtb := tk4 (i := 140) rfl (by decide +kernel)
theorem q4_142 : Cond.laysFinal "CharadePostModel" "CharadePostModel" "read" "[I" ∈ gtb := tk4 (i := 142) rfl (by decide +kernel)
theorem q4_144 : Cond.laysFinal "CharadePostModel" "CharadePostModel" "now" "[I" ∈ gtb := tk4 (i := 144) rfl (by decide +kernel)
theorem q4_146 : Cond.laysFinal "CharadePostModel" "CharadePostModel" "aside" "[I" ∈ gtb := tk4 (i := 146) rfl (by decide +kernel)
theorem q4_148 : Cond.laysFinal "CharadePostModel" "CharadePostModel" "past" "[I" ∈ gtb := tk4 (i := 148) rfl (by decide +kernel)
theorem q4_150 : Cond.lays "CharadePostModel" "CharadePostModel" "undos" "I" ∈ gtb := tk4 (i := 150) rfl (by decide +kernel)
theorem q4_152 : Cond.laysFinal "CharadePostModel" "CharadePostModel" "kept" "[I" ∈ gtb := tk4 (i := 152) rfl (by decide +kernel)
theorem q4_154 : Cond.lays "CharadePostModel" "CharadePostModel" "keptMany" "I" ∈ gtb := tk4 (i := 154) rfl (by decide +kernel)
theorem q4_156 : Cond.laysFinal "CharadePostModel" "CharadePostModel" "sights" "[I" ∈ gtb := tk4 (i := 156) rfl (by decide +kernel)
theorem q4_158 : Cond.lays "CharadePostModel" "CharadePostModel" "sightMany" "I" ∈ gtb := tk4 (i := 158) rfl (by decide +kernel)
theorem q4_160 : Cond.laysFinal "CharadePostModel" "CharadePostModel" "text" "[I" ∈ gtb := tk4 (i := 160) rfl (by decide +kernel)
theorem q4_162 : Cond.lays "CharadePostModel" "CharadePostModel" "size" "I" ∈ gtb := tk4 (i := 162) rfl (by decide +kernel)
theorem q4_164 : Cond.lays "CharadePostModel" "CharadePostModel" "at" "I" ∈ gtb := tk4 (i := 164) rfl (by decide +kernel)
theorem q4_166 : Cond.lays "CharadePostModel" "CharadePostModel" "value" "I" ∈ gtb := tk4 (i := 166) rfl (by decide +kernel)
theorem q4_168 : Cond.laysFinal "CharadePostModel" "CharadePostModel" "weights" "[I" ∈ gtb := tk4 (i := 168) rfl (by decide +kernel)
theorem q4_170 : Cond.laysFinal "CharadePostModel" "CharadePostModel" "tried" "[I" ∈ gtb := tk4 (i := 170) rfl (by decide +kernel)
theorem q4_172 : Cond.lays "CharadePostModel" "CharadePostModel" "above" "J" ∈ gtb := tk4 (i := 172) rfl (by decide +kernel)
theorem q4_174 : Cond.lays "CharadePostModel" "CharadePostModel" "below" "J" ∈ gtb := tk4 (i := 174) rfl (by decide +kernel)
theorem q4_176 : Cond.lays "CharadePostModel" "CharadePostModel" "paid" "I" ∈ gtb := tk4 (i := 176) rfl (by decide +kernel)
theorem q4_178 : Cond.laysFinal "CharadePostModel" "CharadePostModel" "row" "[I" ∈ gtb := tk4 (i := 178) rfl (by decide +kernel)
theorem q4_180 : Cond.laysFinal "CharadePostModel" "CharadePostModel" "who" "[I" ∈ gtb := tk4 (i := 180) rfl (by decide +kernel)
theorem q4_182 : Cond.laysFinal "CharadePostModel" "CharadePostModel" "order" "[I" ∈ gtb := tk4 (i := 182) rfl (by decide +kernel)
theorem q4_184 : Cond.laysFinal "CharadePostModel" "CharadePostModel" "bestOrder" "[I" ∈ gtb := tk4 (i := 184) rfl (by decide +kernel)
theorem q4_186 : Cond.laysFinal "CharadePostModel" "CharadePostModel" "costs" "[I" ∈ gtb := tk4 (i := 186) rfl (by decide +kernel)
theorem q4_188 : Cond.laysFinal "CharadePostModel" "CharadePostModel" "taken" "[I" ∈ gtb := tk4 (i := 188) rfl (by decide +kernel)
theorem q4_191 : Cond.methodLink RL 17 yX9_write ∈ gtb := tk4 (i := 191) rfl (by decide +kernel)
theorem q4_192 : Cond.instanceMethod yX9_write ∈ gtb := tk4 (i := 192) rfl (by decide +kernel)
theorem q4_193 : Cond.selects RX9 yX9_write yX9_write ∈ gtb := tk4 (i := 193) rfl (by decide +kernel)
theorem q4_194 : Cond.code yX9_write cX9_write 2 (some .int) ∈ gtb := tk4 (i := 194) rfl (by decide +kernel)
theorem q4_195 : Cond.constantLong RX9 78 (32) ∈ gtb := tk4 (i := 195) rfl (by decide +kernel)
theorem q4_196 : Cond.constantLong RX9 80 (126) ∈ gtb := tk4 (i := 196) rfl (by decide +kernel)
theorem q4_197 : Cond.methodLink RX9 82 yX9_in ∈ gtb := tk4 (i := 197) rfl (by decide +kernel)
theorem q4_198 : Cond.static yX9_in ∈ gtb := tk4 (i := 198) rfl (by decide +kernel)
theorem q4_199 : Cond.code yX9_in cX9_in 6 (some .boolean) ∈ gtb := tk4 (i := 199) rfl (by decide +kernel)
theorem q4_200 : Cond.methodLink RL 22 yX9_wipe ∈ gtb := tk4 (i := 200) rfl (by decide +kernel)
theorem q4_201 : Cond.instanceMethod yX9_wipe ∈ gtb := tk4 (i := 201) rfl (by decide +kernel)
theorem q4_202 : Cond.selects RX9 yX9_wipe yX9_wipe ∈ gtb := tk4 (i := 202) rfl (by decide +kernel)
theorem q4_203 : Cond.code yX9_wipe cX9_wipe 2 (some .int) ∈ gtb := tk4 (i := 203) rfl (by decide +kernel)
theorem q4_204 : Cond.methodLink RL 26 yX9_fault ∈ gtb := tk4 (i := 204) rfl (by decide +kernel)
theorem q4_205 : Cond.instanceMethod yX9_fault ∈ gtb := tk4 (i := 205) rfl (by decide +kernel)
theorem q4_206 : Cond.selects RX9 yX9_fault yX9_fault ∈ gtb := tk4 (i := 206) rfl (by decide +kernel)
theorem q4_207 : Cond.code yX9_fault cX9_fault 1 (some .int) ∈ gtb := tk4 (i := 207) rfl (by decide +kernel)
theorem q4_208 : Cond.methodLink RX9 145 yX9_reads ∈ gtb := tk4 (i := 208) rfl (by decide +kernel)
theorem q4_210 : Cond.instanceMethod yX9_reads ∈ gtb := tk4 (i := 210) rfl (by decide +kernel)
theorem q4_211 : Cond.code yX9_reads cX9_reads 2 (some .int) ∈ gtb := tk4 (i := 211) rfl (by decide +kernel)
theorem q4_212 : Cond.methodLink RX9 142 yX9_readsItem ∈ gtb := tk4 (i := 212) rfl (by decide +kernel)
theorem q4_214 : Cond.instanceMethod yX9_readsItem ∈ gtb := tk4 (i := 214) rfl (by decide +kernel)
theorem q4_215 : Cond.code yX9_readsItem cX9_readsItem 2 (some .boolean) ∈ gtb := tk4 (i := 215) rfl (by decide +kernel)
theorem q4_216 : Cond.methodLink RX9 92 yX9_here ∈ gtb := tk4 (i := 216) rfl (by decide +kernel)
theorem q4_218 : Cond.instanceMethod yX9_here ∈ gtb := tk4 (i := 218) rfl (by decide +kernel)
theorem q4_219 : Cond.code yX9_here cX9_here 1 (some .int) ∈ gtb := tk4 (i := 219) rfl (by decide +kernel)
theorem q4_220 : Cond.methodLink RX9 123 yX9_readsWord ∈ gtb := tk4 (i := 220) rfl (by decide +kernel)
theorem q4_222 : Cond.instanceMethod yX9_readsWord ∈ gtb := tk4 (i := 222) rfl (by decide +kernel)
theorem q4_223 : Cond.code yX9_readsWord cX9_readsWord 4 (some .boolean) ∈ gtb := tk4 (i := 223) rfl (by decide +kernel)
theorem q4_224 : Cond.methodLink RX9 107 yX9_number ∈ gtb := tk4 (i := 224) rfl (by decide +kernel)
theorem q4_226 : Cond.instanceMethod yX9_number ∈ gtb := tk4 (i := 226) rfl (by decide +kernel)
theorem q4_227 : Cond.code yX9_number cX9_number 3 (some .boolean) ∈ gtb := tk4 (i := 227) rfl (by decide +kernel)
theorem q4_228 : Cond.methodLink RX9 100 yX9_isFigure ∈ gtb := tk4 (i := 228) rfl (by decide +kernel)
theorem q4_229 : Cond.static yX9_isFigure ∈ gtb := tk4 (i := 229) rfl (by decide +kernel)
theorem q4_230 : Cond.code yX9_isFigure cX9_isFigure 1 (some .boolean) ∈ gtb := tk4 (i := 230) rfl (by decide +kernel)
theorem q4_231 : Cond.constantLong RX9 96 (48) ∈ gtb := tk4 (i := 231) rfl (by decide +kernel)
theorem q4_232 : Cond.constantLong RX9 98 (57) ∈ gtb := tk4 (i := 232) rfl (by decide +kernel)
theorem q4_233 : Cond.methodLink RX9 111 yX9_takes ∈ gtb := tk4 (i := 233) rfl (by decide +kernel)
theorem q4_235 : Cond.instanceMethod yX9_takes ∈ gtb := tk4 (i := 235) rfl (by decide +kernel)
theorem q4_236 : Cond.code yX9_takes cX9_takes 3 (some .boolean) ∈ gtb := tk4 (i := 236) rfl (by decide +kernel)
theorem q4_237 : Cond.constantLong RX9 114 (97) ∈ gtb := tk4 (i := 237) rfl (by decide +kernel)
theorem q4_238 : Cond.constantLong RX9 116 (102) ∈ gtb := tk4 (i := 238) rfl (by decide +kernel)
theorem q4_239 : Cond.constantLong RX9 118 (3) ∈ gtb := tk4 (i := 239) rfl (by decide +kernel)
theorem q5_0 : Cond.methodLink RX9 127 yX9_readsLikeness ∈ gtb := tk5 (i := 0) rfl (by decide +kernel)
theorem q5_2 : Cond.instanceMethod yX9_readsLikeness ∈ gtb := tk5 (i := 2) rfl (by decide +kernel)
theorem q5_3 : Cond.code yX9_readsLikeness cX9_readsLikeness 3 (some .boolean) ∈ gtb := tk5 (i := 3) rfl (by decide +kernel)
theorem q5_4 : Cond.methodLink RX9 120 yX9_has ∈ gtb := tk5 (i := 4) rfl (by decide +kernel)
theorem q5_5 : Cond.static yX9_has ∈ gtb := tk5 (i := 5) rfl (by decide +kernel)
theorem q5_6 : Cond.code yX9_has cX9_has 2 (some .boolean) ∈ gtb := tk5 (i := 6) rfl (by decide +kernel)
theorem q5_7 : Cond.methodLink RX9 130 yX9_readsBarred ∈ gtb := tk5 (i := 7) rfl (by decide +kernel)
theorem q5_9 : Cond.instanceMethod yX9_readsBarred ∈ gtb := tk5 (i := 9) rfl (by decide +kernel)
theorem q5_10 : Cond.code yX9_readsBarred cX9_readsBarred 1 (some .boolean) ∈ gtb := tk5 (i := 10) rfl (by decide +kernel)
theorem q5_11 : Cond.methodLink RX9 133 yX9_readsHabits ∈ gtb := tk5 (i := 11) rfl (by decide +kernel)
theorem q5_13 : Cond.instanceMethod yX9_readsHabits ∈ gtb := tk5 (i := 13) rfl (by decide +kernel)
theorem q5_14 : Cond.code yX9_readsHabits cX9_readsHabits 1 (some .boolean) ∈ gtb := tk5 (i := 14) rfl (by decide +kernel)
theorem q5_15 : Cond.methodLink RX9 136 yX9_readsCost ∈ gtb := tk5 (i := 15) rfl (by decide +kernel)
theorem q5_17 : Cond.instanceMethod yX9_readsCost ∈ gtb := tk5 (i := 17) rfl (by decide +kernel)
theorem q5_18 : Cond.code yX9_readsCost cX9_readsCost 1 (some .boolean) ∈ gtb := tk5 (i := 18) rfl (by decide +kernel)
theorem q5_19 : Cond.methodLink RX9 139 yX9_readsActor ∈ gtb := tk5 (i := 19) rfl (by decide +kernel)
theorem q5_21 : Cond.instanceMethod yX9_readsActor ∈ gtb := tk5 (i := 21) rfl (by decide +kernel)
theorem q5_22 : Cond.code yX9_readsActor cX9_readsActor 3 (some .boolean) ∈ gtb := tk5 (i := 22) rfl (by decide +kernel)
theorem q5_23 : Cond.methodLink RL 30 yX9_lay ∈ gtb := tk5 (i := 23) rfl (by decide +kernel)
theorem q5_24 : Cond.instanceMethod yX9_lay ∈ gtb := tk5 (i := 24) rfl (by decide +kernel)
theorem q5_25 : Cond.selects RX9 yX9_lay yX9_lay ∈ gtb := tk5 (i := 25) rfl (by decide +kernel)
theorem q5_26 : Cond.code yX9_lay cX9_lay 1 (some .int) ∈ gtb := tk5 (i := 26) rfl (by decide +kernel)
theorem q5_27 : Cond.methodLink RX9 148 yX9_copies ∈ gtb := tk5 (i := 27) rfl (by decide +kernel)
theorem q5_28 : Cond.static yX9_copies ∈ gtb := tk5 (i := 28) rfl (by decide +kernel)
theorem q5_29 : Cond.code yX9_copies cX9_copies 6 none ∈ gtb := tk5 (i := 29) rfl (by decide +kernel)
theorem q5_30 : Cond.methodLink RL 35 yX9_word_ ∈ gtb := tk5 (i := 30) rfl (by decide +kernel)
theorem q5_31 : Cond.instanceMethod yX9_word_ ∈ gtb := tk5 (i := 31) rfl (by decide +kernel)
theorem q5_32 : Cond.selects RX9 yX9_word_ yX9_word_ ∈ gtb := tk5 (i := 32) rfl (by decide +kernel)
theorem q5_33 : Cond.code yX9_word_ cX9_word_ 3 (some .int) ∈ gtb := tk5 (i := 33) rfl (by decide +kernel)
theorem q5_34 : Cond.methodLink RX9 155 yX9_isWord ∈ gtb := tk5 (i := 34) rfl (by decide +kernel)
theorem q5_36 : Cond.instanceMethod yX9_isWord ∈ gtb := tk5 (i := 36) rfl (by decide +kernel)
theorem q5_37 : Cond.code yX9_isWord cX9_isWord 2 (some .boolean) ∈ gtb := tk5 (i := 37) rfl (by decide +kernel)
theorem q5_38 : Cond.methodLink RX9 158 yX9_likesOf ∈ gtb := tk5 (i := 38) rfl (by decide +kernel)
theorem q5_40 : Cond.instanceMethod yX9_likesOf ∈ gtb := tk5 (i := 40) rfl (by decide +kernel)
theorem q5_41 : Cond.code yX9_likesOf cX9_likesOf 4 (some .int) ∈ gtb := tk5 (i := 41) rfl (by decide +kernel)
theorem q5_42 : Cond.methodLink RL 39 yX9_forbidden ∈ gtb := tk5 (i := 42) rfl (by decide +kernel)
theorem q5_43 : Cond.instanceMethod yX9_forbidden ∈ gtb := tk5 (i := 43) rfl (by decide +kernel)
theorem q5_44 : Cond.selects RX9 yX9_forbidden yX9_forbidden ∈ gtb := tk5 (i := 44) rfl (by decide +kernel)
theorem q5_45 : Cond.code yX9_forbidden cX9_forbidden 2 (some .int) ∈ gtb := tk5 (i := 45) rfl (by decide +kernel)
theorem q5_46 : Cond.methodLink RX9 162 yX9_isSign ∈ gtb := tk5 (i := 46) rfl (by decide +kernel)
theorem q5_48 : Cond.instanceMethod yX9_isSign ∈ gtb := tk5 (i := 48) rfl (by decide +kernel)
theorem q5_49 : Cond.code yX9_isSign cX9_isSign 2 (some .boolean) ∈ gtb := tk5 (i := 49) rfl (by decide +kernel)
theorem q5_50 : Cond.methodLink RX9 152 yX9_signs ∈ gtb := tk5 (i := 50) rfl (by decide +kernel)
theorem q5_52 : Cond.instanceMethod yX9_signs ∈ gtb := tk5 (i := 52) rfl (by decide +kernel)
theorem q5_53 : Cond.code yX9_signs cX9_signs 1 (some .int) ∈ gtb := tk5 (i := 53) rfl (by decide +kernel)
theorem q5_54 : Cond.methodLink RL 43 yX9_actor_ ∈ gtb := tk5 (i := 54) rfl (by decide +kernel)
theorem q5_55 : Cond.instanceMethod yX9_actor_ ∈ gtb := tk5 (i := 55) rfl (by decide +kernel)
theorem q5_56 : Cond.selects RX9 yX9_actor_ yX9_actor_ ∈ gtb := tk5 (i := 56) rfl (by decide +kernel)
theorem q5_57 : Cond.code yX9_actor_ cX9_actor_ 3 (some .int) ∈ gtb := tk5 (i := 57) rfl (by decide +kernel)
theorem q5_58 : Cond.methodLink RX9 165 yX9_isActor ∈ gtb := tk5 (i := 58) rfl (by decide +kernel)
theorem q5_60 : Cond.instanceMethod yX9_isActor ∈ gtb := tk5 (i := 60) rfl (by decide +kernel)
theorem q5_61 : Cond.code yX9_isActor cX9_isActor 2 (some .boolean) ∈ gtb := tk5 (i := 61) rfl (by decide +kernel)
theorem q5_62 : Cond.methodLink RL 47 yX9_shown ∈ gtb := tk5 (i := 62) rfl (by decide +kernel)
theorem q5_63 : Cond.instanceMethod yX9_shown ∈ gtb := tk5 (i := 63) rfl (by decide +kernel)
theorem q5_64 : Cond.selects RX9 yX9_shown yX9_shown ∈ gtb := tk5 (i := 64) rfl (by decide +kernel)
theorem q5_65 : Cond.code yX9_shown cX9_shown 3 (some .int) ∈ gtb := tk5 (i := 65) rfl (by decide +kernel)
theorem q5_66 : Cond.methodLink RL 67 yX9_weight ∈ gtb := tk5 (i := 66) rfl (by decide +kernel)
theorem q5_67 : Cond.instanceMethod yX9_weight ∈ gtb := tk5 (i := 67) rfl (by decide +kernel)
theorem q5_68 : Cond.selects RX9 yX9_weight yX9_weight ∈ gtb := tk5 (i := 68) rfl (by decide +kernel)
theorem q5_69 : Cond.code yX9_weight cX9_weight 3 (some .int) ∈ gtb := tk5 (i := 69) rfl (by decide +kernel)
theorem q5_70 : Cond.methodLink RX9 183 yX9_weighActor ∈ gtb := tk5 (i := 70) rfl (by decide +kernel)
theorem q5_72 : Cond.instanceMethod yX9_weighActor ∈ gtb := tk5 (i := 72) rfl (by decide +kernel)
theorem q5_73 : Cond.code yX9_weighActor cX9_weighActor 3 none ∈ gtb := tk5 (i := 73) rfl (by decide +kernel)
theorem q5_74 : Cond.methodLink RX9 179 yX9_weigh ∈ gtb := tk5 (i := 74) rfl (by decide +kernel)
theorem q5_76 : Cond.instanceMethod yX9_weigh ∈ gtb := tk5 (i := 76) rfl (by decide +kernel)
theorem q5_77 : Cond.code yX9_weigh cX9_weigh 11 none ∈ gtb := tk5 (i := 77) rfl (by decide +kernel)
theorem q5_78 : Cond.methodLink RX9 175 yX9_times ∈ gtb := tk5 (i := 78) rfl (by decide +kernel)
theorem q5_80 : Cond.instanceMethod yX9_times ∈ gtb := tk5 (i := 80) rfl (by decide +kernel)
theorem q5_81 : Cond.code yX9_times cX9_times 6 (some .int) ∈ gtb := tk5 (i := 81) rfl (by decide +kernel)
theorem q5_82 : Cond.methodLink RX9 168 yX9_byPart ∈ gtb := tk5 (i := 82) rfl (by decide +kernel)
theorem q5_84 : Cond.instanceMethod yX9_byPart ∈ gtb := tk5 (i := 84) rfl (by decide +kernel)
theorem q5_85 : Cond.code yX9_byPart cX9_byPart 6 (some .int) ∈ gtb := tk5 (i := 85) rfl (by decide +kernel)
theorem q5_86 : Cond.methodLink RX9 172 yX9_byLikeness ∈ gtb := tk5 (i := 86) rfl (by decide +kernel)
theorem q5_88 : Cond.instanceMethod yX9_byLikeness ∈ gtb := tk5 (i := 88) rfl (by decide +kernel)
theorem q5_89 : Cond.code yX9_byLikeness cX9_byLikeness 5 (some .int) ∈ gtb := tk5 (i := 89) rfl (by decide +kernel)
theorem q5_90 : Cond.methodLink RL 72 yX9_likely ∈ gtb := tk5 (i := 90) rfl (by decide +kernel)
theorem q5_91 : Cond.instanceMethod yX9_likely ∈ gtb := tk5 (i := 91) rfl (by decide +kernel)
theorem q5_92 : Cond.selects RX9 yX9_likely yX9_likely ∈ gtb := tk5 (i := 92) rfl (by decide +kernel)
theorem q5_93 : Cond.code yX9_likely cX9_likely 6 (some .int) ∈ gtb := tk5 (i := 93) rfl (by decide +kernel)
theorem q5_94 : Cond.methodLink RX9 198 yX9_sumOf ∈ gtb := tk5 (i := 94) rfl (by decide +kernel)
theorem q5_96 : Cond.instanceMethod yX9_sumOf ∈ gtb := tk5 (i := 96) rfl (by decide +kernel)
theorem q5_97 : Cond.code yX9_sumOf cX9_sumOf 5 (some .long) ∈ gtb := tk5 (i := 97) rfl (by decide +kernel)
theorem q5_98 : Cond.methodLink RX9 202 yX9_lowest ∈ gtb := tk5 (i := 98) rfl (by decide +kernel)
theorem q5_100 : Cond.instanceMethod yX9_lowest ∈ gtb := tk5 (i := 100) rfl (by decide +kernel)
theorem q5_101 : Cond.code yX9_lowest cX9_lowest 11 none ∈ gtb := tk5 (i := 101) rfl (by decide +kernel)
theorem q5_102 : Cond.methodLink RL 76 yX9_next ∈ gtb := tk5 (i := 102) rfl (by decide +kernel)
theorem q5_103 : Cond.instanceMethod yX9_next ∈ gtb := tk5 (i := 103) rfl (by decide +kernel)
theorem q5_104 : Cond.selects RX9 yX9_next yX9_next ∈ gtb := tk5 (i := 104) rfl (by decide +kernel)
theorem q5_105 : Cond.code yX9_next cX9_next 2 (some .int) ∈ gtb := tk5 (i := 105) rfl (by decide +kernel)
theorem q5_106 : Cond.methodLink RX9 206 yX9_waits ∈ gtb := tk5 (i := 106) rfl (by decide +kernel)
theorem q5_108 : Cond.instanceMethod yX9_waits ∈ gtb := tk5 (i := 108) rfl (by decide +kernel)
theorem q5_109 : Cond.code yX9_waits cX9_waits 2 (some .boolean) ∈ gtb := tk5 (i := 109) rfl (by decide +kernel)
theorem q5_110 : Cond.methodLink RX9 209 yX9_nextAt ∈ gtb := tk5 (i := 110) rfl (by decide +kernel)
theorem q5_112 : Cond.instanceMethod yX9_nextAt ∈ gtb := tk5 (i := 112) rfl (by decide +kernel)
theorem q5_113 : Cond.code yX9_nextAt cX9_nextAt 3 (some .int) ∈ gtb := tk5 (i := 113) rfl (by decide +kernel)
theorem q5_114 : Cond.methodLink RX9 187 yX9_greatest ∈ gtb := tk5 (i := 114) rfl (by decide +kernel)
theorem q5_116 : Cond.instanceMethod yX9_greatest ∈ gtb := tk5 (i := 116) rfl (by decide +kernel)
theorem q5_117 : Cond.code yX9_greatest cX9_greatest 4 (some .int) ∈ gtb := tk5 (i := 117) rfl (by decide +kernel)
theorem q5_118 : Cond.methodLink RL 51 yX9_show ∈ gtb := tk5 (i := 118) rfl (by decide +kernel)
theorem q5_119 : Cond.instanceMethod yX9_show ∈ gtb := tk5 (i := 119) rfl (by decide +kernel)
theorem q5_120 : Cond.selects RX9 yX9_show yX9_show ∈ gtb := tk5 (i := 120) rfl (by decide +kernel)
theorem q5_121 : Cond.code yX9_show cX9_show 3 (some .int) ∈ gtb := tk5 (i := 121) rfl (by decide +kernel)
theorem q5_122 : Cond.methodLink RX9 213 yX9_mayShow ∈ gtb := tk5 (i := 122) rfl (by decide +kernel)
theorem q5_123 : Cond.static yX9_mayShow ∈ gtb := tk5 (i := 123) rfl (by decide +kernel)
theorem q5_124 : Cond.code yX9_mayShow cX9_mayShow 2 (some .boolean) ∈ gtb := tk5 (i := 124) rfl (by decide +kernel)
theorem q5_125 : Cond.methodLink RX9 217 yX9_remember ∈ gtb := tk5 (i := 125) rfl (by decide +kernel)
theorem q5_127 : Cond.instanceMethod yX9_remember ∈ gtb := tk5 (i := 127) rfl (by decide +kernel)
theorem q5_128 : Cond.code yX9_remember cX9_remember 2 none ∈ gtb := tk5 (i := 128) rfl (by decide +kernel)
theorem q5_129 : Cond.methodLink RX9 220 yX9_shows ∈ gtb := tk5 (i := 129) rfl (by decide +kernel)
theorem q5_131 : Cond.instanceMethod yX9_shows ∈ gtb := tk5 (i := 131) rfl (by decide +kernel)
theorem q5_132 : Cond.code yX9_shows cX9_shows 4 (some .int) ∈ gtb := tk5 (i := 132) rfl (by decide +kernel)
theorem q5_133 : Cond.methodLink RL 55 yX9_guess ∈ gtb := tk5 (i := 133) rfl (by decide +kernel)
theorem q5_134 : Cond.instanceMethod yX9_guess ∈ gtb := tk5 (i := 134) rfl (by decide +kernel)
theorem q5_135 : Cond.selects RX9 yX9_guess yX9_guess ∈ gtb := tk5 (i := 135) rfl (by decide +kernel)
theorem q5_136 : Cond.code yX9_guess cX9_guess 2 (some .int) ∈ gtb := tk5 (i := 136) rfl (by decide +kernel)
theorem q5_137 : Cond.methodLink RX9 230 yX9_guesses ∈ gtb := tk5 (i := 137) rfl (by decide +kernel)
theorem q5_139 : Cond.instanceMethod yX9_guesses ∈ gtb := tk5 (i := 139) rfl (by decide +kernel)
theorem q5_140 : Cond.code yX9_guesses cX9_guesses 6 (some .int) ∈ gtb := tk5 (i := 140) rfl (by decide +kernel)
theorem q5_141 : Cond.methodLink RX9 227 yX9_bits ∈ gtb := tk5 (i := 141) rfl (by decide +kernel)
theorem q5_142 : Cond.static yX9_bits ∈ gtb := tk5 (i := 142) rfl (by decide +kernel)
theorem q5_143 : Cond.code yX9_bits cX9_bits 3 (some .int) ∈ gtb := tk5 (i := 143) rfl (by decide +kernel)
theorem q5_144 : Cond.methodLink RL 59 yX9_change ∈ gtb := tk5 (i := 144) rfl (by decide +kernel)
theorem q5_145 : Cond.instanceMethod yX9_change ∈ gtb := tk5 (i := 145) rfl (by decide +kernel)
theorem q5_146 : Cond.selects RX9 yX9_change yX9_change ∈ gtb := tk5 (i := 146) rfl (by decide +kernel)
theorem q5_147 : Cond.code yX9_change cX9_change 4 (some .int) ∈ gtb := tk5 (i := 147) rfl (by decide +kernel)
theorem q5_148 : Cond.methodLink RX9 233 yX9_isFresh ∈ gtb := tk5 (i := 148) rfl (by decide +kernel)
theorem q5_150 : Cond.instanceMethod yX9_isFresh ∈ gtb := tk5 (i := 150) rfl (by decide +kernel)
theorem q5_151 : Cond.code yX9_isFresh cX9_isFresh 2 (some .boolean) ∈ gtb := tk5 (i := 151) rfl (by decide +kernel)
theorem q5_152 : Cond.methodLink RL 63 yX9_undo ∈ gtb := tk5 (i := 152) rfl (by decide +kernel)
theorem q5_153 : Cond.instanceMethod yX9_undo ∈ gtb := tk5 (i := 153) rfl (by decide +kernel)
theorem q5_154 : Cond.selects RX9 yX9_undo yX9_undo ∈ gtb := tk5 (i := 154) rfl (by decide +kernel)
theorem q5_155 : Cond.code yX9_undo cX9_undo 1 (some .int) ∈ gtb := tk5 (i := 155) rfl (by decide +kernel)
theorem q5_156 : Cond.methodLink RL 80 yX9_fewest ∈ gtb := tk5 (i := 156) rfl (by decide +kernel)
theorem q5_157 : Cond.instanceMethod yX9_fewest ∈ gtb := tk5 (i := 157) rfl (by decide +kernel)
theorem q5_158 : Cond.selects RX9 yX9_fewest yX9_fewest ∈ gtb := tk5 (i := 158) rfl (by decide +kernel)
theorem q5_159 : Cond.code yX9_fewest cX9_fewest 5 (some .int) ∈ gtb := tk5 (i := 159) rfl (by decide +kernel)
theorem q5_160 : Cond.methodLink RX9 246 yX9_fewestFor ∈ gtb := tk5 (i := 160) rfl (by decide +kernel)
theorem q5_162 : Cond.instanceMethod yX9_fewestFor ∈ gtb := tk5 (i := 162) rfl (by decide +kernel)
theorem q5_163 : Cond.code yX9_fewestFor cX9_fewestFor 5 (some .int) ∈ gtb := tk5 (i := 163) rfl (by decide +kernel)
theorem q5_164 : Cond.methodLink RX9 236 yX9_firstRow ∈ gtb := tk5 (i := 164) rfl (by decide +kernel)
theorem q5_166 : Cond.instanceMethod yX9_firstRow ∈ gtb := tk5 (i := 166) rfl (by decide +kernel)
theorem q5_167 : Cond.code yX9_firstRow cX9_firstRow 4 (some .boolean) ∈ gtb := tk5 (i := 167) rfl (by decide +kernel)
theorem q5_168 : Cond.methodLink RX9 239 yX9_wouldBe ∈ gtb := tk5 (i := 168) rfl (by decide +kernel)
theorem q5_170 : Cond.instanceMethod yX9_wouldBe ∈ gtb := tk5 (i := 170) rfl (by decide +kernel)
theorem q5_171 : Cond.code yX9_wouldBe cX9_wouldBe 7 (some .boolean) ∈ gtb := tk5 (i := 171) rfl (by decide +kernel)
theorem q5_172 : Cond.methodLink RX9 243 yX9_nextRow ∈ gtb := tk5 (i := 172) rfl (by decide +kernel)
theorem q5_174 : Cond.instanceMethod yX9_nextRow ∈ gtb := tk5 (i := 174) rfl (by decide +kernel)
theorem q5_175 : Cond.code yX9_nextRow cX9_nextRow 5 (some .boolean) ∈ gtb := tk5 (i := 175) rfl (by decide +kernel)
theorem q5_176 : Cond.methodLink RL 84 yX9_tells ∈ gtb := tk5 (i := 176) rfl (by decide +kernel)
theorem q5_177 : Cond.instanceMethod yX9_tells ∈ gtb := tk5 (i := 177) rfl (by decide +kernel)
theorem q5_178 : Cond.selects RX9 yX9_tells yX9_tells ∈ gtb := tk5 (i := 178) rfl (by decide +kernel)
theorem q5_179 : Cond.code yX9_tells cX9_tells 13 (some .int) ∈ gtb := tk5 (i := 179) rfl (by decide +kernel)
theorem q5_180 : Cond.methodLink RL 88 yX9_send ∈ gtb := tk5 (i := 180) rfl (by decide +kernel)
theorem q5_181 : Cond.instanceMethod yX9_send ∈ gtb := tk5 (i := 181) rfl (by decide +kernel)
theorem q5_182 : Cond.selects RX9 yX9_send yX9_send ∈ gtb := tk5 (i := 182) rfl (by decide +kernel)
theorem q5_183 : Cond.code yX9_send cX9_send 6 (some .int) ∈ gtb := tk5 (i := 183) rfl (by decide +kernel)
theorem q5_184 : Cond.methodLink RX9 258 yX9_freshOnes ∈ gtb := tk5 (i := 184) rfl (by decide +kernel)
theorem q5_186 : Cond.instanceMethod yX9_freshOnes ∈ gtb := tk5 (i := 186) rfl (by decide +kernel)
theorem q5_187 : Cond.code yX9_freshOnes cX9_freshOnes 3 (some .int) ∈ gtb := tk5 (i := 187) rfl (by decide +kernel)
theorem q5_188 : Cond.methodLink RX9 261 yX9_deals ∈ gtb := tk5 (i := 188) rfl (by decide +kernel)
theorem q5_190 : Cond.instanceMethod yX9_deals ∈ gtb := tk5 (i := 190) rfl (by decide +kernel)
theorem q5_191 : Cond.code yX9_deals cX9_deals 6 (some .int) ∈ gtb := tk5 (i := 191) rfl (by decide +kernel)
theorem q5_192 : Cond.constant RX9 250 (1000000) ∈ gtb := tk5 (i := 192) rfl (by decide +kernel)
theorem q5_193 : Cond.methodLink RX9 251 yX9_firstOrder ∈ gtb := tk5 (i := 193) rfl (by decide +kernel)
theorem q5_195 : Cond.instanceMethod yX9_firstOrder ∈ gtb := tk5 (i := 195) rfl (by decide +kernel)
theorem q5_196 : Cond.code yX9_firstOrder cX9_firstOrder 3 none ∈ gtb := tk5 (i := 196) rfl (by decide +kernel)
theorem q5_197 : Cond.methodLink RX9 255 yX9_nextOrder ∈ gtb := tk5 (i := 197) rfl (by decide +kernel)
theorem q5_199 : Cond.instanceMethod yX9_nextOrder ∈ gtb := tk5 (i := 199) rfl (by decide +kernel)
theorem q5_200 : Cond.code yX9_nextOrder cX9_nextOrder 7 (some .boolean) ∈ gtb := tk5 (i := 200) rfl (by decide +kernel)
theorem q5_201 : Cond.methodLink RL 92 yX9_queue ∈ gtb := tk5 (i := 201) rfl (by decide +kernel)
theorem q5_202 : Cond.instanceMethod yX9_queue ∈ gtb := tk5 (i := 202) rfl (by decide +kernel)
theorem q5_203 : Cond.selects RX9 yX9_queue yX9_queue ∈ gtb := tk5 (i := 203) rfl (by decide +kernel)
theorem q5_204 : Cond.code yX9_queue cX9_queue 4 (some .int) ∈ gtb := tk5 (i := 204) rfl (by decide +kernel)
theorem q5_205 : Cond.methodLink RX9 264 yX9_waitingOnes ∈ gtb := tk5 (i := 205) rfl (by decide +kernel)
theorem q5_207 : Cond.instanceMethod yX9_waitingOnes ∈ gtb := tk5 (i := 207) rfl (by decide +kernel)
theorem q5_208 : Cond.code yX9_waitingOnes cX9_waitingOnes 3 (some .int) ∈ gtb := tk5 (i := 208) rfl (by decide +kernel)
theorem q5_209 : Cond.methodLink RX9 267 yX9_queues ∈ gtb := tk5 (i := 209) rfl (by decide +kernel)
theorem q5_211 : Cond.instanceMethod yX9_queues ∈ gtb := tk5 (i := 211) rfl (by decide +kernel)
theorem q5_212 : Cond.code yX9_queues cX9_queues 7 (some .int) ∈ gtb := tk5 (i := 212) rfl (by decide +kernel)
theorem q5_213 : Cond.methodLink RL 96 yX9_parted ∈ gtb := tk5 (i := 213) rfl (by decide +kernel)
theorem q5_214 : Cond.instanceMethod yX9_parted ∈ gtb := tk5 (i := 214) rfl (by decide +kernel)
theorem q5_215 : Cond.selects RX9 yX9_parted yX9_parted ∈ gtb := tk5 (i := 215) rfl (by decide +kernel)
theorem q5_216 : Cond.code yX9_parted cX9_parted 6 (some .int) ∈ gtb := tk5 (i := 216) rfl (by decide +kernel)
theorem q5_217 : Cond.methodLink RL 100 yX9_most ∈ gtb := tk5 (i := 217) rfl (by decide +kernel)
theorem q5_218 : Cond.instanceMethod yX9_most ∈ gtb := tk5 (i := 218) rfl (by decide +kernel)
theorem q5_219 : Cond.selects RX9 yX9_most yX9_most ∈ gtb := tk5 (i := 219) rfl (by decide +kernel)
theorem q5_220 : Cond.code yX9_most cX9_most 4 (some .int) ∈ gtb := tk5 (i := 220) rfl (by decide +kernel)
theorem q5_221 : Cond.methodLink RL 104 yX9_see ∈ gtb := tk5 (i := 221) rfl (by decide +kernel)
theorem q5_222 : Cond.instanceMethod yX9_see ∈ gtb := tk5 (i := 222) rfl (by decide +kernel)
theorem q5_223 : Cond.selects RX9 yX9_see yX9_see ∈ gtb := tk5 (i := 223) rfl (by decide +kernel)
theorem q5_224 : Cond.code yX9_see cX9_see 3 (some .int) ∈ gtb := tk5 (i := 224) rfl (by decide +kernel)
theorem q5_225 : Cond.methodLink RL 108 yX9_forget ∈ gtb := tk5 (i := 225) rfl (by decide +kernel)
theorem q5_226 : Cond.instanceMethod yX9_forget ∈ gtb := tk5 (i := 226) rfl (by decide +kernel)
theorem q5_227 : Cond.selects RX9 yX9_forget yX9_forget ∈ gtb := tk5 (i := 227) rfl (by decide +kernel)
theorem q5_228 : Cond.code yX9_forget cX9_forget 2 (some .int) ∈ gtb := tk5 (i := 228) rfl (by decide +kernel)
theorem q5_229 : Cond.methodLink RL 112 yX9_habits ∈ gtb := tk5 (i := 229) rfl (by decide +kernel)
theorem q5_230 : Cond.instanceMethod yX9_habits ∈ gtb := tk5 (i := 230) rfl (by decide +kernel)
theorem q5_231 : Cond.selects RX9 yX9_habits yX9_habits ∈ gtb := tk5 (i := 231) rfl (by decide +kernel)
theorem q5_232 : Cond.code yX9_habits cX9_habits 6 (some .int) ∈ gtb := tk5 (i := 232) rfl (by decide +kernel)
theorem q5_233 : Cond.methodLink RX9 270 yX9_areSo ∈ gtb := tk5 (i := 233) rfl (by decide +kernel)
theorem q5_235 : Cond.instanceMethod yX9_areSo ∈ gtb := tk5 (i := 235) rfl (by decide +kernel)
theorem q5_236 : Cond.code yX9_areSo cX9_areSo 6 (some .boolean) ∈ gtb := tk5 (i := 236) rfl (by decide +kernel)
theorem q5_237 : Cond.methodLink RL 116 yX9_wants ∈ gtb := tk5 (i := 237) rfl (by decide +kernel)
theorem q5_238 : Cond.instanceMethod yX9_wants ∈ gtb := tk5 (i := 238) rfl (by decide +kernel)
theorem q5_239 : Cond.selects RX9 yX9_wants yX9_wants ∈ gtb := tk5 (i := 239) rfl (by decide +kernel)
theorem q6_0 : Cond.code yX9_wants cX9_wants 4 (some .int) ∈ gtb := tk6 (i := 0) rfl (by decide +kernel)
theorem q6_1 : Cond.methodLink RL 120 yX9_missed ∈ gtb := tk6 (i := 1) rfl (by decide +kernel)
theorem q6_2 : Cond.instanceMethod yX9_missed ∈ gtb := tk6 (i := 2) rfl (by decide +kernel)
theorem q6_3 : Cond.selects RX9 yX9_missed yX9_missed ∈ gtb := tk6 (i := 3) rfl (by decide +kernel)
theorem q6_4 : Cond.code yX9_missed cX9_missed 14 (some .int) ∈ gtb := tk6 (i := 4) rfl (by decide +kernel)
theorem q6_5 : Cond.constantLong RX9 273 (10) ∈ gtb := tk6 (i := 5) rfl (by decide +kernel)
theorem q6_6 : Cond.methodLink RL 124 yX9_season ∈ gtb := tk6 (i := 6) rfl (by decide +kernel)
theorem q6_7 : Cond.instanceMethod yX9_season ∈ gtb := tk6 (i := 7) rfl (by decide +kernel)
theorem q6_8 : Cond.selects RX9 yX9_season yX9_season ∈ gtb := tk6 (i := 8) rfl (by decide +kernel)
theorem q6_9 : Cond.code yX9_season cX9_season 11 (some .int) ∈ gtb := tk6 (i := 9) rfl (by decide +kernel)
theorem q6_10 : Cond.constantLong RX9 275 (9999) ∈ gtb := tk6 (i := 10) rfl (by decide +kernel)
theorem q6_11 : Cond.constantLong RX9 277 (60) ∈ gtb := tk6 (i := 11) rfl (by decide +kernel)
theorem q6_12 : Cond.constantLong RX9 279 (7919) ∈ gtb := tk6 (i := 12) rfl (by decide +kernel)
theorem q6_13 : Cond.constantLong RX9 281 (6151) ∈ gtb := tk6 (i := 13) rfl (by decide +kernel)
theorem q6_14 : Cond.constantLong RX9 283 (65521) ∈ gtb := tk6 (i := 14) rfl (by decide +kernel)
theorem q6_15 : Cond.constantLong RX9 285 (2) ∈ gtb := tk6 (i := 15) rfl (by decide +kernel)
theorem q6_16 : Cond.methodLink RX9 287 yX9_throughOf ∈ gtb := tk6 (i := 16) rfl (by decide +kernel)
theorem q6_17 : Cond.static yX9_throughOf ∈ gtb := tk6 (i := 17) rfl (by decide +kernel)
theorem q6_18 : Cond.code yX9_throughOf cX9_throughOf 5 (some .int) ∈ gtb := tk6 (i := 18) rfl (by decide +kernel)
theorem q6_19 : Cond.methodLink RL 128 yX9_keep ∈ gtb := tk6 (i := 19) rfl (by decide +kernel)
theorem q6_20 : Cond.instanceMethod yX9_keep ∈ gtb := tk6 (i := 20) rfl (by decide +kernel)
theorem q6_21 : Cond.selects RX9 yX9_keep yX9_keep ∈ gtb := tk6 (i := 21) rfl (by decide +kernel)
theorem q6_22 : Cond.code yX9_keep cX9_keep 1 (some .int) ∈ gtb := tk6 (i := 22) rfl (by decide +kernel)
theorem q6_23 : Cond.methodLink RL 132 yX9_back ∈ gtb := tk6 (i := 23) rfl (by decide +kernel)
theorem q6_24 : Cond.instanceMethod yX9_back ∈ gtb := tk6 (i := 24) rfl (by decide +kernel)
theorem q6_25 : Cond.selects RX9 yX9_back yX9_back ∈ gtb := tk6 (i := 25) rfl (by decide +kernel)
theorem q6_26 : Cond.code yX9_back cX9_back 1 (some .int) ∈ gtb := tk6 (i := 26) rfl (by decide +kernel)
theorem q6_27 : Cond.methodLink RL 136 yX9_count ∈ gtb := tk6 (i := 27) rfl (by decide +kernel)
theorem q6_28 : Cond.instanceMethod yX9_count ∈ gtb := tk6 (i := 28) rfl (by decide +kernel)
theorem q6_29 : Cond.selects RX9 yX9_count yX9_count ∈ gtb := tk6 (i := 29) rfl (by decide +kernel)
theorem q6_30 : Cond.code yX9_count cX9_count 2 (some .int) ∈ gtb := tk6 (i := 30) rfl (by decide +kernel)
theorem q6_31 : Cond.methodLink RX9 290 yX9_shownInAll ∈ gtb := tk6 (i := 31) rfl (by decide +kernel)
theorem q6_33 : Cond.instanceMethod yX9_shownInAll ∈ gtb := tk6 (i := 33) rfl (by decide +kernel)
theorem q6_34 : Cond.code yX9_shownInAll cX9_shownInAll 3 (some .int) ∈ gtb := tk6 (i := 34) rfl (by decide +kernel)
theorem q6_35 : Cond.fieldLink RJ0 9 "java/lang/String" "value" "[B" ∈ gtb := tk6 (i := 35) rfl (by decide +kernel)
theorem q6_36 : Cond.fieldLink RJ0 15 "java/lang/String" "coder" "B" ∈ gtb := tk6 (i := 36) rfl (by decide +kernel)
theorem q0_0 : Cond.selects RX3 yX3_readItem yX3_readItem ∈ gtb := tk0 (i := 0) rfl (by decide +kernel)
theorem q0_1 : Cond.selects RX3 yX3_peek yX3_peek ∈ gtb := tk0 (i := 1) rfl (by decide +kernel)
theorem q0_2 : Cond.selects RX3 yX3_readWord yX3_readWord ∈ gtb := tk0 (i := 2) rfl (by decide +kernel)
theorem q0_3 : Cond.selects RX3 yX3_number yX3_number ∈ gtb := tk0 (i := 3) rfl (by decide +kernel)
theorem q0_4 : Cond.selects RX3 yX3_passes yX3_passes ∈ gtb := tk0 (i := 4) rfl (by decide +kernel)
theorem q0_5 : Cond.selects RX3 yX3_readLikeness yX3_readLikeness ∈ gtb := tk0 (i := 5) rfl (by decide +kernel)
theorem q0_6 : Cond.selects RX3 yX3_readForbidden yX3_readForbidden ∈ gtb := tk0 (i := 6) rfl (by decide +kernel)
theorem q0_7 : Cond.selects RX3 yX3_readHabit yX3_readHabit ∈ gtb := tk0 (i := 7) rfl (by decide +kernel)
theorem q0_8 : Cond.selects RX3 yX3_readPrice yX3_readPrice ∈ gtb := tk0 (i := 8) rfl (by decide +kernel)
theorem q0_9 : Cond.selects RX3 yX3_readActor yX3_readActor ∈ gtb := tk0 (i := 9) rfl (by decide +kernel)
theorem q0_10 : Cond.selects RX8 yX8_isWord yX8_isWord ∈ gtb := tk0 (i := 10) rfl (by decide +kernel)
theorem q0_11 : Cond.selects RX0 yX0_isIn yX0_isIn ∈ gtb := tk0 (i := 11) rfl (by decide +kernel)
theorem q0_12 : Cond.selects RX8 yX8_isSign yX8_isSign ∈ gtb := tk0 (i := 12) rfl (by decide +kernel)
theorem q0_13 : Cond.selects RX8 yX8_isActor yX8_isActor ∈ gtb := tk0 (i := 13) rfl (by decide +kernel)
theorem q0_14 : Cond.selects RX8 yX8_showSign yX8_showSign ∈ gtb := tk0 (i := 14) rfl (by decide +kernel)
theorem q0_15 : Cond.selects RX8 yX8_guessWord yX8_guessWord ∈ gtb := tk0 (i := 15) rfl (by decide +kernel)
theorem q0_16 : Cond.selects RX5 yX5_weighAtFirst yX5_weighAtFirst ∈ gtb := tk0 (i := 16) rfl (by decide +kernel)
theorem q0_17 : Cond.selects RX5 yX5_findFree yX5_findFree ∈ gtb := tk0 (i := 17) rfl (by decide +kernel)
theorem q0_18 : Cond.selects RX5 yX5_judge yX5_judge ∈ gtb := tk0 (i := 18) rfl (by decide +kernel)
theorem q0_19 : Cond.selects RX5 yX5_heaviest yX5_heaviest ∈ gtb := tk0 (i := 19) rfl (by decide +kernel)
theorem q0_20 : Cond.selects RX5 yX5_freeAt yX5_freeAt ∈ gtb := tk0 (i := 20) rfl (by decide +kernel)
theorem q0_21 : Cond.selects RX5 yX5_tryRows yX5_tryRows ∈ gtb := tk0 (i := 21) rfl (by decide +kernel)
theorem q0_22 : Cond.selects RX5 yX5_multiply yX5_multiply ∈ gtb := tk0 (i := 22) rfl (by decide +kernel)
theorem q0_23 : Cond.selects RX8 yX8_mostTelling yX8_mostTelling ∈ gtb := tk0 (i := 23) rfl (by decide +kernel)
theorem q0_24 : Cond.selects RX8 yX8_weightBesides yX8_weightBesides ∈ gtb := tk0 (i := 24) rfl (by decide +kernel)
theorem q0_25 : Cond.selects RX1 yX1_firstOfBest yX1_firstOfBest ∈ gtb := tk0 (i := 25) rfl (by decide +kernel)
theorem q0_26 : Cond.selects RX1 yX1_sumWith yX1_sumWith ∈ gtb := tk0 (i := 26) rfl (by decide +kernel)
theorem q0_27 : Cond.selects RX8 yX8_fewestForWanted yX8_fewestForWanted ∈ gtb := tk0 (i := 27) rfl (by decide +kernel)
theorem q0_28 : Cond.selects RX8 yX8_playDraw yX8_playDraw ∈ gtb := tk0 (i := 28) rfl (by decide +kernel)
theorem q0_29 : Cond.selects RX8 yX8_howMany yX8_howMany ∈ gtb := tk0 (i := 29) rfl (by decide +kernel)
theorem q0_30 : Cond.selects RX8 yX8_sumOf yX8_sumOf ∈ gtb := tk0 (i := 30) rfl (by decide +kernel)
theorem q0_31 : Cond.selects RX9 yX9_begins yX9_begins ∈ gtb := tk0 (i := 31) rfl (by decide +kernel)
theorem q0_32 : Cond.selects RX9 yX9_reads yX9_reads ∈ gtb := tk0 (i := 32) rfl (by decide +kernel)
theorem q0_33 : Cond.selects RX9 yX9_readsItem yX9_readsItem ∈ gtb := tk0 (i := 33) rfl (by decide +kernel)
theorem q0_34 : Cond.selects RX9 yX9_here yX9_here ∈ gtb := tk0 (i := 34) rfl (by decide +kernel)
theorem q0_35 : Cond.selects RX9 yX9_readsWord yX9_readsWord ∈ gtb := tk0 (i := 35) rfl (by decide +kernel)
theorem q0_36 : Cond.selects RX9 yX9_number yX9_number ∈ gtb := tk0 (i := 36) rfl (by decide +kernel)
theorem q0_37 : Cond.selects RX9 yX9_takes yX9_takes ∈ gtb := tk0 (i := 37) rfl (by decide +kernel)
theorem q0_38 : Cond.selects RX9 yX9_readsLikeness yX9_readsLikeness ∈ gtb := tk0 (i := 38) rfl (by decide +kernel)
theorem q0_39 : Cond.selects RX9 yX9_readsBarred yX9_readsBarred ∈ gtb := tk0 (i := 39) rfl (by decide +kernel)
theorem q0_40 : Cond.selects RX9 yX9_readsHabits yX9_readsHabits ∈ gtb := tk0 (i := 40) rfl (by decide +kernel)
theorem q0_41 : Cond.selects RX9 yX9_readsCost yX9_readsCost ∈ gtb := tk0 (i := 41) rfl (by decide +kernel)
theorem q0_42 : Cond.selects RX9 yX9_readsActor yX9_readsActor ∈ gtb := tk0 (i := 42) rfl (by decide +kernel)
theorem q0_43 : Cond.selects RX9 yX9_isWord yX9_isWord ∈ gtb := tk0 (i := 43) rfl (by decide +kernel)
theorem q0_44 : Cond.selects RX9 yX9_likesOf yX9_likesOf ∈ gtb := tk0 (i := 44) rfl (by decide +kernel)
theorem q0_45 : Cond.selects RX9 yX9_isSign yX9_isSign ∈ gtb := tk0 (i := 45) rfl (by decide +kernel)
theorem q0_46 : Cond.selects RX9 yX9_signs yX9_signs ∈ gtb := tk0 (i := 46) rfl (by decide +kernel)
theorem q0_47 : Cond.selects RX9 yX9_isActor yX9_isActor ∈ gtb := tk0 (i := 47) rfl (by decide +kernel)
theorem q0_48 : Cond.selects RX9 yX9_weighActor yX9_weighActor ∈ gtb := tk0 (i := 48) rfl (by decide +kernel)
theorem q0_49 : Cond.selects RX9 yX9_weigh yX9_weigh ∈ gtb := tk0 (i := 49) rfl (by decide +kernel)
theorem q0_50 : Cond.selects RX9 yX9_times yX9_times ∈ gtb := tk0 (i := 50) rfl (by decide +kernel)
theorem q0_51 : Cond.selects RX9 yX9_byPart yX9_byPart ∈ gtb := tk0 (i := 51) rfl (by decide +kernel)
theorem q0_52 : Cond.selects RX9 yX9_byLikeness yX9_byLikeness ∈ gtb := tk0 (i := 52) rfl (by decide +kernel)
theorem q0_53 : Cond.selects RX9 yX9_sumOf yX9_sumOf ∈ gtb := tk0 (i := 53) rfl (by decide +kernel)
theorem q0_54 : Cond.selects RX9 yX9_lowest yX9_lowest ∈ gtb := tk0 (i := 54) rfl (by decide +kernel)
theorem q0_55 : Cond.selects RX9 yX9_waits yX9_waits ∈ gtb := tk0 (i := 55) rfl (by decide +kernel)
theorem q0_56 : Cond.selects RX9 yX9_nextAt yX9_nextAt ∈ gtb := tk0 (i := 56) rfl (by decide +kernel)
theorem q0_57 : Cond.selects RX9 yX9_greatest yX9_greatest ∈ gtb := tk0 (i := 57) rfl (by decide +kernel)
theorem q0_58 : Cond.selects RX9 yX9_remember yX9_remember ∈ gtb := tk0 (i := 58) rfl (by decide +kernel)
theorem q0_59 : Cond.selects RX9 yX9_shows yX9_shows ∈ gtb := tk0 (i := 59) rfl (by decide +kernel)
theorem q0_60 : Cond.selects RX9 yX9_guesses yX9_guesses ∈ gtb := tk0 (i := 60) rfl (by decide +kernel)
theorem q0_61 : Cond.selects RX9 yX9_isFresh yX9_isFresh ∈ gtb := tk0 (i := 61) rfl (by decide +kernel)
theorem q0_62 : Cond.selects RX9 yX9_fewestFor yX9_fewestFor ∈ gtb := tk0 (i := 62) rfl (by decide +kernel)
theorem q0_63 : Cond.selects RX9 yX9_firstRow yX9_firstRow ∈ gtb := tk0 (i := 63) rfl (by decide +kernel)
theorem q0_64 : Cond.selects RX9 yX9_wouldBe yX9_wouldBe ∈ gtb := tk0 (i := 64) rfl (by decide +kernel)
theorem q0_65 : Cond.selects RX9 yX9_nextRow yX9_nextRow ∈ gtb := tk0 (i := 65) rfl (by decide +kernel)
theorem q0_66 : Cond.selects RX9 yX9_freshOnes yX9_freshOnes ∈ gtb := tk0 (i := 66) rfl (by decide +kernel)
theorem q0_67 : Cond.selects RX9 yX9_deals yX9_deals ∈ gtb := tk0 (i := 67) rfl (by decide +kernel)
theorem q0_68 : Cond.selects RX9 yX9_firstOrder yX9_firstOrder ∈ gtb := tk0 (i := 68) rfl (by decide +kernel)
theorem q0_69 : Cond.selects RX9 yX9_nextOrder yX9_nextOrder ∈ gtb := tk0 (i := 69) rfl (by decide +kernel)
theorem q0_70 : Cond.selects RX9 yX9_waitingOnes yX9_waitingOnes ∈ gtb := tk0 (i := 70) rfl (by decide +kernel)
theorem q0_71 : Cond.selects RX9 yX9_queues yX9_queues ∈ gtb := tk0 (i := 71) rfl (by decide +kernel)
theorem q0_72 : Cond.selects RX9 yX9_areSo yX9_areSo ∈ gtb := tk0 (i := 72) rfl (by decide +kernel)
theorem q0_73 : Cond.selects RX9 yX9_shownInAll yX9_shownInAll ∈ gtb := tk0 (i := 73) rfl (by decide +kernel)
theorem inX0 : ∀ w ∈ u_ws RX0 TX0 10, w ∈ gtb := by
  intro w hw
  obtain ⟨k, hk, rfl⟩ := List.mem_map.mp hw
  have hk := List.mem_range.mp hk
  match k, hk with
  | 0, _ => exact q1_42
  | 1, _ => exact q1_44
  | 2, _ => exact q1_46
  | 3, _ => exact q1_48
  | 4, _ => exact q1_50
  | 5, _ => exact q1_52
  | 6, _ => exact q1_54
  | 7, _ => exact q1_56
  | 8, _ => exact q1_58
  | 9, _ => exact q1_60
  | k + 10, h => exact absurd h (by omega)
theorem inX1 : ∀ w ∈ u_ws RX1 TX1 6, w ∈ gtb := by
  intro w hw
  obtain ⟨k, hk, rfl⟩ := List.mem_map.mp hw
  have hk := List.mem_range.mp hk
  match k, hk with
  | 0, _ => exact q1_169
  | 1, _ => exact q1_171
  | 2, _ => exact q1_173
  | 3, _ => exact q1_175
  | 4, _ => exact q1_177
  | 5, _ => exact q1_179
  | k + 6, h => exact absurd h (by omega)
theorem inX2 : ∀ w ∈ u_ws RX2 TX2 3, w ∈ gtb := by
  intro w hw
  obtain ⟨k, hk, rfl⟩ := List.mem_map.mp hw
  have hk := List.mem_range.mp hk
  match k, hk with
  | 0, _ => exact q1_191
  | 1, _ => exact q1_193
  | 2, _ => exact q1_195
  | k + 3, h => exact absurd h (by omega)
theorem inX3 : ∀ w ∈ u_ws RX3 TX3 3, w ∈ gtb := by
  intro w hw
  obtain ⟨k, hk, rfl⟩ := List.mem_map.mp hw
  have hk := List.mem_range.mp hk
  match k, hk with
  | 0, _ => exact q1_116
  | 1, _ => exact q1_118
  | 2, _ => exact q1_120
  | k + 3, h => exact absurd h (by omega)
theorem inX4 : ∀ w ∈ u_ws RX4 TX4 1, w ∈ gtb := by
  intro w hw
  obtain ⟨k, hk, rfl⟩ := List.mem_map.mp hw
  have hk := List.mem_range.mp hk
  match k, hk with
  | 0, _ => exact q1_72
  | k + 1, h => exact absurd h (by omega)
theorem inX5 : ∀ w ∈ u_ws RX5 TX5 9, w ∈ gtb := by
  intro w hw
  obtain ⟨k, hk, rfl⟩ := List.mem_map.mp hw
  have hk := List.mem_range.mp hk
  match k, hk with
  | 0, _ => exact q1_138
  | 1, _ => exact q1_140
  | 2, _ => exact q1_142
  | 3, _ => exact q1_144
  | 4, _ => exact q1_146
  | 5, _ => exact q1_148
  | 6, _ => exact q1_150
  | 7, _ => exact q1_152
  | 8, _ => exact q1_154
  | k + 9, h => exact absurd h (by omega)
theorem inX6 : ∀ w ∈ u_ws RX6 TX6 3, w ∈ gtb := by
  intro w hw
  obtain ⟨k, hk, rfl⟩ := List.mem_map.mp hw
  have hk := List.mem_range.mp hk
  match k, hk with
  | 0, _ => exact q1_100
  | 1, _ => exact q1_102
  | 2, _ => exact q1_104
  | k + 3, h => exact absurd h (by omega)
theorem inX7 : ∀ w ∈ u_ws RX7 TX7 3, w ∈ gtb := by
  intro w hw
  obtain ⟨k, hk, rfl⟩ := List.mem_map.mp hw
  have hk := List.mem_range.mp hk
  match k, hk with
  | 0, _ => exact q1_84
  | 1, _ => exact q1_86
  | 2, _ => exact q1_88
  | k + 3, h => exact absurd h (by omega)
theorem inX8 : ∀ w ∈ u_ws RX8 TX8 13, w ∈ gtb := by
  intro w hw
  obtain ⟨k, hk, rfl⟩ := List.mem_map.mp hw
  have hk := List.mem_range.mp hk
  match k, hk with
  | 0, _ => exact q2_136
  | 1, _ => exact q2_138
  | 2, _ => exact q2_140
  | 3, _ => exact q2_142
  | 4, _ => exact q2_144
  | 5, _ => exact q2_146
  | 6, _ => exact q2_148
  | 7, _ => exact q2_150
  | 8, _ => exact q2_152
  | 9, _ => exact q2_154
  | 10, _ => exact q2_156
  | 11, _ => exact q2_158
  | 12, _ => exact q2_160
  | k + 13, h => exact absurd h (by omega)
theorem inX9 : ∀ w ∈ u_ws RX9 TX9 25, w ∈ gtb := by
  intro w hw
  obtain ⟨k, hk, rfl⟩ := List.mem_map.mp hw
  have hk := List.mem_range.mp hk
  match k, hk with
  | 0, _ => exact q4_140
  | 1, _ => exact q4_142
  | 2, _ => exact q4_144
  | 3, _ => exact q4_146
  | 4, _ => exact q4_148
  | 5, _ => exact q4_150
  | 6, _ => exact q4_152
  | 7, _ => exact q4_154
  | 8, _ => exact q4_156
  | 9, _ => exact q4_158
  | 10, _ => exact q4_160
  | 11, _ => exact q4_162
  | 12, _ => exact q4_164
  | 13, _ => exact q4_166
  | 14, _ => exact q4_168
  | 15, _ => exact q4_170
  | 16, _ => exact q4_172
  | 17, _ => exact q4_174
  | 18, _ => exact q4_176
  | 19, _ => exact q4_178
  | 20, _ => exact q4_180
  | 21, _ => exact q4_182
  | 22, _ => exact q4_184
  | 23, _ => exact q4_186
  | 24, _ => exact q4_188
  | k + 25, h => exact absurd h (by omega)
theorem fX0_9 : fk RX0 9 0 0 (.array .int) true := ⟨RX0, TX0, 10, tyX0, rfl, inX0, by decide, q1_32, tyX0_ok, nmX0, by decide +kernel, rfl, rfl⟩
theorem fX0_15 : fk RX0 15 0 1 (.array .int) true := ⟨RX0, TX0, 10, tyX0, rfl, inX0, by decide, q1_33, tyX0_ok, nmX0, by decide +kernel, rfl, rfl⟩
theorem fX0_18 : fk RX0 18 0 2 (.array .int) true := ⟨RX0, TX0, 10, tyX0, rfl, inX0, by decide, q1_34, tyX0_ok, nmX0, by decide +kernel, rfl, rfl⟩
theorem fX0_21 : fk RX0 21 0 3 (.array .int) true := ⟨RX0, TX0, 10, tyX0, rfl, inX0, by decide, q1_35, tyX0_ok, nmX0, by decide +kernel, rfl, rfl⟩
theorem fX0_24 : fk RX0 24 0 4 .int false := ⟨RX0, TX0, 10, tyX0, rfl, inX0, by decide, q1_36, tyX0_ok, nmX0, by decide +kernel, rfl, rfl⟩
theorem fX0_28 : fk RX0 28 0 5 .int false := ⟨RX0, TX0, 10, tyX0, rfl, inX0, by decide, q1_37, tyX0_ok, nmX0, by decide +kernel, rfl, rfl⟩
theorem fX0_31 : fk RX0 31 0 6 .int false := ⟨RX0, TX0, 10, tyX0, rfl, inX0, by decide, q1_38, tyX0_ok, nmX0, by decide +kernel, rfl, rfl⟩
theorem fX0_34 : fk RX0 34 0 7 .int false := ⟨RX0, TX0, 10, tyX0, rfl, inX0, by decide, q1_39, tyX0_ok, nmX0, by decide +kernel, rfl, rfl⟩
theorem fX0_37 : fk RX0 37 0 8 .int false := ⟨RX0, TX0, 10, tyX0, rfl, inX0, by decide, q1_40, tyX0_ok, nmX0, by decide +kernel, rfl, rfl⟩
theorem fX0_40 : fk RX0 40 0 9 .int false := ⟨RX0, TX0, 10, tyX0, rfl, inX0, by decide, q1_41, tyX0_ok, nmX0, by decide +kernel, rfl, rfl⟩
theorem fX4_9 : fk RX4 9 4 0 (.array .int) true := ⟨RX4, TX4, 1, tyX4, rfl, inX4, by decide, q1_70, tyX4_ok, nmX4, by decide +kernel, rfl, rfl⟩
theorem fX7_15 : fk RX7 15 7 0 (.array .int) true := ⟨RX7, TX7, 3, tyX7, rfl, inX7, by decide, q1_81, tyX7_ok, nmX7, by decide +kernel, rfl, rfl⟩
theorem fX7_9 : fk RX7 9 7 1 .int true := ⟨RX7, TX7, 3, tyX7, rfl, inX7, by decide, q1_82, tyX7_ok, nmX7, by decide +kernel, rfl, rfl⟩
theorem fX7_19 : fk RX7 19 7 2 .int false := ⟨RX7, TX7, 3, tyX7, rfl, inX7, by decide, q1_83, tyX7_ok, nmX7, by decide +kernel, rfl, rfl⟩
theorem fX6_9 : fk RX6 9 6 0 (.array .int) true := ⟨RX6, TX6, 3, tyX6, rfl, inX6, by decide, q1_97, tyX6_ok, nmX6, by decide +kernel, rfl, rfl⟩
theorem fX6_15 : fk RX6 15 6 1 (.array .int) true := ⟨RX6, TX6, 3, tyX6, rfl, inX6, by decide, q1_98, tyX6_ok, nmX6, by decide +kernel, rfl, rfl⟩
theorem fX6_18 : fk RX6 18 6 2 .int false := ⟨RX6, TX6, 3, tyX6, rfl, inX6, by decide, q1_99, tyX6_ok, nmX6, by decide +kernel, rfl, rfl⟩
theorem fX3_9 : fk RX3 9 3 0 (.array .int) false := ⟨RX3, TX3, 3, tyX3, rfl, inX3, by decide, q1_113, tyX3_ok, nmX3, by decide +kernel, rfl, rfl⟩
theorem fX3_21 : fk RX3 21 3 1 .int false := ⟨RX3, TX3, 3, tyX3, rfl, inX3, by decide, q1_114, tyX3_ok, nmX3, by decide +kernel, rfl, rfl⟩
theorem fX3_25 : fk RX3 25 3 2 .int false := ⟨RX3, TX3, 3, tyX3, rfl, inX3, by decide, q1_115, tyX3_ok, nmX3, by decide +kernel, rfl, rfl⟩
theorem fX5_9 : fk RX5 9 5 0 (.array .int) true := ⟨RX5, TX5, 9, tyX5, rfl, inX5, by decide, q1_129, tyX5_ok, nmX5, by decide +kernel, rfl, rfl⟩
theorem fX5_15 : fk RX5 15 5 1 (.array .int) true := ⟨RX5, TX5, 9, tyX5, rfl, inX5, by decide, q1_130, tyX5_ok, nmX5, by decide +kernel, rfl, rfl⟩
theorem fX5_18 : fk RX5 18 5 2 (.array .int) true := ⟨RX5, TX5, 9, tyX5, rfl, inX5, by decide, q1_131, tyX5_ok, nmX5, by decide +kernel, rfl, rfl⟩
theorem fX5_21 : fk RX5 21 5 3 (.array .int) true := ⟨RX5, TX5, 9, tyX5, rfl, inX5, by decide, q1_132, tyX5_ok, nmX5, by decide +kernel, rfl, rfl⟩
theorem fX5_24 : fk RX5 24 5 4 (.array .int) true := ⟨RX5, TX5, 9, tyX5, rfl, inX5, by decide, q1_133, tyX5_ok, nmX5, by decide +kernel, rfl, rfl⟩
theorem fX5_27 : fk RX5 27 5 5 (.array .int) true := ⟨RX5, TX5, 9, tyX5, rfl, inX5, by decide, q1_134, tyX5_ok, nmX5, by decide +kernel, rfl, rfl⟩
theorem fX5_56 : fk RX5 56 5 6 .int false := ⟨RX5, TX5, 9, tyX5, rfl, inX5, by decide, q1_135, tyX5_ok, nmX5, by decide +kernel, rfl, rfl⟩
theorem fX5_79 : fk RX5 79 5 7 .int false := ⟨RX5, TX5, 9, tyX5, rfl, inX5, by decide, q1_136, tyX5_ok, nmX5, by decide +kernel, rfl, rfl⟩
theorem fX5_69 : fk RX5 69 5 8 .int false := ⟨RX5, TX5, 9, tyX5, rfl, inX5, by decide, q1_137, tyX5_ok, nmX5, by decide +kernel, rfl, rfl⟩
theorem fX1_9 : fk RX1 9 1 0 (.array .int) true := ⟨RX1, TX1, 6, tyX1, rfl, inX1, by decide, q1_163, tyX1_ok, nmX1, by decide +kernel, rfl, rfl⟩
theorem fX1_15 : fk RX1 15 1 1 (.array .int) true := ⟨RX1, TX1, 6, tyX1, rfl, inX1, by decide, q1_164, tyX1_ok, nmX1, by decide +kernel, rfl, rfl⟩
theorem fX1_18 : fk RX1 18 1 2 (.array .int) true := ⟨RX1, TX1, 6, tyX1, rfl, inX1, by decide, q1_165, tyX1_ok, nmX1, by decide +kernel, rfl, rfl⟩
theorem fX1_21 : fk RX1 21 1 3 (.array .int) true := ⟨RX1, TX1, 6, tyX1, rfl, inX1, by decide, q1_166, tyX1_ok, nmX1, by decide +kernel, rfl, rfl⟩
theorem fX1_24 : fk RX1 24 1 4 (.array .int) true := ⟨RX1, TX1, 6, tyX1, rfl, inX1, by decide, q1_167, tyX1_ok, nmX1, by decide +kernel, rfl, rfl⟩
theorem fX1_27 : fk RX1 27 1 5 .int false := ⟨RX1, TX1, 6, tyX1, rfl, inX1, by decide, q1_168, tyX1_ok, nmX1, by decide +kernel, rfl, rfl⟩
theorem fX2_9 : fk RX2 9 2 0 (.array .int) true := ⟨RX2, TX2, 3, tyX2, rfl, inX2, by decide, q1_188, tyX2_ok, nmX2, by decide +kernel, rfl, rfl⟩
theorem fX2_15 : fk RX2 15 2 1 (.array .int) true := ⟨RX2, TX2, 3, tyX2, rfl, inX2, by decide, q1_189, tyX2_ok, nmX2, by decide +kernel, rfl, rfl⟩
theorem fX2_18 : fk RX2 18 2 2 .int false := ⟨RX2, TX2, 3, tyX2, rfl, inX2, by decide, q1_190, tyX2_ok, nmX2, by decide +kernel, rfl, rfl⟩
theorem fX8_9 : fk RX8 9 8 0 (.array .int) true := ⟨RX8, TX8, 13, tyX8, rfl, inX8, by decide, q2_123, tyX8_ok, nmX8, by decide +kernel, rfl, rfl⟩
theorem fX8_98 : fk RX8 98 8 1 .int false := ⟨RX8, TX8, 13, tyX8, rfl, inX8, by decide, q2_124, tyX8_ok, nmX8, by decide +kernel, rfl, rfl⟩
theorem fX8_16 : fk RX8 16 8 2 (.object "CharadePost$Board") false := ⟨RX8, TX8, 13, tyX8, rfl, inX8, by decide, q2_125, tyX8_ok, nmX8, by decide +kernel, rfl, rfl⟩
theorem fX8_20 : fk RX8 20 8 3 (.object "CharadePost$Board") false := ⟨RX8, TX8, 13, tyX8, rfl, inX8, by decide, q2_126, tyX8_ok, nmX8, by decide +kernel, rfl, rfl⟩
theorem fX8_26 : fk RX8 26 8 4 (.object "CharadePost$Scene") true := ⟨RX8, TX8, 13, tyX8, rfl, inX8, by decide, q2_127, tyX8_ok, nmX8, by decide +kernel, rfl, rfl⟩
theorem fX8_30 : fk RX8 30 8 5 (.object "CharadePost$Scene") true := ⟨RX8, TX8, 13, tyX8, rfl, inX8, by decide, q2_128, tyX8_ok, nmX8, by decide +kernel, rfl, rfl⟩
theorem fX8_38 : fk RX8 38 8 6 (.object "CharadePost$Shelf") true := ⟨RX8, TX8, 13, tyX8, rfl, inX8, by decide, q2_129, tyX8_ok, nmX8, by decide +kernel, rfl, rfl⟩
theorem fX8_42 : fk RX8 42 8 7 (.object "CharadePost$Shelf") true := ⟨RX8, TX8, 13, tyX8, rfl, inX8, by decide, q2_130, tyX8_ok, nmX8, by decide +kernel, rfl, rfl⟩
theorem fX8_48 : fk RX8 48 8 8 (.object "CharadePost$Seen") true := ⟨RX8, TX8, 13, tyX8, rfl, inX8, by decide, q2_131, tyX8_ok, nmX8, by decide +kernel, rfl, rfl⟩
theorem fX8_55 : fk RX8 55 8 9 (.object "CharadePost$Reader") true := ⟨RX8, TX8, 13, tyX8, rfl, inX8, by decide, q2_132, tyX8_ok, nmX8, by decide +kernel, rfl, rfl⟩
theorem fX8_62 : fk RX8 62 8 10 (.object "CharadePost$Search") true := ⟨RX8, TX8, 13, tyX8, rfl, inX8, by decide, q2_133, tyX8_ok, nmX8, by decide +kernel, rfl, rfl⟩
theorem fX8_69 : fk RX8 69 8 11 (.object "CharadePost$Deal") true := ⟨RX8, TX8, 13, tyX8, rfl, inX8, by decide, q2_134, tyX8_ok, nmX8, by decide +kernel, rfl, rfl⟩
theorem fX8_76 : fk RX8 76 8 12 (.object "CharadePost$Line") true := ⟨RX8, TX8, 13, tyX8, rfl, inX8, by decide, q2_135, tyX8_ok, nmX8, by decide +kernel, rfl, rfl⟩
theorem fX9_7 : fk RX9 7 9 0 (.array .int) true := ⟨RX9, TX9, 25, tyX9, rfl, inX9, by decide, q4_115, tyX9_ok, nmX9, by decide +kernel, rfl, rfl⟩
theorem fX9_13 : fk RX9 13 9 1 (.array .int) true := ⟨RX9, TX9, 25, tyX9, rfl, inX9, by decide, q4_116, tyX9_ok, nmX9, by decide +kernel, rfl, rfl⟩
theorem fX9_16 : fk RX9 16 9 2 (.array .int) true := ⟨RX9, TX9, 25, tyX9, rfl, inX9, by decide, q4_117, tyX9_ok, nmX9, by decide +kernel, rfl, rfl⟩
theorem fX9_19 : fk RX9 19 9 3 (.array .int) true := ⟨RX9, TX9, 25, tyX9, rfl, inX9, by decide, q4_118, tyX9_ok, nmX9, by decide +kernel, rfl, rfl⟩
theorem fX9_22 : fk RX9 22 9 4 (.array .int) true := ⟨RX9, TX9, 25, tyX9, rfl, inX9, by decide, q4_119, tyX9_ok, nmX9, by decide +kernel, rfl, rfl⟩
theorem fX9_68 : fk RX9 68 9 5 .int false := ⟨RX9, TX9, 25, tyX9, rfl, inX9, by decide, q4_120, tyX9_ok, nmX9, by decide +kernel, rfl, rfl⟩
theorem fX9_25 : fk RX9 25 9 6 (.array .int) true := ⟨RX9, TX9, 25, tyX9, rfl, inX9, by decide, q4_121, tyX9_ok, nmX9, by decide +kernel, rfl, rfl⟩
theorem fX9_72 : fk RX9 72 9 7 .int false := ⟨RX9, TX9, 25, tyX9, rfl, inX9, by decide, q4_122, tyX9_ok, nmX9, by decide +kernel, rfl, rfl⟩
theorem fX9_28 : fk RX9 28 9 8 (.array .int) true := ⟨RX9, TX9, 25, tyX9, rfl, inX9, by decide, q4_123, tyX9_ok, nmX9, by decide +kernel, rfl, rfl⟩
theorem fX9_75 : fk RX9 75 9 9 .int false := ⟨RX9, TX9, 25, tyX9, rfl, inX9, by decide, q4_124, tyX9_ok, nmX9, by decide +kernel, rfl, rfl⟩
theorem fX9_31 : fk RX9 31 9 10 (.array .int) true := ⟨RX9, TX9, 25, tyX9, rfl, inX9, by decide, q4_125, tyX9_ok, nmX9, by decide +kernel, rfl, rfl⟩
theorem fX9_86 : fk RX9 86 9 11 .int false := ⟨RX9, TX9, 25, tyX9, rfl, inX9, by decide, q4_126, tyX9_ok, nmX9, by decide +kernel, rfl, rfl⟩
theorem fX9_89 : fk RX9 89 9 12 .int false := ⟨RX9, TX9, 25, tyX9, rfl, inX9, by decide, q4_127, tyX9_ok, nmX9, by decide +kernel, rfl, rfl⟩
theorem fX9_104 : fk RX9 104 9 13 .int false := ⟨RX9, TX9, 25, tyX9, rfl, inX9, by decide, q4_128, tyX9_ok, nmX9, by decide +kernel, rfl, rfl⟩
theorem fX9_34 : fk RX9 34 9 14 (.array .int) true := ⟨RX9, TX9, 25, tyX9, rfl, inX9, by decide, q4_129, tyX9_ok, nmX9, by decide +kernel, rfl, rfl⟩
theorem fX9_37 : fk RX9 37 9 15 (.array .int) true := ⟨RX9, TX9, 25, tyX9, rfl, inX9, by decide, q4_130, tyX9_ok, nmX9, by decide +kernel, rfl, rfl⟩
theorem fX9_191 : fk RX9 191 9 16 .long false := ⟨RX9, TX9, 25, tyX9, rfl, inX9, by decide, q4_131, tyX9_ok, nmX9, by decide +kernel, rfl, rfl⟩
theorem fX9_195 : fk RX9 195 9 17 .long false := ⟨RX9, TX9, 25, tyX9, rfl, inX9, by decide, q4_132, tyX9_ok, nmX9, by decide +kernel, rfl, rfl⟩
theorem fX9_224 : fk RX9 224 9 18 .int false := ⟨RX9, TX9, 25, tyX9, rfl, inX9, by decide, q4_133, tyX9_ok, nmX9, by decide +kernel, rfl, rfl⟩
theorem fX9_40 : fk RX9 40 9 19 (.array .int) true := ⟨RX9, TX9, 25, tyX9, rfl, inX9, by decide, q4_134, tyX9_ok, nmX9, by decide +kernel, rfl, rfl⟩
theorem fX9_43 : fk RX9 43 9 20 (.array .int) true := ⟨RX9, TX9, 25, tyX9, rfl, inX9, by decide, q4_135, tyX9_ok, nmX9, by decide +kernel, rfl, rfl⟩
theorem fX9_46 : fk RX9 46 9 21 (.array .int) true := ⟨RX9, TX9, 25, tyX9, rfl, inX9, by decide, q4_136, tyX9_ok, nmX9, by decide +kernel, rfl, rfl⟩
theorem fX9_49 : fk RX9 49 9 22 (.array .int) true := ⟨RX9, TX9, 25, tyX9, rfl, inX9, by decide, q4_137, tyX9_ok, nmX9, by decide +kernel, rfl, rfl⟩
theorem fX9_52 : fk RX9 52 9 23 (.array .int) true := ⟨RX9, TX9, 25, tyX9, rfl, inX9, by decide, q4_138, tyX9_ok, nmX9, by decide +kernel, rfl, rfl⟩
theorem fX9_55 : fk RX9 55 9 24 (.array .int) true := ⟨RX9, TX9, 25, tyX9, rfl, inX9, by decide, q4_139, tyX9_ok, nmX9, by decide +kernel, rfl, rfl⟩
theorem mX8_82 : vk RX8 82 RJ0 yJ0_length_8abf5 0 := ⟨q1_199, q1_200, q1_201, q1_10, rfl, by decide +kernel, by decide +kernel, by decide +kernel⟩
theorem mJ0_335 : vk RJ0 335 RJ0 yJ0_coder_7d493 0 := ⟨q1_203, q1_204, q1_205, q1_10, rfl, by decide +kernel, by decide +kernel, by decide +kernel⟩
theorem mX8_88 : vk RX8 88 RJ0 yJ0_charAt_5068e 1 := ⟨q1_209, q1_210, q1_211, q1_10, rfl, by decide +kernel, by decide +kernel, by decide +kernel⟩
theorem mJ0_492 : vk RJ0 492 RJ0 yJ0_isLatin1_aae02 0 := ⟨q1_213, q1_214, q1_215, q1_10, rfl, by decide +kernel, by decide +kernel, by decide +kernel⟩
theorem mJ0_495 : sk RJ0 495 yJ1_charAt_3b067 2 := ⟨q1_217, q1_218, q1_11, by decide +kernel, by decide +kernel, by decide +kernel⟩
theorem mJ1_9 : sk RJ1 9 yJ0_checkIndex_df160 2 := ⟨q1_220, q1_221, q1_10, by decide +kernel, by decide +kernel, by decide +kernel⟩
theorem mJ0_1059 : sk RJ0 1059 yJ3_checkIndex_8e157 3 := ⟨q1_225, q1_226, q1_12, by decide +kernel, by decide +kernel, by decide +kernel⟩
theorem mJ0_498 : sk RJ0 498 yJ2_charAt_3b067 2 := ⟨q1_228, q1_229, q1_13, by decide +kernel, by decide +kernel, by decide +kernel⟩
theorem mJ2_67 : sk RJ2 67 yJ2_checkIndex_2214a 2 := ⟨q1_231, q1_232, q1_13, by decide +kernel, by decide +kernel, by decide +kernel⟩
theorem mJ2_48 : sk RJ2 48 yJ2_length_9d52b 1 := ⟨q1_234, q1_235, q1_13, by decide +kernel, by decide +kernel, by decide +kernel⟩
theorem mJ2_414 : sk RJ2 414 yJ0_checkIndex_df160 2 := ⟨q1_237, q1_221, q1_10, by decide +kernel, by decide +kernel, by decide +kernel⟩
theorem mJ2_71 : sk RJ2 71 yJ2_getChar_3b067 2 := ⟨q1_238, q1_239, q1_13, by decide +kernel, by decide +kernel, by decide +kernel⟩
theorem mX8_92 : sk RX8 92 yJ9_min_7cf53 2 := ⟨q2_7, q2_8, q1_14, by decide +kernel, by decide +kernel, by decide +kernel⟩
theorem mX8_101 : vk RX8 101 RX8 yX8_lay 0 := ⟨q2_10, q2_11, q2_12, q1_1, rfl, by decide +kernel, by decide +kernel, by decide +kernel⟩
theorem mX8_104 : vk RX8 104 RX3 yX3_firstFault 4 := ⟨q2_14, q2_15, q2_16, q1_6, rfl, by decide +kernel, by decide +kernel, by decide +kernel⟩
theorem mX3_15 : sk RX3 15 yJ9_min_7cf53 2 := ⟨q2_18, q2_8, q1_14, by decide +kernel, by decide +kernel, by decide +kernel⟩
theorem mX3_28 : vk RX3 28 RX0 yX0_clear 0 := ⟨q2_19, q2_20, q2_21, q1_2, rfl, by decide +kernel, by decide +kernel, by decide +kernel⟩
theorem mX3_33 : vk RX3 33 RX3 yX3_readItem 2 := ⟨q2_23, q2_25, q0_0, q1_6, rfl, by decide +kernel, by decide +kernel, by decide +kernel⟩
theorem mX3_37 : vk RX3 37 RX3 yX3_peek 0 := ⟨q2_27, q2_29, q0_1, q1_6, rfl, by decide +kernel, by decide +kernel, by decide +kernel⟩
theorem mX3_41 : vk RX3 41 RX3 yX3_readWord 1 := ⟨q2_31, q2_33, q0_2, q1_6, rfl, by decide +kernel, by decide +kernel, by decide +kernel⟩
theorem mX3_60 : vk RX3 60 RX3 yX3_number 2 := ⟨q2_35, q2_37, q0_3, q1_6, rfl, by decide +kernel, by decide +kernel, by decide +kernel⟩
theorem mX3_100 : sk RX3 100 yX3_isFigure 1 := ⟨q2_39, q2_40, q1_6, by decide +kernel, by decide +kernel, by decide +kernel⟩
theorem mX3_63 : vk RX3 63 RX3 yX3_passes 1 := ⟨q2_42, q2_44, q0_4, q1_6, rfl, by decide +kernel, by decide +kernel, by decide +kernel⟩
theorem mX3_67 : vk RX3 67 RX0 yX0_addWord 3 := ⟨q2_46, q2_47, q2_48, q1_2, rfl, by decide +kernel, by decide +kernel, by decide +kernel⟩
theorem mX3_45 : vk RX3 45 RX3 yX3_readLikeness 1 := ⟨q2_50, q2_52, q0_5, q1_6, rfl, by decide +kernel, by decide +kernel, by decide +kernel⟩
theorem mX3_71 : vk RX3 71 RX0 yX0_words 0 := ⟨q2_54, q2_55, q2_56, q1_2, rfl, by decide +kernel, by decide +kernel, by decide +kernel⟩
theorem mX3_74 : vk RX3 74 RX0 yX0_addLikeness 1 := ⟨q2_58, q2_59, q2_60, q1_2, rfl, by decide +kernel, by decide +kernel, by decide +kernel⟩
theorem mX3_48 : vk RX3 48 RX3 yX3_readForbidden 1 := ⟨q2_62, q2_64, q0_6, q1_6, rfl, by decide +kernel, by decide +kernel, by decide +kernel⟩
theorem mX3_77 : vk RX3 77 RX0 yX0_forbid 1 := ⟨q2_66, q2_67, q2_68, q1_2, rfl, by decide +kernel, by decide +kernel, by decide +kernel⟩
theorem mX3_51 : vk RX3 51 RX3 yX3_readHabit 1 := ⟨q2_70, q2_72, q0_7, q1_6, rfl, by decide +kernel, by decide +kernel, by decide +kernel⟩
theorem mX3_81 : vk RX3 81 RX0 yX0_setHabit 1 := ⟨q2_74, q2_75, q2_76, q1_2, rfl, by decide +kernel, by decide +kernel, by decide +kernel⟩
theorem mX3_54 : vk RX3 54 RX3 yX3_readPrice 1 := ⟨q2_78, q2_80, q0_8, q1_6, rfl, by decide +kernel, by decide +kernel, by decide +kernel⟩
theorem mX3_84 : vk RX3 84 RX0 yX0_setPrice 1 := ⟨q2_82, q2_83, q2_84, q1_2, rfl, by decide +kernel, by decide +kernel, by decide +kernel⟩
theorem mX3_57 : vk RX3 57 RX3 yX3_readActor 2 := ⟨q2_86, q2_88, q0_9, q1_6, rfl, by decide +kernel, by decide +kernel, by decide +kernel⟩
theorem mX3_87 : vk RX3 87 RX0 yX0_addActor 0 := ⟨q2_90, q2_91, q2_92, q1_2, rfl, by decide +kernel, by decide +kernel, by decide +kernel⟩
theorem mX3_91 : vk RX3 91 RX0 yX0_actors 0 := ⟨q2_94, q2_95, q2_96, q1_2, rfl, by decide +kernel, by decide +kernel, by decide +kernel⟩
theorem mX3_94 : vk RX3 94 RX4 yX4_start 4 := ⟨q2_98, q2_99, q2_100, q1_3, rfl, by decide +kernel, by decide +kernel, by decide +kernel⟩
theorem mX4_15 : vk RX4 15 RX4 yX4_set 3 := ⟨q2_102, q2_103, q2_104, q1_3, rfl, by decide +kernel, by decide +kernel, by decide +kernel⟩
theorem mX8_108 : vk RX8 108 RX0 yX0_words 0 := ⟨q2_106, q2_55, q2_56, q1_2, rfl, by decide +kernel, by decide +kernel, by decide +kernel⟩
theorem mX8_111 : vk RX8 111 RX0 yX0_actors 0 := ⟨q2_107, q2_95, q2_96, q1_2, rfl, by decide +kernel, by decide +kernel, by decide +kernel⟩
theorem mX8_114 : vk RX8 114 RX4 yX4_copyFrom 1 := ⟨q2_108, q2_109, q2_110, q1_3, rfl, by decide +kernel, by decide +kernel, by decide +kernel⟩
theorem mX8_118 : vk RX8 118 RX7 yX7_clear 0 := ⟨q2_115, q2_116, q2_117, q1_4, rfl, by decide +kernel, by decide +kernel, by decide +kernel⟩
theorem mX8_121 : vk RX8 121 RX6 yX6_clear 0 := ⟨q2_119, q2_120, q2_121, q1_5, rfl, by decide +kernel, by decide +kernel, by decide +kernel⟩
theorem mL_13 : vk RL 13 RX8 yX8_write 1 := ⟨q2_164, q2_165, q2_166, q1_1, rfl, by decide +kernel, by decide +kernel, by decide +kernel⟩
theorem mL_18 : vk RL 18 RX8 yX8_wipe 0 := ⟨q2_168, q2_169, q2_170, q1_1, rfl, by decide +kernel, by decide +kernel, by decide +kernel⟩
theorem mL_23 : vk RL 23 RX8 yX8_fault 0 := ⟨q2_172, q2_173, q2_174, q1_1, rfl, by decide +kernel, by decide +kernel, by decide +kernel⟩
theorem mL_27 : vk RL 27 RX8 yX8_lay 0 := ⟨q2_176, q2_11, q2_12, q1_1, rfl, by decide +kernel, by decide +kernel, by decide +kernel⟩
theorem mL_31 : vk RL 31 RX8 yX8_word 2 := ⟨q2_177, q2_178, q2_179, q1_1, rfl, by decide +kernel, by decide +kernel, by decide +kernel⟩
theorem mX8_123 : vk RX8 123 RX8 yX8_isWord 1 := ⟨q2_181, q2_183, q0_10, q1_1, rfl, by decide +kernel, by decide +kernel, by decide +kernel⟩
theorem mX8_127 : vk RX8 127 RX0 yX0_commonOf 1 := ⟨q2_185, q2_186, q2_187, q1_2, rfl, by decide +kernel, by decide +kernel, by decide +kernel⟩
theorem mX8_131 : vk RX8 131 RX0 yX0_lengthOf 1 := ⟨q2_189, q2_190, q2_191, q1_2, rfl, by decide +kernel, by decide +kernel, by decide +kernel⟩
theorem mX8_134 : vk RX8 134 RX0 yX0_partsOf 1 := ⟨q2_193, q2_194, q2_195, q1_2, rfl, by decide +kernel, by decide +kernel, by decide +kernel⟩
theorem mX8_137 : vk RX8 137 RX0 yX0_likenessesOf 1 := ⟨q2_197, q2_198, q2_199, q1_2, rfl, by decide +kernel, by decide +kernel, by decide +kernel⟩
theorem mX0_43 : vk RX0 43 RX0 yX0_isIn 2 := ⟨q2_201, q2_203, q0_11, q1_2, rfl, by decide +kernel, by decide +kernel, by decide +kernel⟩
theorem mL_36 : vk RL 36 RX8 yX8_forbidden 1 := ⟨q2_205, q2_206, q2_207, q1_1, rfl, by decide +kernel, by decide +kernel, by decide +kernel⟩
theorem mX8_140 : vk RX8 140 RX8 yX8_isSign 1 := ⟨q2_209, q2_211, q0_12, q1_1, rfl, by decide +kernel, by decide +kernel, by decide +kernel⟩
theorem mX8_245 : vk RX8 245 RX0 yX0_signs 0 := ⟨q2_213, q2_214, q2_215, q1_2, rfl, by decide +kernel, by decide +kernel, by decide +kernel⟩
theorem mX8_143 : vk RX8 143 RX0 yX0_isForbidden 1 := ⟨q2_217, q2_218, q2_219, q1_2, rfl, by decide +kernel, by decide +kernel, by decide +kernel⟩
theorem mL_40 : vk RL 40 RX8 yX8_actor 2 := ⟨q2_221, q2_222, q2_223, q1_1, rfl, by decide +kernel, by decide +kernel, by decide +kernel⟩
theorem mX8_146 : vk RX8 146 RX8 yX8_isActor 1 := ⟨q2_225, q2_227, q0_13, q1_1, rfl, by decide +kernel, by decide +kernel, by decide +kernel⟩
theorem mX8_149 : vk RX8 149 RX4 yX4_cell 2 := ⟨q2_229, q2_230, q2_231, q1_3, rfl, by decide +kernel, by decide +kernel, by decide +kernel⟩
theorem mL_44 : vk RL 44 RX8 yX8_shown 2 := ⟨q2_233, q2_234, q2_235, q1_1, rfl, by decide +kernel, by decide +kernel, by decide +kernel⟩
theorem mX8_152 : vk RX8 152 RX4 yX4_sign 2 := ⟨q2_237, q2_238, q2_239, q1_3, rfl, by decide +kernel, by decide +kernel, by decide +kernel⟩
theorem mX4_25 : vk RX4 25 RX4 yX4_cell 2 := ⟨q3_1, q2_230, q2_231, q1_3, rfl, by decide +kernel, by decide +kernel, by decide +kernel⟩
theorem mL_48 : vk RL 48 RX8 yX8_show 2 := ⟨q3_2, q3_3, q3_4, q1_1, rfl, by decide +kernel, by decide +kernel, by decide +kernel⟩
theorem mX8_155 : vk RX8 155 RX4 yX4_canShow 1 := ⟨q3_6, q3_7, q3_8, q1_3, rfl, by decide +kernel, by decide +kernel, by decide +kernel⟩
theorem mX4_29 : vk RX4 29 RX4 yX4_waits 1 := ⟨q3_10, q3_11, q3_12, q1_3, rfl, by decide +kernel, by decide +kernel, by decide +kernel⟩
theorem mX8_158 : vk RX8 158 RX7 yX7_put 1 := ⟨q3_14, q3_15, q3_16, q1_4, rfl, by decide +kernel, by decide +kernel, by decide +kernel⟩
theorem mX8_161 : vk RX8 161 RX8 yX8_showSign 3 := ⟨q3_19, q3_21, q0_14, q1_1, rfl, by decide +kernel, by decide +kernel, by decide +kernel⟩
theorem mX8_175 : vk RX8 175 RX4 yX4_set 3 := ⟨q3_23, q2_103, q2_104, q1_3, rfl, by decide +kernel, by decide +kernel, by decide +kernel⟩
theorem mX8_284 : vk RX8 284 RX4 yX4_addSign 2 := ⟨q3_24, q3_25, q3_26, q1_3, rfl, by decide +kernel, by decide +kernel, by decide +kernel⟩
theorem mL_52 : vk RL 52 RX8 yX8_guess 1 := ⟨q3_28, q3_29, q3_30, q1_1, rfl, by decide +kernel, by decide +kernel, by decide +kernel⟩
theorem mX8_165 : vk RX8 165 RX4 yX4_waits 1 := ⟨q3_32, q3_11, q3_12, q1_3, rfl, by decide +kernel, by decide +kernel, by decide +kernel⟩
theorem mX8_168 : vk RX8 168 RX8 yX8_guessWord 2 := ⟨q3_33, q3_35, q0_15, q1_1, rfl, by decide +kernel, by decide +kernel, by decide +kernel⟩
theorem mX8_186 : vk RX8 186 RX0 yX0_habit 0 := ⟨q3_37, q3_38, q3_39, q1_2, rfl, by decide +kernel, by decide +kernel, by decide +kernel⟩
theorem mX8_193 : vk RX8 193 RX0 yX0_heaviest 4 := ⟨q3_41, q3_42, q3_43, q1_2, rfl, by decide +kernel, by decide +kernel, by decide +kernel⟩
theorem mX0_73 : vk RX0 73 RX0 yX0_weightOf 5 := ⟨q3_45, q3_46, q3_47, q1_2, rfl, by decide +kernel, by decide +kernel, by decide +kernel⟩
theorem mX0_58 : vk RX0 58 RX4 yX4_cell 2 := ⟨q3_49, q2_230, q2_231, q1_3, rfl, by decide +kernel, by decide +kernel, by decide +kernel⟩
theorem mX0_63 : vk RX0 63 RX0 yX0_commonOf 1 := ⟨q3_50, q2_186, q2_187, q1_2, rfl, by decide +kernel, by decide +kernel, by decide +kernel⟩
theorem mX0_66 : vk RX0 66 RX4 yX4_sign 2 := ⟨q3_51, q2_238, q2_239, q1_3, rfl, by decide +kernel, by decide +kernel, by decide +kernel⟩
theorem mX0_69 : vk RX0 69 RX0 yX0_factor 4 := ⟨q3_52, q3_53, q3_54, q1_2, rfl, by decide +kernel, by decide +kernel, by decide +kernel⟩
theorem mX0_47 : vk RX0 47 RX0 yX0_partsOf 1 := ⟨q3_56, q2_194, q2_195, q1_2, rfl, by decide +kernel, by decide +kernel, by decide +kernel⟩
theorem mX0_51 : sk RX0 51 yX0_byKind 2 := ⟨q3_57, q3_58, q1_2, by decide +kernel, by decide +kernel, by decide +kernel⟩
theorem mX0_55 : vk RX0 55 RX0 yX0_lengthOf 1 := ⟨q3_60, q2_190, q2_191, q1_2, rfl, by decide +kernel, by decide +kernel, by decide +kernel⟩
theorem mX8_287 : vk RX8 287 RX4 yX4_addWrongGuess 2 := ⟨q3_61, q3_62, q3_63, q1_3, rfl, by decide +kernel, by decide +kernel, by decide +kernel⟩
theorem mX4_33 : sk RX4 33 yJ6_bitCount_0f7a4 1 := ⟨q3_65, q3_66, q1_17, by decide +kernel, by decide +kernel, by decide +kernel⟩
theorem mX8_252 : vk RX8 252 RX0 yX0_price 0 := ⟨q3_71, q3_72, q3_73, q1_2, rfl, by decide +kernel, by decide +kernel, by decide +kernel⟩
theorem mX8_255 : vk RX8 255 RX4 yX4_canPay 3 := ⟨q3_75, q3_76, q3_77, q1_3, rfl, by decide +kernel, by decide +kernel, by decide +kernel⟩
theorem mX8_290 : vk RX8 290 RX4 yX4_payAndPass 2 := ⟨q3_79, q3_80, q3_81, q1_3, rfl, by decide +kernel, by decide +kernel, by decide +kernel⟩
theorem mL_56 : vk RL 56 RX8 yX8_change 2 := ⟨q3_83, q3_84, q3_85, q1_1, rfl, by decide +kernel, by decide +kernel, by decide +kernel⟩
theorem mX8_172 : vk RX8 172 RX4 yX4_isFresh 1 := ⟨q3_87, q3_88, q3_89, q1_3, rfl, by decide +kernel, by decide +kernel, by decide +kernel⟩
theorem mL_60 : vk RL 60 RX8 yX8_undo 0 := ⟨q3_91, q3_92, q3_93, q1_1, rfl, by decide +kernel, by decide +kernel, by decide +kernel⟩
theorem mX8_179 : vk RX8 179 RX7 yX7_takeInto 1 := ⟨q3_95, q3_96, q3_97, q1_4, rfl, by decide +kernel, by decide +kernel, by decide +kernel⟩
theorem mX8_183 : vk RX8 183 RX7 yX7_size 0 := ⟨q3_99, q3_100, q3_101, q1_4, rfl, by decide +kernel, by decide +kernel, by decide +kernel⟩
theorem mL_64 : vk RL 64 RX8 yX8_weight 2 := ⟨q3_103, q3_104, q3_105, q1_1, rfl, by decide +kernel, by decide +kernel, by decide +kernel⟩
theorem mX8_189 : vk RX8 189 RX0 yX0_weightOf 5 := ⟨q3_107, q3_46, q3_47, q1_2, rfl, by decide +kernel, by decide +kernel, by decide +kernel⟩
theorem mL_68 : vk RL 68 RX8 yX8_likely 3 := ⟨q3_108, q3_109, q3_110, q1_1, rfl, by decide +kernel, by decide +kernel, by decide +kernel⟩
theorem mL_73 : vk RL 73 RX8 yX8_next 1 := ⟨q3_112, q3_113, q3_114, q1_1, rfl, by decide +kernel, by decide +kernel, by decide +kernel⟩
theorem mL_77 : vk RL 77 RX8 yX8_fewest 3 := ⟨q3_116, q3_117, q3_118, q1_1, rfl, by decide +kernel, by decide +kernel, by decide +kernel⟩
theorem mX8_197 : vk RX8 197 RX5 yX5_run 3 := ⟨q3_120, q3_121, q3_122, q1_7, rfl, by decide +kernel, by decide +kernel, by decide +kernel⟩
theorem mX5_30 : vk RX5 30 RX5 yX5_weighAtFirst 3 := ⟨q3_124, q3_126, q0_16, q1_7, rfl, by decide +kernel, by decide +kernel, by decide +kernel⟩
theorem mX5_64 : vk RX5 64 RX0 yX0_words 0 := ⟨q3_128, q2_55, q2_56, q1_2, rfl, by decide +kernel, by decide +kernel, by decide +kernel⟩
theorem mX5_48 : sk RX5 48 yJ9_min_7cf53 2 := ⟨q3_129, q2_8, q1_14, by decide +kernel, by decide +kernel, by decide +kernel⟩
theorem mX5_72 : vk RX5 72 RX0 yX0_habit 0 := ⟨q3_130, q3_38, q3_39, q1_2, rfl, by decide +kernel, by decide +kernel, by decide +kernel⟩
theorem mX5_75 : vk RX5 75 RX0 yX0_weightOf 5 := ⟨q3_131, q3_46, q3_47, q1_2, rfl, by decide +kernel, by decide +kernel, by decide +kernel⟩
theorem mX5_34 : vk RX5 34 RX4 yX4_cell 2 := ⟨q3_132, q2_230, q2_231, q1_3, rfl, by decide +kernel, by decide +kernel, by decide +kernel⟩
theorem mX5_40 : vk RX5 40 RX5 yX5_findFree 2 := ⟨q3_133, q3_135, q0_17, q1_7, rfl, by decide +kernel, by decide +kernel, by decide +kernel⟩
theorem mX5_82 : vk RX5 82 RX0 yX0_signs 0 := ⟨q3_137, q2_214, q2_215, q1_2, rfl, by decide +kernel, by decide +kernel, by decide +kernel⟩
theorem mX5_84 : vk RX5 84 RX0 yX0_isForbidden 1 := ⟨q3_138, q2_218, q2_219, q1_2, rfl, by decide +kernel, by decide +kernel, by decide +kernel⟩
theorem mX5_88 : vk RX5 88 RX0 yX0_factor 4 := ⟨q3_139, q3_53, q3_54, q1_2, rfl, by decide +kernel, by decide +kernel, by decide +kernel⟩
theorem mX5_44 : vk RX5 44 RX5 yX5_judge 1 := ⟨q3_140, q3_142, q0_18, q1_7, rfl, by decide +kernel, by decide +kernel, by decide +kernel⟩
theorem mX5_96 : vk RX5 96 RX5 yX5_heaviest 1 := ⟨q3_144, q3_146, q0_19, q1_7, rfl, by decide +kernel, by decide +kernel, by decide +kernel⟩
theorem mX5_99 : vk RX5 99 RX5 yX5_freeAt 1 := ⟨q3_148, q3_150, q0_20, q1_7, rfl, by decide +kernel, by decide +kernel, by decide +kernel⟩
theorem mX5_53 : vk RX5 53 RX5 yX5_tryRows 1 := ⟨q3_152, q3_154, q0_21, q1_7, rfl, by decide +kernel, by decide +kernel, by decide +kernel⟩
theorem mX5_92 : vk RX5 92 RX5 yX5_multiply 2 := ⟨q3_156, q3_158, q0_22, q1_7, rfl, by decide +kernel, by decide +kernel, by decide +kernel⟩
theorem mX8_201 : vk RX8 201 RX5 yX5_howMany 1 := ⟨q3_160, q3_161, q3_162, q1_7, rfl, by decide +kernel, by decide +kernel, by decide +kernel⟩
theorem mX8_204 : vk RX8 204 RX5 yX5_signOf 2 := ⟨q3_164, q3_165, q3_166, q1_7, rfl, by decide +kernel, by decide +kernel, by decide +kernel⟩
theorem mX5_60 : vk RX5 60 RX5 yX5_howMany 1 := ⟨q3_168, q3_161, q3_162, q1_7, rfl, by decide +kernel, by decide +kernel, by decide +kernel⟩
theorem mL_81 : vk RL 81 RX8 yX8_tells 1 := ⟨q3_169, q3_170, q3_171, q1_1, rfl, by decide +kernel, by decide +kernel, by decide +kernel⟩
theorem mX8_207 : vk RX8 207 RX8 yX8_mostTelling 1 := ⟨q3_173, q3_175, q0_23, q1_1, rfl, by decide +kernel, by decide +kernel, by decide +kernel⟩
theorem mX8_293 : vk RX8 293 RX8 yX8_weightBesides 3 := ⟨q3_177, q3_179, q0_24, q1_1, rfl, by decide +kernel, by decide +kernel, by decide +kernel⟩
theorem mX8_248 : vk RX8 248 RX0 yX0_factor 4 := ⟨q3_181, q3_53, q3_54, q1_2, rfl, by decide +kernel, by decide +kernel, by decide +kernel⟩
theorem mL_85 : vk RL 85 RX8 yX8_send 1 := ⟨q3_182, q3_183, q3_184, q1_1, rfl, by decide +kernel, by decide +kernel, by decide +kernel⟩
theorem mX8_210 : vk RX8 210 RX1 yX1_start 0 := ⟨q3_186, q3_187, q3_188, q1_8, rfl, by decide +kernel, by decide +kernel, by decide +kernel⟩
theorem mX8_213 : vk RX8 213 RX1 yX1_add 2 := ⟨q3_190, q3_191, q3_192, q1_8, rfl, by decide +kernel, by decide +kernel, by decide +kernel⟩
theorem mX8_217 : vk RX8 217 RX1 yX1_size 0 := ⟨q3_194, q3_195, q3_196, q1_8, rfl, by decide +kernel, by decide +kernel, by decide +kernel⟩
theorem mX8_218 : vk RX8 218 RX1 yX1_actorAt 1 := ⟨q3_198, q3_199, q3_200, q1_8, rfl, by decide +kernel, by decide +kernel, by decide +kernel⟩
theorem mX8_221 : vk RX8 221 RX1 yX1_wordAt 1 := ⟨q3_202, q3_203, q3_204, q1_8, rfl, by decide +kernel, by decide +kernel, by decide +kernel⟩
theorem mX8_224 : vk RX8 224 RX1 yX1_setCost 3 := ⟨q3_206, q3_207, q3_208, q1_8, rfl, by decide +kernel, by decide +kernel, by decide +kernel⟩
theorem mX8_227 : vk RX8 227 RX1 yX1_settle 0 := ⟨q3_210, q3_211, q3_212, q1_8, rfl, by decide +kernel, by decide +kernel, by decide +kernel⟩
theorem mX1_35 : vk RX1 35 RX1 yX1_firstOfBest 1 := ⟨q3_214, q3_216, q0_25, q1_8, rfl, by decide +kernel, by decide +kernel, by decide +kernel⟩
theorem mX1_38 : vk RX1 38 RX1 yX1_sumWith 2 := ⟨q3_218, q3_220, q0_26, q1_8, rfl, by decide +kernel, by decide +kernel, by decide +kernel⟩
theorem mX1_42 : sk RX1 42 yJ6_bitCount_0f7a4 1 := ⟨q3_222, q3_66, q1_17, by decide +kernel, by decide +kernel, by decide +kernel⟩
theorem mX8_230 : vk RX8 230 RX1 yX1_total 0 := ⟨q3_223, q3_224, q3_225, q1_8, rfl, by decide +kernel, by decide +kernel, by decide +kernel⟩
theorem mX8_233 : vk RX8 233 RX1 yX1_wordFor 1 := ⟨q3_227, q3_228, q3_229, q1_8, rfl, by decide +kernel, by decide +kernel, by decide +kernel⟩
theorem mX1_31 : vk RX1 31 RX1 yX1_wordAt 1 := ⟨q3_231, q3_203, q3_204, q1_8, rfl, by decide +kernel, by decide +kernel, by decide +kernel⟩
theorem mL_89 : vk RL 89 RX8 yX8_queue 1 := ⟨q3_232, q3_233, q3_234, q1_1, rfl, by decide +kernel, by decide +kernel, by decide +kernel⟩
theorem mX8_236 : vk RX8 236 RX2 yX2_start 0 := ⟨q3_236, q3_237, q3_238, q1_9, rfl, by decide +kernel, by decide +kernel, by decide +kernel⟩
theorem mX8_237 : vk RX8 237 RX8 yX8_fewestForWanted 1 := ⟨q4_0, q4_2, q0_27, q1_1, rfl, by decide +kernel, by decide +kernel, by decide +kernel⟩
theorem mX8_240 : vk RX8 240 RX2 yX2_add 2 := ⟨q4_4, q4_5, q4_6, q1_9, rfl, by decide +kernel, by decide +kernel, by decide +kernel⟩
theorem mX8_241 : vk RX8 241 RX2 yX2_waited 0 := ⟨q4_8, q4_9, q4_10, q1_9, rfl, by decide +kernel, by decide +kernel, by decide +kernel⟩
theorem mX8_244 : vk RX8 244 RX2 yX2_actorAt 1 := ⟨q4_12, q4_13, q4_14, q1_9, rfl, by decide +kernel, by decide +kernel, by decide +kernel⟩
theorem mL_93 : vk RL 93 RX8 yX8_parted 2 := ⟨q4_16, q4_17, q4_18, q1_1, rfl, by decide +kernel, by decide +kernel, by decide +kernel⟩
theorem mL_97 : vk RL 97 RX8 yX8_most 0 := ⟨q4_20, q4_21, q4_22, q1_1, rfl, by decide +kernel, by decide +kernel, by decide +kernel⟩
theorem mL_101 : vk RL 101 RX8 yX8_see 2 := ⟨q4_24, q4_25, q4_26, q1_1, rfl, by decide +kernel, by decide +kernel, by decide +kernel⟩
theorem mX8_259 : vk RX8 259 RX6 yX6_add 2 := ⟨q4_28, q4_29, q4_30, q1_5, rfl, by decide +kernel, by decide +kernel, by decide +kernel⟩
theorem mL_105 : vk RL 105 RX8 yX8_forget 0 := ⟨q4_32, q4_33, q4_34, q1_1, rfl, by decide +kernel, by decide +kernel, by decide +kernel⟩
theorem mL_109 : vk RL 109 RX8 yX8_habits 1 := ⟨q4_36, q4_37, q4_38, q1_1, rfl, by decide +kernel, by decide +kernel, by decide +kernel⟩
theorem mX8_261 : vk RX8 261 RX6 yX6_holdsBy 3 := ⟨q4_40, q4_41, q4_42, q1_5, rfl, by decide +kernel, by decide +kernel, by decide +kernel⟩
theorem mX6_22 : vk RX6 22 RX4 yX4_waits 1 := ⟨q4_44, q3_11, q3_12, q1_3, rfl, by decide +kernel, by decide +kernel, by decide +kernel⟩
theorem mX6_28 : vk RX6 28 RX0 yX0_heaviest 4 := ⟨q4_45, q3_42, q3_43, q1_2, rfl, by decide +kernel, by decide +kernel, by decide +kernel⟩
theorem mL_113 : vk RL 113 RX8 yX8_wants 1 := ⟨q4_46, q4_47, q4_48, q1_1, rfl, by decide +kernel, by decide +kernel, by decide +kernel⟩
theorem mL_117 : vk RL 117 RX8 yX8_missed 3 := ⟨q4_50, q4_51, q4_52, q1_1, rfl, by decide +kernel, by decide +kernel, by decide +kernel⟩
theorem mX8_265 : sk RX8 265 yX8_chanceOf 3 := ⟨q4_54, q4_55, q1_1, by decide +kernel, by decide +kernel, by decide +kernel⟩
theorem mX8_269 : sk RX8 269 yX8_commonDivisor 2 := ⟨q4_57, q4_58, q1_1, by decide +kernel, by decide +kernel, by decide +kernel⟩
theorem mL_121 : vk RL 121 RX8 yX8_season 3 := ⟨q4_60, q4_61, q4_62, q1_1, rfl, by decide +kernel, by decide +kernel, by decide +kernel⟩
theorem mX8_272 : sk RX8 272 yX8_draw 2 := ⟨q4_64, q4_65, q1_1, by decide +kernel, by decide +kernel, by decide +kernel⟩
theorem mX8_275 : vk RX8 275 RX8 yX8_playDraw 1 := ⟨q4_71, q4_73, q0_28, q1_1, rfl, by decide +kernel, by decide +kernel, by decide +kernel⟩
theorem mX8_278 : vk RX8 278 RX8 yX8_howMany 2 := ⟨q4_75, q4_77, q0_29, q1_1, rfl, by decide +kernel, by decide +kernel, by decide +kernel⟩
theorem mX8_280 : vk RX8 280 RX8 yX8_sumOf 2 := ⟨q4_79, q4_81, q0_30, q1_1, rfl, by decide +kernel, by decide +kernel, by decide +kernel⟩
theorem mL_125 : vk RL 125 RX8 yX8_keep 0 := ⟨q4_83, q4_84, q4_85, q1_1, rfl, by decide +kernel, by decide +kernel, by decide +kernel⟩
theorem mL_129 : vk RL 129 RX8 yX8_back 0 := ⟨q4_87, q4_88, q4_89, q1_1, rfl, by decide +kernel, by decide +kernel, by decide +kernel⟩
theorem mL_133 : vk RL 133 RX8 yX8_count 1 := ⟨q4_91, q4_92, q4_93, q1_1, rfl, by decide +kernel, by decide +kernel, by decide +kernel⟩
theorem mX8_283 : vk RX8 283 RX6 yX6_size 0 := ⟨q4_95, q4_96, q4_97, q1_5, rfl, by decide +kernel, by decide +kernel, by decide +kernel⟩
theorem mX9_58 : sk RX9 58 yX9_word 4 := ⟨q4_105, q4_106, q1_16, by decide +kernel, by decide +kernel, by decide +kernel⟩
theorem mX9_62 : sk RX9 62 yX9_actor 4 := ⟨q4_108, q4_109, q1_16, by decide +kernel, by decide +kernel, by decide +kernel⟩
theorem mX9_65 : vk RX9 65 RX9 yX9_begins 0 := ⟨q4_111, q4_113, q0_31, q1_16, rfl, by decide +kernel, by decide +kernel, by decide +kernel⟩
theorem mL_17 : vk RL 17 RX9 yX9_write 1 := ⟨q4_191, q4_192, q4_193, q1_16, rfl, by decide +kernel, by decide +kernel, by decide +kernel⟩
theorem mX9_82 : sk RX9 82 yX9_in 3 := ⟨q4_197, q4_198, q1_16, by decide +kernel, by decide +kernel, by decide +kernel⟩
theorem mL_22 : vk RL 22 RX9 yX9_wipe 0 := ⟨q4_200, q4_201, q4_202, q1_16, rfl, by decide +kernel, by decide +kernel, by decide +kernel⟩
theorem mL_26 : vk RL 26 RX9 yX9_fault 0 := ⟨q4_204, q4_205, q4_206, q1_16, rfl, by decide +kernel, by decide +kernel, by decide +kernel⟩
theorem mX9_145 : vk RX9 145 RX9 yX9_reads 0 := ⟨q4_208, q4_210, q0_32, q1_16, rfl, by decide +kernel, by decide +kernel, by decide +kernel⟩
theorem mX9_142 : vk RX9 142 RX9 yX9_readsItem 0 := ⟨q4_212, q4_214, q0_33, q1_16, rfl, by decide +kernel, by decide +kernel, by decide +kernel⟩
theorem mX9_92 : vk RX9 92 RX9 yX9_here 0 := ⟨q4_216, q4_218, q0_34, q1_16, rfl, by decide +kernel, by decide +kernel, by decide +kernel⟩
theorem mX9_123 : vk RX9 123 RX9 yX9_readsWord 0 := ⟨q4_220, q4_222, q0_35, q1_16, rfl, by decide +kernel, by decide +kernel, by decide +kernel⟩
theorem mX9_107 : vk RX9 107 RX9 yX9_number 2 := ⟨q4_224, q4_226, q0_36, q1_16, rfl, by decide +kernel, by decide +kernel, by decide +kernel⟩
theorem mX9_100 : sk RX9 100 yX9_isFigure 1 := ⟨q4_228, q4_229, q1_16, by decide +kernel, by decide +kernel, by decide +kernel⟩
theorem mX9_111 : vk RX9 111 RX9 yX9_takes 1 := ⟨q4_233, q4_235, q0_37, q1_16, rfl, by decide +kernel, by decide +kernel, by decide +kernel⟩
theorem mX9_127 : vk RX9 127 RX9 yX9_readsLikeness 0 := ⟨q5_0, q5_2, q0_38, q1_16, rfl, by decide +kernel, by decide +kernel, by decide +kernel⟩
theorem mX9_120 : sk RX9 120 yX9_has 2 := ⟨q5_4, q5_5, q1_16, by decide +kernel, by decide +kernel, by decide +kernel⟩
theorem mX9_130 : vk RX9 130 RX9 yX9_readsBarred 0 := ⟨q5_7, q5_9, q0_39, q1_16, rfl, by decide +kernel, by decide +kernel, by decide +kernel⟩
theorem mX9_133 : vk RX9 133 RX9 yX9_readsHabits 0 := ⟨q5_11, q5_13, q0_40, q1_16, rfl, by decide +kernel, by decide +kernel, by decide +kernel⟩
theorem mX9_136 : vk RX9 136 RX9 yX9_readsCost 0 := ⟨q5_15, q5_17, q0_41, q1_16, rfl, by decide +kernel, by decide +kernel, by decide +kernel⟩
theorem mX9_139 : vk RX9 139 RX9 yX9_readsActor 0 := ⟨q5_19, q5_21, q0_42, q1_16, rfl, by decide +kernel, by decide +kernel, by decide +kernel⟩
theorem mL_30 : vk RL 30 RX9 yX9_lay 0 := ⟨q5_23, q5_24, q5_25, q1_16, rfl, by decide +kernel, by decide +kernel, by decide +kernel⟩
theorem mX9_148 : sk RX9 148 yX9_copies 5 := ⟨q5_27, q5_28, q1_16, by decide +kernel, by decide +kernel, by decide +kernel⟩
theorem mL_35 : vk RL 35 RX9 yX9_word_ 2 := ⟨q5_30, q5_31, q5_32, q1_16, rfl, by decide +kernel, by decide +kernel, by decide +kernel⟩
theorem mX9_155 : vk RX9 155 RX9 yX9_isWord 1 := ⟨q5_34, q5_36, q0_43, q1_16, rfl, by decide +kernel, by decide +kernel, by decide +kernel⟩
theorem mX9_158 : vk RX9 158 RX9 yX9_likesOf 1 := ⟨q5_38, q5_40, q0_44, q1_16, rfl, by decide +kernel, by decide +kernel, by decide +kernel⟩
theorem mL_39 : vk RL 39 RX9 yX9_forbidden 1 := ⟨q5_42, q5_43, q5_44, q1_16, rfl, by decide +kernel, by decide +kernel, by decide +kernel⟩
theorem mX9_162 : vk RX9 162 RX9 yX9_isSign 1 := ⟨q5_46, q5_48, q0_45, q1_16, rfl, by decide +kernel, by decide +kernel, by decide +kernel⟩
theorem mX9_152 : vk RX9 152 RX9 yX9_signs 0 := ⟨q5_50, q5_52, q0_46, q1_16, rfl, by decide +kernel, by decide +kernel, by decide +kernel⟩
theorem mL_43 : vk RL 43 RX9 yX9_actor_ 2 := ⟨q5_54, q5_55, q5_56, q1_16, rfl, by decide +kernel, by decide +kernel, by decide +kernel⟩
theorem mX9_165 : vk RX9 165 RX9 yX9_isActor 1 := ⟨q5_58, q5_60, q0_47, q1_16, rfl, by decide +kernel, by decide +kernel, by decide +kernel⟩
theorem mL_47 : vk RL 47 RX9 yX9_shown 2 := ⟨q5_62, q5_63, q5_64, q1_16, rfl, by decide +kernel, by decide +kernel, by decide +kernel⟩
theorem mL_67 : vk RL 67 RX9 yX9_weight 2 := ⟨q5_66, q5_67, q5_68, q1_16, rfl, by decide +kernel, by decide +kernel, by decide +kernel⟩
theorem mX9_183 : vk RX9 183 RX9 yX9_weighActor 2 := ⟨q5_70, q5_72, q0_48, q1_16, rfl, by decide +kernel, by decide +kernel, by decide +kernel⟩
theorem mX9_179 : vk RX9 179 RX9 yX9_weigh 7 := ⟨q5_74, q5_76, q0_49, q1_16, rfl, by decide +kernel, by decide +kernel, by decide +kernel⟩
theorem mX9_175 : vk RX9 175 RX9 yX9_times 5 := ⟨q5_78, q5_80, q0_50, q1_16, rfl, by decide +kernel, by decide +kernel, by decide +kernel⟩
theorem mX9_168 : vk RX9 168 RX9 yX9_byPart 4 := ⟨q5_82, q5_84, q0_51, q1_16, rfl, by decide +kernel, by decide +kernel, by decide +kernel⟩
theorem mX9_172 : vk RX9 172 RX9 yX9_byLikeness 4 := ⟨q5_86, q5_88, q0_52, q1_16, rfl, by decide +kernel, by decide +kernel, by decide +kernel⟩
theorem mL_72 : vk RL 72 RX9 yX9_likely 3 := ⟨q5_90, q5_91, q5_92, q1_16, rfl, by decide +kernel, by decide +kernel, by decide +kernel⟩
theorem mX9_198 : vk RX9 198 RX9 yX9_sumOf 1 := ⟨q5_94, q5_96, q0_53, q1_16, rfl, by decide +kernel, by decide +kernel, by decide +kernel⟩
theorem mX9_202 : vk RX9 202 RX9 yX9_lowest 2 := ⟨q5_98, q5_100, q0_54, q1_16, rfl, by decide +kernel, by decide +kernel, by decide +kernel⟩
theorem mL_76 : vk RL 76 RX9 yX9_next 1 := ⟨q5_102, q5_103, q5_104, q1_16, rfl, by decide +kernel, by decide +kernel, by decide +kernel⟩
theorem mX9_206 : vk RX9 206 RX9 yX9_waits 1 := ⟨q5_106, q5_108, q0_55, q1_16, rfl, by decide +kernel, by decide +kernel, by decide +kernel⟩
theorem mX9_209 : vk RX9 209 RX9 yX9_nextAt 2 := ⟨q5_110, q5_112, q0_56, q1_16, rfl, by decide +kernel, by decide +kernel, by decide +kernel⟩
theorem mX9_187 : vk RX9 187 RX9 yX9_greatest 1 := ⟨q5_114, q5_116, q0_57, q1_16, rfl, by decide +kernel, by decide +kernel, by decide +kernel⟩
theorem mL_51 : vk RL 51 RX9 yX9_show 2 := ⟨q5_118, q5_119, q5_120, q1_16, rfl, by decide +kernel, by decide +kernel, by decide +kernel⟩
theorem mX9_213 : sk RX9 213 yX9_mayShow 2 := ⟨q5_122, q5_123, q1_16, by decide +kernel, by decide +kernel, by decide +kernel⟩
theorem mX9_217 : vk RX9 217 RX9 yX9_remember 0 := ⟨q5_125, q5_127, q0_58, q1_16, rfl, by decide +kernel, by decide +kernel, by decide +kernel⟩
theorem mX9_220 : vk RX9 220 RX9 yX9_shows 3 := ⟨q5_129, q5_131, q0_59, q1_16, rfl, by decide +kernel, by decide +kernel, by decide +kernel⟩
theorem mL_55 : vk RL 55 RX9 yX9_guess 1 := ⟨q5_133, q5_134, q5_135, q1_16, rfl, by decide +kernel, by decide +kernel, by decide +kernel⟩
theorem mX9_230 : vk RX9 230 RX9 yX9_guesses 2 := ⟨q5_137, q5_139, q0_60, q1_16, rfl, by decide +kernel, by decide +kernel, by decide +kernel⟩
theorem mX9_227 : sk RX9 227 yX9_bits 1 := ⟨q5_141, q5_142, q1_16, by decide +kernel, by decide +kernel, by decide +kernel⟩
theorem mL_59 : vk RL 59 RX9 yX9_change 2 := ⟨q5_144, q5_145, q5_146, q1_16, rfl, by decide +kernel, by decide +kernel, by decide +kernel⟩
theorem mX9_233 : vk RX9 233 RX9 yX9_isFresh 1 := ⟨q5_148, q5_150, q0_61, q1_16, rfl, by decide +kernel, by decide +kernel, by decide +kernel⟩
theorem mL_63 : vk RL 63 RX9 yX9_undo 0 := ⟨q5_152, q5_153, q5_154, q1_16, rfl, by decide +kernel, by decide +kernel, by decide +kernel⟩
theorem mL_80 : vk RL 80 RX9 yX9_fewest 3 := ⟨q5_156, q5_157, q5_158, q1_16, rfl, by decide +kernel, by decide +kernel, by decide +kernel⟩
theorem mX9_246 : vk RX9 246 RX9 yX9_fewestFor 2 := ⟨q5_160, q5_162, q0_62, q1_16, rfl, by decide +kernel, by decide +kernel, by decide +kernel⟩
theorem mX9_236 : vk RX9 236 RX9 yX9_firstRow 1 := ⟨q5_164, q5_166, q0_63, q1_16, rfl, by decide +kernel, by decide +kernel, by decide +kernel⟩
theorem mX9_239 : vk RX9 239 RX9 yX9_wouldBe 3 := ⟨q5_168, q5_170, q0_64, q1_16, rfl, by decide +kernel, by decide +kernel, by decide +kernel⟩
theorem mX9_243 : vk RX9 243 RX9 yX9_nextRow 1 := ⟨q5_172, q5_174, q0_65, q1_16, rfl, by decide +kernel, by decide +kernel, by decide +kernel⟩
theorem mL_84 : vk RL 84 RX9 yX9_tells 1 := ⟨q5_176, q5_177, q5_178, q1_16, rfl, by decide +kernel, by decide +kernel, by decide +kernel⟩
theorem mL_88 : vk RL 88 RX9 yX9_send 1 := ⟨q5_180, q5_181, q5_182, q1_16, rfl, by decide +kernel, by decide +kernel, by decide +kernel⟩
theorem mX9_258 : vk RX9 258 RX9 yX9_freshOnes 0 := ⟨q5_184, q5_186, q0_66, q1_16, rfl, by decide +kernel, by decide +kernel, by decide +kernel⟩
theorem mX9_261 : vk RX9 261 RX9 yX9_deals 1 := ⟨q5_188, q5_190, q0_67, q1_16, rfl, by decide +kernel, by decide +kernel, by decide +kernel⟩
theorem mX9_251 : vk RX9 251 RX9 yX9_firstOrder 1 := ⟨q5_193, q5_195, q0_68, q1_16, rfl, by decide +kernel, by decide +kernel, by decide +kernel⟩
theorem mX9_255 : vk RX9 255 RX9 yX9_nextOrder 1 := ⟨q5_197, q5_199, q0_69, q1_16, rfl, by decide +kernel, by decide +kernel, by decide +kernel⟩
theorem mL_92 : vk RL 92 RX9 yX9_queue 1 := ⟨q5_201, q5_202, q5_203, q1_16, rfl, by decide +kernel, by decide +kernel, by decide +kernel⟩
theorem mX9_264 : vk RX9 264 RX9 yX9_waitingOnes 0 := ⟨q5_205, q5_207, q0_70, q1_16, rfl, by decide +kernel, by decide +kernel, by decide +kernel⟩
theorem mX9_267 : vk RX9 267 RX9 yX9_queues 1 := ⟨q5_209, q5_211, q0_71, q1_16, rfl, by decide +kernel, by decide +kernel, by decide +kernel⟩
theorem mL_96 : vk RL 96 RX9 yX9_parted 2 := ⟨q5_213, q5_214, q5_215, q1_16, rfl, by decide +kernel, by decide +kernel, by decide +kernel⟩
theorem mL_100 : vk RL 100 RX9 yX9_most 0 := ⟨q5_217, q5_218, q5_219, q1_16, rfl, by decide +kernel, by decide +kernel, by decide +kernel⟩
theorem mL_104 : vk RL 104 RX9 yX9_see 2 := ⟨q5_221, q5_222, q5_223, q1_16, rfl, by decide +kernel, by decide +kernel, by decide +kernel⟩
theorem mL_108 : vk RL 108 RX9 yX9_forget 0 := ⟨q5_225, q5_226, q5_227, q1_16, rfl, by decide +kernel, by decide +kernel, by decide +kernel⟩
theorem mL_112 : vk RL 112 RX9 yX9_habits 1 := ⟨q5_229, q5_230, q5_231, q1_16, rfl, by decide +kernel, by decide +kernel, by decide +kernel⟩
theorem mX9_270 : vk RX9 270 RX9 yX9_areSo 2 := ⟨q5_233, q5_235, q0_72, q1_16, rfl, by decide +kernel, by decide +kernel, by decide +kernel⟩
theorem mL_116 : vk RL 116 RX9 yX9_wants 1 := ⟨q5_237, q5_238, q5_239, q1_16, rfl, by decide +kernel, by decide +kernel, by decide +kernel⟩
theorem mL_120 : vk RL 120 RX9 yX9_missed 3 := ⟨q6_1, q6_2, q6_3, q1_16, rfl, by decide +kernel, by decide +kernel, by decide +kernel⟩
theorem mL_124 : vk RL 124 RX9 yX9_season 3 := ⟨q6_6, q6_7, q6_8, q1_16, rfl, by decide +kernel, by decide +kernel, by decide +kernel⟩
theorem mX9_287 : sk RX9 287 yX9_throughOf 3 := ⟨q6_16, q6_17, q1_16, by decide +kernel, by decide +kernel, by decide +kernel⟩
theorem mL_128 : vk RL 128 RX9 yX9_keep 0 := ⟨q6_19, q6_20, q6_21, q1_16, rfl, by decide +kernel, by decide +kernel, by decide +kernel⟩
theorem mL_132 : vk RL 132 RX9 yX9_back 0 := ⟨q6_23, q6_24, q6_25, q1_16, rfl, by decide +kernel, by decide +kernel, by decide +kernel⟩
theorem mL_136 : vk RL 136 RX9 yX9_count 1 := ⟨q6_27, q6_28, q6_29, q1_16, rfl, by decide +kernel, by decide +kernel, by decide +kernel⟩
theorem mX9_290 : vk RX9 290 RX9 yX9_shownInAll 0 := ⟨q6_31, q6_33, q0_73, q1_16, rfl, by decide +kernel, by decide +kernel, by decide +kernel⟩
/-- the links to nest mates' private members -/
def nF (U : State) : Prop := va_Nw (.fieldLinkNest RX7 28 RX4 "cells" "[I" "CharadePost") U ∧ va_Nw (.methodLinkNest RX8 15 yX0_init "CharadePost") U ∧ va_Nw (.methodLinkNest RX8 25 yX4_init "CharadePost") U ∧ va_Nw (.methodLinkNest RX8 47 yX6_init "CharadePost") U ∧ va_Nw (.methodLinkNest RX8 54 yX3_init "CharadePost") U ∧ va_Nw (.methodLinkNest RX8 61 yX5_init "CharadePost") U ∧ va_Nw (.methodLinkNest RX8 68 yX1_init "CharadePost") U ∧ va_Nw (.methodLinkNest RX8 75 yX2_init "CharadePost") U
theorem nF_same {u U : State} (h : u.vm = U.vm) (H : nF u) : nF U := ⟨va_Nw.same rfl h H.1, va_Nw.same rfl h H.2.1, va_Nw.same rfl h H.2.2.1, va_Nw.same rfl h H.2.2.2.1, va_Nw.same rfl h H.2.2.2.2.1, va_Nw.same rfl h H.2.2.2.2.2.1, va_Nw.same rfl h H.2.2.2.2.2.2.1, va_Nw.same rfl h H.2.2.2.2.2.2.2⟩
theorem nF_warm {s U : State} (hW : s.WarmedH U.vm) (H : nF s) : nF U := ⟨va_Nw.warmF hW H.1, va_Nw.warmM hW H.2.1, va_Nw.warmM hW H.2.2.1, va_Nw.warmM hW H.2.2.2.1, va_Nw.warmM hW H.2.2.2.2.1, va_Nw.warmM hW H.2.2.2.2.2.1, va_Nw.warmM hW H.2.2.2.2.2.2.1, va_Nw.warmM hW H.2.2.2.2.2.2.2⟩
theorem fX4_cells : fk RX4 9 4 0 (.array .int) true := fX4_9
