theorem dX0_init_0 : decode cX0_init 0 = .ok (.aload_n 0, 1) := by decide +kernel
theorem dX0_init_1 : decode cX0_init 1 = .ok (.invokespecial 3, 3) := by decide +kernel
theorem dX0_init_4 : decode cX0_init 4 = .ok (.aload_n 0, 1) := by decide +kernel
theorem dX0_init_5 : decode cX0_init 5 = .ok (.bipush 8, 2) := by decide +kernel
theorem dX0_init_7 : decode cX0_init 7 = .ok (.newarray .int, 2) := by decide +kernel
theorem dX0_init_9 : decode cX0_init 9 = .ok (.putfield 9, 3) := by decide +kernel
theorem dX0_init_12 : decode cX0_init 12 = .ok (.aload_n 0, 1) := by decide +kernel
theorem dX0_init_13 : decode cX0_init 13 = .ok (.bipush 8, 2) := by decide +kernel
theorem dX0_init_15 : decode cX0_init 15 = .ok (.newarray .int, 2) := by decide +kernel
theorem dX0_init_17 : decode cX0_init 17 = .ok (.putfield 15, 3) := by decide +kernel
theorem dX0_init_20 : decode cX0_init 20 = .ok (.aload_n 0, 1) := by decide +kernel
theorem dX0_init_21 : decode cX0_init 21 = .ok (.bipush 8, 2) := by decide +kernel
theorem dX0_init_23 : decode cX0_init 23 = .ok (.newarray .int, 2) := by decide +kernel
theorem dX0_init_25 : decode cX0_init 25 = .ok (.putfield 18, 3) := by decide +kernel
theorem dX0_init_28 : decode cX0_init 28 = .ok (.aload_n 0, 1) := by decide +kernel
theorem dX0_init_29 : decode cX0_init 29 = .ok (.bipush 6, 2) := by decide +kernel
theorem dX0_init_31 : decode cX0_init 31 = .ok (.newarray .int, 2) := by decide +kernel
theorem dX0_init_33 : decode cX0_init 33 = .ok (.putfield 21, 3) := by decide +kernel
theorem dX0_init_36 : decode cX0_init 36 = .ok (.return_, 1) := by decide +kernel
theorem dX0_clear_0 : decode cX0_clear 0 = .ok (.aload_n 0, 1) := by decide +kernel
theorem dX0_clear_1 : decode cX0_clear 1 = .ok (.iconst 0, 1) := by decide +kernel
theorem dX0_clear_2 : decode cX0_clear 2 = .ok (.putfield 24, 3) := by decide +kernel
theorem dX0_clear_5 : decode cX0_clear 5 = .ok (.aload_n 0, 1) := by decide +kernel
theorem dX0_clear_6 : decode cX0_clear 6 = .ok (.iconst 0, 1) := by decide +kernel
theorem dX0_clear_7 : decode cX0_clear 7 = .ok (.putfield 28, 3) := by decide +kernel
theorem dX0_clear_10 : decode cX0_clear 10 = .ok (.aload_n 0, 1) := by decide +kernel
theorem dX0_clear_11 : decode cX0_clear 11 = .ok (.iconst 0, 1) := by decide +kernel
theorem dX0_clear_12 : decode cX0_clear 12 = .ok (.putfield 31, 3) := by decide +kernel
theorem dX0_clear_15 : decode cX0_clear 15 = .ok (.aload_n 0, 1) := by decide +kernel
theorem dX0_clear_16 : decode cX0_clear 16 = .ok (.iconst 0, 1) := by decide +kernel
theorem dX0_clear_17 : decode cX0_clear 17 = .ok (.putfield 34, 3) := by decide +kernel
theorem dX0_clear_20 : decode cX0_clear 20 = .ok (.aload_n 0, 1) := by decide +kernel
theorem dX0_clear_21 : decode cX0_clear 21 = .ok (.bipush 32, 2) := by decide +kernel
theorem dX0_clear_23 : decode cX0_clear 23 = .ok (.putfield 37, 3) := by decide +kernel
theorem dX0_clear_26 : decode cX0_clear 26 = .ok (.aload_n 0, 1) := by decide +kernel
theorem dX0_clear_27 : decode cX0_clear 27 = .ok (.iconst 2, 1) := by decide +kernel
theorem dX0_clear_28 : decode cX0_clear 28 = .ok (.putfield 40, 3) := by decide +kernel
theorem dX0_clear_31 : decode cX0_clear 31 = .ok (.return_, 1) := by decide +kernel
theorem dX0_addWord_0 : decode cX0_addWord 0 = .ok (.aload_n 0, 1) := by decide +kernel
theorem dX0_addWord_1 : decode cX0_addWord 1 = .ok (.getfield 24, 3) := by decide +kernel
theorem dX0_addWord_4 : decode cX0_addWord 4 = .ok (.ifCond .lt 12, 3) := by decide +kernel
theorem dX0_addWord_7 : decode cX0_addWord 7 = .ok (.aload_n 0, 1) := by decide +kernel
theorem dX0_addWord_8 : decode cX0_addWord 8 = .ok (.getfield 24, 3) := by decide +kernel
theorem dX0_addWord_11 : decode cX0_addWord 11 = .ok (.bipush 8, 2) := by decide +kernel
theorem dX0_addWord_13 : decode cX0_addWord 13 = .ok (.if_icmp .lt 5, 3) := by decide +kernel
theorem dX0_addWord_16 : decode cX0_addWord 16 = .ok (.iconst 0, 1) := by decide +kernel
theorem dX0_addWord_17 : decode cX0_addWord 17 = .ok (.ireturn, 1) := by decide +kernel
theorem dX0_addWord_18 : decode cX0_addWord 18 = .ok (.aload_n 0, 1) := by decide +kernel
theorem dX0_addWord_19 : decode cX0_addWord 19 = .ok (.getfield 9, 3) := by decide +kernel
theorem dX0_addWord_22 : decode cX0_addWord 22 = .ok (.aload_n 0, 1) := by decide +kernel
theorem dX0_addWord_23 : decode cX0_addWord 23 = .ok (.getfield 24, 3) := by decide +kernel
theorem dX0_addWord_26 : decode cX0_addWord 26 = .ok (.iload_n 1, 1) := by decide +kernel
theorem dX0_addWord_27 : decode cX0_addWord 27 = .ok (.iastore, 1) := by decide +kernel
theorem dX0_addWord_28 : decode cX0_addWord 28 = .ok (.aload_n 0, 1) := by decide +kernel
theorem dX0_addWord_29 : decode cX0_addWord 29 = .ok (.getfield 15, 3) := by decide +kernel
theorem dX0_addWord_32 : decode cX0_addWord 32 = .ok (.aload_n 0, 1) := by decide +kernel
theorem dX0_addWord_33 : decode cX0_addWord 33 = .ok (.getfield 24, 3) := by decide +kernel
theorem dX0_addWord_36 : decode cX0_addWord 36 = .ok (.iload_n 2, 1) := by decide +kernel
theorem dX0_addWord_37 : decode cX0_addWord 37 = .ok (.iastore, 1) := by decide +kernel
theorem dX0_addWord_38 : decode cX0_addWord 38 = .ok (.aload_n 0, 1) := by decide +kernel
theorem dX0_addWord_39 : decode cX0_addWord 39 = .ok (.getfield 18, 3) := by decide +kernel
theorem dX0_addWord_42 : decode cX0_addWord 42 = .ok (.aload_n 0, 1) := by decide +kernel
theorem dX0_addWord_43 : decode cX0_addWord 43 = .ok (.getfield 24, 3) := by decide +kernel
theorem dX0_addWord_46 : decode cX0_addWord 46 = .ok (.iload_n 3, 1) := by decide +kernel
theorem dX0_addWord_47 : decode cX0_addWord 47 = .ok (.iastore, 1) := by decide +kernel
theorem dX0_addWord_48 : decode cX0_addWord 48 = .ok (.aload_n 0, 1) := by decide +kernel
theorem dX0_addWord_49 : decode cX0_addWord 49 = .ok (.dup, 1) := by decide +kernel
theorem dX0_addWord_50 : decode cX0_addWord 50 = .ok (.getfield 24, 3) := by decide +kernel
theorem dX0_addWord_53 : decode cX0_addWord 53 = .ok (.iconst 1, 1) := by decide +kernel
theorem dX0_addWord_54 : decode cX0_addWord 54 = .ok (.iadd, 1) := by decide +kernel
theorem dX0_addWord_55 : decode cX0_addWord 55 = .ok (.putfield 24, 3) := by decide +kernel
theorem dX0_addWord_58 : decode cX0_addWord 58 = .ok (.iconst 1, 1) := by decide +kernel
theorem dX0_addWord_59 : decode cX0_addWord 59 = .ok (.ireturn, 1) := by decide +kernel
theorem dX0_addLikeness_0 : decode cX0_addLikeness 0 = .ok (.aload_n 0, 1) := by decide +kernel
theorem dX0_addLikeness_1 : decode cX0_addLikeness 1 = .ok (.getfield 28, 3) := by decide +kernel
theorem dX0_addLikeness_4 : decode cX0_addLikeness 4 = .ok (.ifCond .lt 12, 3) := by decide +kernel
theorem dX0_addLikeness_7 : decode cX0_addLikeness 7 = .ok (.aload_n 0, 1) := by decide +kernel
theorem dX0_addLikeness_8 : decode cX0_addLikeness 8 = .ok (.getfield 28, 3) := by decide +kernel
theorem dX0_addLikeness_11 : decode cX0_addLikeness 11 = .ok (.bipush 6, 2) := by decide +kernel
theorem dX0_addLikeness_13 : decode cX0_addLikeness 13 = .ok (.if_icmp .lt 5, 3) := by decide +kernel
theorem dX0_addLikeness_16 : decode cX0_addLikeness 16 = .ok (.iconst 0, 1) := by decide +kernel
theorem dX0_addLikeness_17 : decode cX0_addLikeness 17 = .ok (.ireturn, 1) := by decide +kernel
theorem dX0_addLikeness_18 : decode cX0_addLikeness 18 = .ok (.aload_n 0, 1) := by decide +kernel
theorem dX0_addLikeness_19 : decode cX0_addLikeness 19 = .ok (.getfield 21, 3) := by decide +kernel
theorem dX0_addLikeness_22 : decode cX0_addLikeness 22 = .ok (.aload_n 0, 1) := by decide +kernel
theorem dX0_addLikeness_23 : decode cX0_addLikeness 23 = .ok (.getfield 28, 3) := by decide +kernel
theorem dX0_addLikeness_26 : decode cX0_addLikeness 26 = .ok (.iload_n 1, 1) := by decide +kernel
theorem dX0_addLikeness_27 : decode cX0_addLikeness 27 = .ok (.iastore, 1) := by decide +kernel
theorem dX0_addLikeness_28 : decode cX0_addLikeness 28 = .ok (.aload_n 0, 1) := by decide +kernel
theorem dX0_addLikeness_29 : decode cX0_addLikeness 29 = .ok (.dup, 1) := by decide +kernel
theorem dX0_addLikeness_30 : decode cX0_addLikeness 30 = .ok (.getfield 28, 3) := by decide +kernel
theorem dX0_addLikeness_33 : decode cX0_addLikeness 33 = .ok (.iconst 1, 1) := by decide +kernel
theorem dX0_addLikeness_34 : decode cX0_addLikeness 34 = .ok (.iadd, 1) := by decide +kernel
theorem dX0_addLikeness_35 : decode cX0_addLikeness 35 = .ok (.putfield 28, 3) := by decide +kernel
theorem dX0_addLikeness_38 : decode cX0_addLikeness 38 = .ok (.iconst 1, 1) := by decide +kernel
theorem dX0_addLikeness_39 : decode cX0_addLikeness 39 = .ok (.ireturn, 1) := by decide +kernel
theorem dX0_addActor_0 : decode cX0_addActor 0 = .ok (.aload_n 0, 1) := by decide +kernel
theorem dX0_addActor_1 : decode cX0_addActor 1 = .ok (.getfield 31, 3) := by decide +kernel
theorem dX0_addActor_4 : decode cX0_addActor 4 = .ok (.iconst 5, 1) := by decide +kernel
theorem dX0_addActor_5 : decode cX0_addActor 5 = .ok (.if_icmp .lt 5, 3) := by decide +kernel
theorem dX0_addActor_8 : decode cX0_addActor 8 = .ok (.iconst 0, 1) := by decide +kernel
theorem dX0_addActor_9 : decode cX0_addActor 9 = .ok (.ireturn, 1) := by decide +kernel
theorem dX0_addActor_10 : decode cX0_addActor 10 = .ok (.aload_n 0, 1) := by decide +kernel
theorem dX0_addActor_11 : decode cX0_addActor 11 = .ok (.dup, 1) := by decide +kernel
theorem dX0_addActor_12 : decode cX0_addActor 12 = .ok (.getfield 31, 3) := by decide +kernel
theorem dX0_addActor_15 : decode cX0_addActor 15 = .ok (.iconst 1, 1) := by decide +kernel
theorem dX0_addActor_16 : decode cX0_addActor 16 = .ok (.iadd, 1) := by decide +kernel
theorem dX0_addActor_17 : decode cX0_addActor 17 = .ok (.putfield 31, 3) := by decide +kernel
theorem dX0_addActor_20 : decode cX0_addActor 20 = .ok (.iconst 1, 1) := by decide +kernel
theorem dX0_addActor_21 : decode cX0_addActor 21 = .ok (.ireturn, 1) := by decide +kernel
theorem dX0_forbid_0 : decode cX0_forbid 0 = .ok (.aload_n 0, 1) := by decide +kernel
theorem dX0_forbid_1 : decode cX0_forbid 1 = .ok (.dup, 1) := by decide +kernel
theorem dX0_forbid_2 : decode cX0_forbid 2 = .ok (.getfield 34, 3) := by decide +kernel
theorem dX0_forbid_5 : decode cX0_forbid 5 = .ok (.iconst 1, 1) := by decide +kernel
theorem dX0_forbid_6 : decode cX0_forbid 6 = .ok (.iload_n 1, 1) := by decide +kernel
theorem dX0_forbid_7 : decode cX0_forbid 7 = .ok (.ishl, 1) := by decide +kernel
theorem dX0_forbid_8 : decode cX0_forbid 8 = .ok (.ior, 1) := by decide +kernel
theorem dX0_forbid_9 : decode cX0_forbid 9 = .ok (.putfield 34, 3) := by decide +kernel
theorem dX0_forbid_12 : decode cX0_forbid 12 = .ok (.return_, 1) := by decide +kernel
theorem dX0_setHabit_0 : decode cX0_setHabit 0 = .ok (.aload_n 0, 1) := by decide +kernel
theorem dX0_setHabit_1 : decode cX0_setHabit 1 = .ok (.iload_n 1, 1) := by decide +kernel
theorem dX0_setHabit_2 : decode cX0_setHabit 2 = .ok (.putfield 37, 3) := by decide +kernel
theorem dX0_setHabit_5 : decode cX0_setHabit 5 = .ok (.return_, 1) := by decide +kernel
theorem dX0_setPrice_0 : decode cX0_setPrice 0 = .ok (.aload_n 0, 1) := by decide +kernel
theorem dX0_setPrice_1 : decode cX0_setPrice 1 = .ok (.iload_n 1, 1) := by decide +kernel
theorem dX0_setPrice_2 : decode cX0_setPrice 2 = .ok (.putfield 40, 3) := by decide +kernel
theorem dX0_setPrice_5 : decode cX0_setPrice 5 = .ok (.return_, 1) := by decide +kernel
theorem dX0_words_0 : decode cX0_words 0 = .ok (.aload_n 0, 1) := by decide +kernel
theorem dX0_words_1 : decode cX0_words 1 = .ok (.getfield 24, 3) := by decide +kernel
theorem dX0_words_4 : decode cX0_words 4 = .ok (.ireturn, 1) := by decide +kernel
theorem dX0_signs_0 : decode cX0_signs 0 = .ok (.bipush 9, 2) := by decide +kernel
theorem dX0_signs_2 : decode cX0_signs 2 = .ok (.aload_n 0, 1) := by decide +kernel
theorem dX0_signs_3 : decode cX0_signs 3 = .ok (.getfield 28, 3) := by decide +kernel
theorem dX0_signs_6 : decode cX0_signs 6 = .ok (.iadd, 1) := by decide +kernel
theorem dX0_signs_7 : decode cX0_signs 7 = .ok (.ireturn, 1) := by decide +kernel
theorem dX0_actors_0 : decode cX0_actors 0 = .ok (.aload_n 0, 1) := by decide +kernel
theorem dX0_actors_1 : decode cX0_actors 1 = .ok (.getfield 31, 3) := by decide +kernel
theorem dX0_actors_4 : decode cX0_actors 4 = .ok (.ireturn, 1) := by decide +kernel
theorem dX0_habit_0 : decode cX0_habit 0 = .ok (.aload_n 0, 1) := by decide +kernel
theorem dX0_habit_1 : decode cX0_habit 1 = .ok (.getfield 37, 3) := by decide +kernel
theorem dX0_habit_4 : decode cX0_habit 4 = .ok (.ireturn, 1) := by decide +kernel
theorem dX0_price_0 : decode cX0_price 0 = .ok (.aload_n 0, 1) := by decide +kernel
theorem dX0_price_1 : decode cX0_price 1 = .ok (.getfield 40, 3) := by decide +kernel
theorem dX0_price_4 : decode cX0_price 4 = .ok (.ireturn, 1) := by decide +kernel
theorem dX0_isForbidden_0 : decode cX0_isForbidden 0 = .ok (.aload_n 0, 1) := by decide +kernel
theorem dX0_isForbidden_1 : decode cX0_isForbidden 1 = .ok (.getfield 34, 3) := by decide +kernel
theorem dX0_isForbidden_4 : decode cX0_isForbidden 4 = .ok (.iload_n 1, 1) := by decide +kernel
theorem dX0_isForbidden_5 : decode cX0_isForbidden 5 = .ok (.ishr, 1) := by decide +kernel
theorem dX0_isForbidden_6 : decode cX0_isForbidden 6 = .ok (.iconst 1, 1) := by decide +kernel
theorem dX0_isForbidden_7 : decode cX0_isForbidden 7 = .ok (.iand, 1) := by decide +kernel
theorem dX0_isForbidden_8 : decode cX0_isForbidden 8 = .ok (.iconst 1, 1) := by decide +kernel
theorem dX0_isForbidden_9 : decode cX0_isForbidden 9 = .ok (.if_icmp .ne 7, 3) := by decide +kernel
theorem dX0_isForbidden_12 : decode cX0_isForbidden 12 = .ok (.iconst 1, 1) := by decide +kernel
theorem dX0_isForbidden_13 : decode cX0_isForbidden 13 = .ok (.goto 4, 3) := by decide +kernel
theorem dX0_isForbidden_16 : decode cX0_isForbidden 16 = .ok (.iconst 0, 1) := by decide +kernel
theorem dX0_isForbidden_17 : decode cX0_isForbidden 17 = .ok (.ireturn, 1) := by decide +kernel
theorem dX0_commonOf_0 : decode cX0_commonOf 0 = .ok (.iload_n 1, 1) := by decide +kernel
theorem dX0_commonOf_1 : decode cX0_commonOf 1 = .ok (.ifCond .lt 21, 3) := by decide +kernel
theorem dX0_commonOf_4 : decode cX0_commonOf 4 = .ok (.iload_n 1, 1) := by decide +kernel
theorem dX0_commonOf_5 : decode cX0_commonOf 5 = .ok (.aload_n 0, 1) := by decide +kernel
theorem dX0_commonOf_6 : decode cX0_commonOf 6 = .ok (.getfield 9, 3) := by decide +kernel
theorem dX0_commonOf_9 : decode cX0_commonOf 9 = .ok (.arraylength, 1) := by decide +kernel
theorem dX0_commonOf_10 : decode cX0_commonOf 10 = .ok (.if_icmp .ge 12, 3) := by decide +kernel
theorem dX0_commonOf_13 : decode cX0_commonOf 13 = .ok (.aload_n 0, 1) := by decide +kernel
theorem dX0_commonOf_14 : decode cX0_commonOf 14 = .ok (.getfield 9, 3) := by decide +kernel
theorem dX0_commonOf_17 : decode cX0_commonOf 17 = .ok (.iload_n 1, 1) := by decide +kernel
theorem dX0_commonOf_18 : decode cX0_commonOf 18 = .ok (.iaload, 1) := by decide +kernel
theorem dX0_commonOf_19 : decode cX0_commonOf 19 = .ok (.goto 4, 3) := by decide +kernel
theorem dX0_commonOf_22 : decode cX0_commonOf 22 = .ok (.iconst 0, 1) := by decide +kernel
theorem dX0_commonOf_23 : decode cX0_commonOf 23 = .ok (.ireturn, 1) := by decide +kernel
theorem dX0_lengthOf_0 : decode cX0_lengthOf 0 = .ok (.iload_n 1, 1) := by decide +kernel
theorem dX0_lengthOf_1 : decode cX0_lengthOf 1 = .ok (.ifCond .lt 21, 3) := by decide +kernel
theorem dX0_lengthOf_4 : decode cX0_lengthOf 4 = .ok (.iload_n 1, 1) := by decide +kernel
theorem dX0_lengthOf_5 : decode cX0_lengthOf 5 = .ok (.aload_n 0, 1) := by decide +kernel
theorem dX0_lengthOf_6 : decode cX0_lengthOf 6 = .ok (.getfield 15, 3) := by decide +kernel
theorem dX0_lengthOf_9 : decode cX0_lengthOf 9 = .ok (.arraylength, 1) := by decide +kernel
theorem dX0_lengthOf_10 : decode cX0_lengthOf 10 = .ok (.if_icmp .ge 12, 3) := by decide +kernel
theorem dX0_lengthOf_13 : decode cX0_lengthOf 13 = .ok (.aload_n 0, 1) := by decide +kernel
theorem dX0_lengthOf_14 : decode cX0_lengthOf 14 = .ok (.getfield 15, 3) := by decide +kernel
theorem dX0_lengthOf_17 : decode cX0_lengthOf 17 = .ok (.iload_n 1, 1) := by decide +kernel
theorem dX0_lengthOf_18 : decode cX0_lengthOf 18 = .ok (.iaload, 1) := by decide +kernel
theorem dX0_lengthOf_19 : decode cX0_lengthOf 19 = .ok (.goto 4, 3) := by decide +kernel
theorem dX0_lengthOf_22 : decode cX0_lengthOf 22 = .ok (.iconst 0, 1) := by decide +kernel
theorem dX0_lengthOf_23 : decode cX0_lengthOf 23 = .ok (.ireturn, 1) := by decide +kernel
theorem dX0_partsOf_0 : decode cX0_partsOf 0 = .ok (.iload_n 1, 1) := by decide +kernel
theorem dX0_partsOf_1 : decode cX0_partsOf 1 = .ok (.ifCond .lt 21, 3) := by decide +kernel
theorem dX0_partsOf_4 : decode cX0_partsOf 4 = .ok (.iload_n 1, 1) := by decide +kernel
theorem dX0_partsOf_5 : decode cX0_partsOf 5 = .ok (.aload_n 0, 1) := by decide +kernel
theorem dX0_partsOf_6 : decode cX0_partsOf 6 = .ok (.getfield 18, 3) := by decide +kernel
theorem dX0_partsOf_9 : decode cX0_partsOf 9 = .ok (.arraylength, 1) := by decide +kernel
theorem dX0_partsOf_10 : decode cX0_partsOf 10 = .ok (.if_icmp .ge 12, 3) := by decide +kernel
theorem dX0_partsOf_13 : decode cX0_partsOf 13 = .ok (.aload_n 0, 1) := by decide +kernel
theorem dX0_partsOf_14 : decode cX0_partsOf 14 = .ok (.getfield 18, 3) := by decide +kernel
theorem dX0_partsOf_17 : decode cX0_partsOf 17 = .ok (.iload_n 1, 1) := by decide +kernel
theorem dX0_partsOf_18 : decode cX0_partsOf 18 = .ok (.iaload, 1) := by decide +kernel
theorem dX0_partsOf_19 : decode cX0_partsOf 19 = .ok (.goto 4, 3) := by decide +kernel
theorem dX0_partsOf_22 : decode cX0_partsOf 22 = .ok (.iconst 0, 1) := by decide +kernel
theorem dX0_partsOf_23 : decode cX0_partsOf 23 = .ok (.ireturn, 1) := by decide +kernel
theorem dX0_likenessesOf_0 : decode cX0_likenessesOf 0 = .ok (.iconst 0, 1) := by decide +kernel
theorem dX0_likenessesOf_1 : decode cX0_likenessesOf 1 = .ok (.istore_n 2, 1) := by decide +kernel
theorem dX0_likenessesOf_2 : decode cX0_likenessesOf 2 = .ok (.iconst 0, 1) := by decide +kernel
theorem dX0_likenessesOf_3 : decode cX0_likenessesOf 3 = .ok (.istore_n 3, 1) := by decide +kernel
theorem dX0_likenessesOf_4 : decode cX0_likenessesOf 4 = .ok (.iload_n 3, 1) := by decide +kernel
theorem dX0_likenessesOf_5 : decode cX0_likenessesOf 5 = .ok (.aload_n 0, 1) := by decide +kernel
theorem dX0_likenessesOf_6 : decode cX0_likenessesOf 6 = .ok (.getfield 28, 3) := by decide +kernel
theorem dX0_likenessesOf_9 : decode cX0_likenessesOf 9 = .ok (.if_icmp .ge 24, 3) := by decide +kernel
theorem dX0_likenessesOf_12 : decode cX0_likenessesOf 12 = .ok (.aload_n 0, 1) := by decide +kernel
theorem dX0_likenessesOf_13 : decode cX0_likenessesOf 13 = .ok (.iload_n 1, 1) := by decide +kernel
theorem dX0_likenessesOf_14 : decode cX0_likenessesOf 14 = .ok (.iload_n 3, 1) := by decide +kernel
theorem dX0_likenessesOf_15 : decode cX0_likenessesOf 15 = .ok (.invokevirtual 43, 3) := by decide +kernel
theorem dX0_likenessesOf_18 : decode cX0_likenessesOf 18 = .ok (.ifCond .eq 9, 3) := by decide +kernel
theorem dX0_likenessesOf_21 : decode cX0_likenessesOf 21 = .ok (.iload_n 2, 1) := by decide +kernel
theorem dX0_likenessesOf_22 : decode cX0_likenessesOf 22 = .ok (.iconst 1, 1) := by decide +kernel
theorem dX0_likenessesOf_23 : decode cX0_likenessesOf 23 = .ok (.iload_n 3, 1) := by decide +kernel
theorem dX0_likenessesOf_24 : decode cX0_likenessesOf 24 = .ok (.ishl, 1) := by decide +kernel
theorem dX0_likenessesOf_25 : decode cX0_likenessesOf 25 = .ok (.ior, 1) := by decide +kernel
theorem dX0_likenessesOf_26 : decode cX0_likenessesOf 26 = .ok (.istore_n 2, 1) := by decide +kernel
theorem dX0_likenessesOf_27 : decode cX0_likenessesOf 27 = .ok (.iinc 3 1, 3) := by decide +kernel
theorem dX0_likenessesOf_30 : decode cX0_likenessesOf 30 = .ok (.goto (-26), 3) := by decide +kernel
theorem dX0_likenessesOf_33 : decode cX0_likenessesOf 33 = .ok (.iload_n 2, 1) := by decide +kernel
theorem dX0_likenessesOf_34 : decode cX0_likenessesOf 34 = .ok (.ireturn, 1) := by decide +kernel
theorem dX0_isIn_0 : decode cX0_isIn 0 = .ok (.iload_n 2, 1) := by decide +kernel
theorem dX0_isIn_1 : decode cX0_isIn 1 = .ok (.ifCond .lt 30, 3) := by decide +kernel
theorem dX0_isIn_4 : decode cX0_isIn 4 = .ok (.iload_n 2, 1) := by decide +kernel
theorem dX0_isIn_5 : decode cX0_isIn 5 = .ok (.aload_n 0, 1) := by decide +kernel
theorem dX0_isIn_6 : decode cX0_isIn 6 = .ok (.getfield 21, 3) := by decide +kernel
theorem dX0_isIn_9 : decode cX0_isIn 9 = .ok (.arraylength, 1) := by decide +kernel
theorem dX0_isIn_10 : decode cX0_isIn 10 = .ok (.if_icmp .ge 21, 3) := by decide +kernel
theorem dX0_isIn_13 : decode cX0_isIn 13 = .ok (.aload_n 0, 1) := by decide +kernel
theorem dX0_isIn_14 : decode cX0_isIn 14 = .ok (.getfield 21, 3) := by decide +kernel
theorem dX0_isIn_17 : decode cX0_isIn 17 = .ok (.iload_n 2, 1) := by decide +kernel
theorem dX0_isIn_18 : decode cX0_isIn 18 = .ok (.iaload, 1) := by decide +kernel
theorem dX0_isIn_19 : decode cX0_isIn 19 = .ok (.iload_n 1, 1) := by decide +kernel
theorem dX0_isIn_20 : decode cX0_isIn 20 = .ok (.ishr, 1) := by decide +kernel
theorem dX0_isIn_21 : decode cX0_isIn 21 = .ok (.iconst 1, 1) := by decide +kernel
theorem dX0_isIn_22 : decode cX0_isIn 22 = .ok (.iand, 1) := by decide +kernel
theorem dX0_isIn_23 : decode cX0_isIn 23 = .ok (.iconst 1, 1) := by decide +kernel
theorem dX0_isIn_24 : decode cX0_isIn 24 = .ok (.if_icmp .ne 7, 3) := by decide +kernel
theorem dX0_isIn_27 : decode cX0_isIn 27 = .ok (.iconst 1, 1) := by decide +kernel
theorem dX0_isIn_28 : decode cX0_isIn 28 = .ok (.goto 4, 3) := by decide +kernel
theorem dX0_isIn_31 : decode cX0_isIn 31 = .ok (.iconst 0, 1) := by decide +kernel
theorem dX0_isIn_32 : decode cX0_isIn 32 = .ok (.ireturn, 1) := by decide +kernel
theorem dX0_factor_0 : decode cX0_factor 0 = .ok (.iload_n 2, 1) := by decide +kernel
theorem dX0_factor_1 : decode cX0_factor 1 = .ok (.bipush 6, 2) := by decide +kernel
theorem dX0_factor_3 : decode cX0_factor 3 = .ok (.if_icmp .ge 48, 3) := by decide +kernel
theorem dX0_factor_6 : decode cX0_factor 6 = .ok (.iload_n 1, 1) := by decide +kernel
theorem dX0_factor_7 : decode cX0_factor 7 = .ok (.iconst 1, 1) := by decide +kernel
theorem dX0_factor_8 : decode cX0_factor 8 = .ok (.if_icmp .ne 12, 3) := by decide +kernel
theorem dX0_factor_11 : decode cX0_factor 11 = .ok (.iload_n 2, 1) := by decide +kernel
theorem dX0_factor_12 : decode cX0_factor 12 = .ok (.iconst 1, 1) := by decide +kernel
theorem dX0_factor_13 : decode cX0_factor 13 = .ok (.iadd, 1) := by decide +kernel
theorem dX0_factor_14 : decode cX0_factor 14 = .ok (.bipush 6, 2) := by decide +kernel
theorem dX0_factor_16 : decode cX0_factor 16 = .ok (.irem, 1) := by decide +kernel
theorem dX0_factor_17 : decode cX0_factor 17 = .ok (.goto 4, 3) := by decide +kernel
theorem dX0_factor_20 : decode cX0_factor 20 = .ok (.iload_n 2, 1) := by decide +kernel
theorem dX0_factor_21 : decode cX0_factor 21 = .ok (.istore 5, 2) := by decide +kernel
theorem dX0_factor_23 : decode cX0_factor 23 = .ok (.aload_n 0, 1) := by decide +kernel
theorem dX0_factor_24 : decode cX0_factor 24 = .ok (.iload_n 3, 1) := by decide +kernel
theorem dX0_factor_25 : decode cX0_factor 25 = .ok (.invokevirtual 47, 3) := by decide +kernel
theorem dX0_factor_28 : decode cX0_factor 28 = .ok (.iload 5, 2) := by decide +kernel
theorem dX0_factor_30 : decode cX0_factor 30 = .ok (.ishr, 1) := by decide +kernel
theorem dX0_factor_31 : decode cX0_factor 31 = .ok (.iconst 1, 1) := by decide +kernel
theorem dX0_factor_32 : decode cX0_factor 32 = .ok (.iand, 1) := by decide +kernel
theorem dX0_factor_33 : decode cX0_factor 33 = .ok (.iconst 1, 1) := by decide +kernel
theorem dX0_factor_34 : decode cX0_factor 34 = .ok (.if_icmp .ne 15, 3) := by decide +kernel
theorem dX0_factor_37 : decode cX0_factor 37 = .ok (.iload_n 1, 1) := by decide +kernel
theorem dX0_factor_38 : decode cX0_factor 38 = .ok (.iload 4, 2) := by decide +kernel
theorem dX0_factor_40 : decode cX0_factor 40 = .ok (.bipush 10, 2) := by decide +kernel
theorem dX0_factor_42 : decode cX0_factor 42 = .ok (.irem, 1) := by decide +kernel
theorem dX0_factor_43 : decode cX0_factor 43 = .ok (.invokestatic 51, 3) := by decide +kernel
theorem dX0_factor_46 : decode cX0_factor 46 = .ok (.goto 4, 3) := by decide +kernel
theorem dX0_factor_49 : decode cX0_factor 49 = .ok (.iconst 1, 1) := by decide +kernel
theorem dX0_factor_50 : decode cX0_factor 50 = .ok (.ireturn, 1) := by decide +kernel
theorem dX0_factor_51 : decode cX0_factor 51 = .ok (.iload_n 2, 1) := by decide +kernel
theorem dX0_factor_52 : decode cX0_factor 52 = .ok (.bipush 9, 2) := by decide +kernel
theorem dX0_factor_54 : decode cX0_factor 54 = .ok (.if_icmp .ge 23, 3) := by decide +kernel
theorem dX0_factor_57 : decode cX0_factor 57 = .ok (.aload_n 0, 1) := by decide +kernel
theorem dX0_factor_58 : decode cX0_factor 58 = .ok (.iload_n 3, 1) := by decide +kernel
theorem dX0_factor_59 : decode cX0_factor 59 = .ok (.invokevirtual 55, 3) := by decide +kernel
theorem dX0_factor_62 : decode cX0_factor 62 = .ok (.iload_n 2, 1) := by decide +kernel
theorem dX0_factor_63 : decode cX0_factor 63 = .ok (.bipush 6, 2) := by decide +kernel
theorem dX0_factor_65 : decode cX0_factor 65 = .ok (.isub, 1) := by decide +kernel
theorem dX0_factor_66 : decode cX0_factor 66 = .ok (.iconst 1, 1) := by decide +kernel
theorem dX0_factor_67 : decode cX0_factor 67 = .ok (.iadd, 1) := by decide +kernel
theorem dX0_factor_68 : decode cX0_factor 68 = .ok (.if_icmp .ne 7, 3) := by decide +kernel
theorem dX0_factor_71 : decode cX0_factor 71 = .ok (.iconst 1, 1) := by decide +kernel
theorem dX0_factor_72 : decode cX0_factor 72 = .ok (.goto 4, 3) := by decide +kernel
theorem dX0_factor_75 : decode cX0_factor 75 = .ok (.iconst 0, 1) := by decide +kernel
theorem dX0_factor_76 : decode cX0_factor 76 = .ok (.ireturn, 1) := by decide +kernel
theorem dX0_factor_77 : decode cX0_factor 77 = .ok (.aload_n 0, 1) := by decide +kernel
theorem dX0_factor_78 : decode cX0_factor 78 = .ok (.iload_n 3, 1) := by decide +kernel
theorem dX0_factor_79 : decode cX0_factor 79 = .ok (.iload_n 2, 1) := by decide +kernel
theorem dX0_factor_80 : decode cX0_factor 80 = .ok (.bipush 9, 2) := by decide +kernel
theorem dX0_factor_82 : decode cX0_factor 82 = .ok (.isub, 1) := by decide +kernel
theorem dX0_factor_83 : decode cX0_factor 83 = .ok (.invokevirtual 43, 3) := by decide +kernel
theorem dX0_factor_86 : decode cX0_factor 86 = .ok (.ifCond .ne 5, 3) := by decide +kernel
theorem dX0_factor_89 : decode cX0_factor 89 = .ok (.iconst 1, 1) := by decide +kernel
theorem dX0_factor_90 : decode cX0_factor 90 = .ok (.ireturn, 1) := by decide +kernel
theorem dX0_factor_91 : decode cX0_factor 91 = .ok (.iload 4, 2) := by decide +kernel
theorem dX0_factor_93 : decode cX0_factor 93 = .ok (.bipush 10, 2) := by decide +kernel
theorem dX0_factor_95 : decode cX0_factor 95 = .ok (.idiv, 1) := by decide +kernel
theorem dX0_factor_96 : decode cX0_factor 96 = .ok (.istore 5, 2) := by decide +kernel
theorem dX0_factor_98 : decode cX0_factor 98 = .ok (.iload_n 1, 1) := by decide +kernel
theorem dX0_factor_99 : decode cX0_factor 99 = .ok (.iconst 3, 1) := by decide +kernel
theorem dX0_factor_100 : decode cX0_factor 100 = .ok (.if_icmp .ne 10, 3) := by decide +kernel
theorem dX0_factor_103 : decode cX0_factor 103 = .ok (.iload 5, 2) := by decide +kernel
theorem dX0_factor_105 : decode cX0_factor 105 = .ok (.iconst 1, 1) := by decide +kernel
theorem dX0_factor_106 : decode cX0_factor 106 = .ok (.iadd, 1) := by decide +kernel
theorem dX0_factor_107 : decode cX0_factor 107 = .ok (.goto 9, 3) := by decide +kernel
theorem dX0_factor_110 : decode cX0_factor 110 = .ok (.iload_n 1, 1) := by decide +kernel
theorem dX0_factor_111 : decode cX0_factor 111 = .ok (.iload 5, 2) := by decide +kernel
theorem dX0_factor_113 : decode cX0_factor 113 = .ok (.invokestatic 51, 3) := by decide +kernel
theorem dX0_factor_116 : decode cX0_factor 116 = .ok (.ireturn, 1) := by decide +kernel
theorem dX0_byKind_0 : decode cX0_byKind 0 = .ok (.iload_n 0, 1) := by decide +kernel
theorem dX0_byKind_1 : decode cX0_byKind 1 = .ok (.iconst 2, 1) := by decide +kernel
theorem dX0_byKind_2 : decode cX0_byKind 2 = .ok (.if_icmp .ne 9, 3) := by decide +kernel
theorem dX0_byKind_5 : decode cX0_byKind 5 = .ok (.iload_n 1, 1) := by decide +kernel
theorem dX0_byKind_6 : decode cX0_byKind 6 = .ok (.iload_n 1, 1) := by decide +kernel
theorem dX0_byKind_7 : decode cX0_byKind 7 = .ok (.imul, 1) := by decide +kernel
theorem dX0_byKind_8 : decode cX0_byKind 8 = .ok (.goto 4, 3) := by decide +kernel
theorem dX0_byKind_11 : decode cX0_byKind 11 = .ok (.iload_n 1, 1) := by decide +kernel
theorem dX0_byKind_12 : decode cX0_byKind 12 = .ok (.ireturn, 1) := by decide +kernel
theorem dX0_weightOf_0 : decode cX0_weightOf 0 = .ok (.aload_n 1, 1) := by decide +kernel
theorem dX0_weightOf_1 : decode cX0_weightOf 1 = .ok (.iload_n 2, 1) := by decide +kernel
theorem dX0_weightOf_2 : decode cX0_weightOf 2 = .ok (.iconst 4, 1) := by decide +kernel
theorem dX0_weightOf_3 : decode cX0_weightOf 3 = .ok (.invokevirtual 58, 3) := by decide +kernel
theorem dX0_weightOf_6 : decode cX0_weightOf 6 = .ok (.iload_n 3, 1) := by decide +kernel
theorem dX0_weightOf_7 : decode cX0_weightOf 7 = .ok (.ishr, 1) := by decide +kernel
theorem dX0_weightOf_8 : decode cX0_weightOf 8 = .ok (.iconst 1, 1) := by decide +kernel
theorem dX0_weightOf_9 : decode cX0_weightOf 9 = .ok (.iand, 1) := by decide +kernel
theorem dX0_weightOf_10 : decode cX0_weightOf 10 = .ok (.iconst 1, 1) := by decide +kernel
theorem dX0_weightOf_11 : decode cX0_weightOf 11 = .ok (.if_icmp .ne 5, 3) := by decide +kernel
theorem dX0_weightOf_14 : decode cX0_weightOf 14 = .ok (.iconst 0, 1) := by decide +kernel
theorem dX0_weightOf_15 : decode cX0_weightOf 15 = .ok (.ireturn, 1) := by decide +kernel
theorem dX0_weightOf_16 : decode cX0_weightOf 16 = .ok (.aload_n 0, 1) := by decide +kernel
theorem dX0_weightOf_17 : decode cX0_weightOf 17 = .ok (.iload_n 3, 1) := by decide +kernel
theorem dX0_weightOf_18 : decode cX0_weightOf 18 = .ok (.invokevirtual 63, 3) := by decide +kernel
theorem dX0_weightOf_21 : decode cX0_weightOf 21 = .ok (.istore 6, 2) := by decide +kernel
theorem dX0_weightOf_23 : decode cX0_weightOf 23 = .ok (.iconst 0, 1) := by decide +kernel
theorem dX0_weightOf_24 : decode cX0_weightOf 24 = .ok (.istore 7, 2) := by decide +kernel
theorem dX0_weightOf_26 : decode cX0_weightOf 26 = .ok (.iload 7, 2) := by decide +kernel
theorem dX0_weightOf_28 : decode cX0_weightOf 28 = .ok (.aload_n 1, 1) := by decide +kernel
theorem dX0_weightOf_29 : decode cX0_weightOf 29 = .ok (.iload_n 2, 1) := by decide +kernel
theorem dX0_weightOf_30 : decode cX0_weightOf 30 = .ok (.iconst 3, 1) := by decide +kernel
theorem dX0_weightOf_31 : decode cX0_weightOf 31 = .ok (.invokevirtual 58, 3) := by decide +kernel
theorem dX0_weightOf_34 : decode cX0_weightOf 34 = .ok (.if_icmp .ge 51, 3) := by decide +kernel
theorem dX0_weightOf_37 : decode cX0_weightOf 37 = .ok (.iload 7, 2) := by decide +kernel
theorem dX0_weightOf_39 : decode cX0_weightOf 39 = .ok (.iconst 5, 1) := by decide +kernel
theorem dX0_weightOf_40 : decode cX0_weightOf 40 = .ok (.if_icmp .ge 45, 3) := by decide +kernel
theorem dX0_weightOf_43 : decode cX0_weightOf 43 = .ok (.iload 4, 2) := by decide +kernel
theorem dX0_weightOf_45 : decode cX0_weightOf 45 = .ok (.iload 7, 2) := by decide +kernel
theorem dX0_weightOf_47 : decode cX0_weightOf 47 = .ok (.ishr, 1) := by decide +kernel
theorem dX0_weightOf_48 : decode cX0_weightOf 48 = .ok (.iconst 1, 1) := by decide +kernel
theorem dX0_weightOf_49 : decode cX0_weightOf 49 = .ok (.iand, 1) := by decide +kernel
theorem dX0_weightOf_50 : decode cX0_weightOf 50 = .ok (.iconst 1, 1) := by decide +kernel
theorem dX0_weightOf_51 : decode cX0_weightOf 51 = .ok (.if_icmp .ne 28, 3) := by decide +kernel
theorem dX0_weightOf_54 : decode cX0_weightOf 54 = .ok (.iload 6, 2) := by decide +kernel
theorem dX0_weightOf_56 : decode cX0_weightOf 56 = .ok (.aload_n 0, 1) := by decide +kernel
theorem dX0_weightOf_57 : decode cX0_weightOf 57 = .ok (.aload_n 1, 1) := by decide +kernel
theorem dX0_weightOf_58 : decode cX0_weightOf 58 = .ok (.iload_n 2, 1) := by decide +kernel
theorem dX0_weightOf_59 : decode cX0_weightOf 59 = .ok (.iconst 0, 1) := by decide +kernel
theorem dX0_weightOf_60 : decode cX0_weightOf 60 = .ok (.invokevirtual 58, 3) := by decide +kernel
theorem dX0_weightOf_63 : decode cX0_weightOf 63 = .ok (.aload_n 1, 1) := by decide +kernel
theorem dX0_weightOf_64 : decode cX0_weightOf 64 = .ok (.iload_n 2, 1) := by decide +kernel
theorem dX0_weightOf_65 : decode cX0_weightOf 65 = .ok (.iload 7, 2) := by decide +kernel
theorem dX0_weightOf_67 : decode cX0_weightOf 67 = .ok (.invokevirtual 66, 3) := by decide +kernel
theorem dX0_weightOf_70 : decode cX0_weightOf 70 = .ok (.iload_n 3, 1) := by decide +kernel
theorem dX0_weightOf_71 : decode cX0_weightOf 71 = .ok (.iload 5, 2) := by decide +kernel
theorem dX0_weightOf_73 : decode cX0_weightOf 73 = .ok (.invokevirtual 69, 3) := by decide +kernel
theorem dX0_weightOf_76 : decode cX0_weightOf 76 = .ok (.imul, 1) := by decide +kernel
theorem dX0_weightOf_77 : decode cX0_weightOf 77 = .ok (.istore 6, 2) := by decide +kernel
theorem dX0_weightOf_79 : decode cX0_weightOf 79 = .ok (.iinc 7 1, 3) := by decide +kernel
theorem dX0_weightOf_82 : decode cX0_weightOf 82 = .ok (.goto (-56), 3) := by decide +kernel
theorem dX0_weightOf_85 : decode cX0_weightOf 85 = .ok (.iload 6, 2) := by decide +kernel
theorem dX0_weightOf_87 : decode cX0_weightOf 87 = .ok (.ireturn, 1) := by decide +kernel
theorem dX0_heaviest_0 : decode cX0_heaviest 0 = .ok (.bipush (-4), 2) := by decide +kernel
theorem dX0_heaviest_2 : decode cX0_heaviest 2 = .ok (.istore 5, 2) := by decide +kernel
theorem dX0_heaviest_4 : decode cX0_heaviest 4 = .ok (.iconst 0, 1) := by decide +kernel
theorem dX0_heaviest_5 : decode cX0_heaviest 5 = .ok (.istore 6, 2) := by decide +kernel
theorem dX0_heaviest_7 : decode cX0_heaviest 7 = .ok (.iconst 0, 1) := by decide +kernel
theorem dX0_heaviest_8 : decode cX0_heaviest 8 = .ok (.istore 7, 2) := by decide +kernel
theorem dX0_heaviest_10 : decode cX0_heaviest 10 = .ok (.iload 7, 2) := by decide +kernel
theorem dX0_heaviest_12 : decode cX0_heaviest 12 = .ok (.aload_n 0, 1) := by decide +kernel
theorem dX0_heaviest_13 : decode cX0_heaviest 13 = .ok (.getfield 24, 3) := by decide +kernel
theorem dX0_heaviest_16 : decode cX0_heaviest 16 = .ok (.if_icmp .ge 37, 3) := by decide +kernel
theorem dX0_heaviest_19 : decode cX0_heaviest 19 = .ok (.aload_n 0, 1) := by decide +kernel
theorem dX0_heaviest_20 : decode cX0_heaviest 20 = .ok (.aload_n 1, 1) := by decide +kernel
theorem dX0_heaviest_21 : decode cX0_heaviest 21 = .ok (.iload_n 2, 1) := by decide +kernel
theorem dX0_heaviest_22 : decode cX0_heaviest 22 = .ok (.iload 7, 2) := by decide +kernel
theorem dX0_heaviest_24 : decode cX0_heaviest 24 = .ok (.iload_n 3, 1) := by decide +kernel
theorem dX0_heaviest_25 : decode cX0_heaviest 25 = .ok (.iload 4, 2) := by decide +kernel
theorem dX0_heaviest_27 : decode cX0_heaviest 27 = .ok (.invokevirtual 73, 3) := by decide +kernel
theorem dX0_heaviest_30 : decode cX0_heaviest 30 = .ok (.istore 8, 2) := by decide +kernel
theorem dX0_heaviest_32 : decode cX0_heaviest 32 = .ok (.iload 8, 2) := by decide +kernel
theorem dX0_heaviest_34 : decode cX0_heaviest 34 = .ok (.iload 6, 2) := by decide +kernel
theorem dX0_heaviest_36 : decode cX0_heaviest 36 = .ok (.if_icmp .le 11, 3) := by decide +kernel
theorem dX0_heaviest_39 : decode cX0_heaviest 39 = .ok (.iload 8, 2) := by decide +kernel
theorem dX0_heaviest_41 : decode cX0_heaviest 41 = .ok (.istore 6, 2) := by decide +kernel
theorem dX0_heaviest_43 : decode cX0_heaviest 43 = .ok (.iload 7, 2) := by decide +kernel
theorem dX0_heaviest_45 : decode cX0_heaviest 45 = .ok (.istore 5, 2) := by decide +kernel
theorem dX0_heaviest_47 : decode cX0_heaviest 47 = .ok (.iinc 7 1, 3) := by decide +kernel
theorem dX0_heaviest_50 : decode cX0_heaviest 50 = .ok (.goto (-40), 3) := by decide +kernel
theorem dX0_heaviest_53 : decode cX0_heaviest 53 = .ok (.iload 5, 2) := by decide +kernel
theorem dX0_heaviest_55 : decode cX0_heaviest 55 = .ok (.ireturn, 1) := by decide +kernel
theorem dX1_init_0 : decode cX1_init 0 = .ok (.aload_n 0, 1) := by decide +kernel
theorem dX1_init_1 : decode cX1_init 1 = .ok (.invokespecial 3, 3) := by decide +kernel
theorem dX1_init_4 : decode cX1_init 4 = .ok (.aload_n 0, 1) := by decide +kernel
theorem dX1_init_5 : decode cX1_init 5 = .ok (.iconst 5, 1) := by decide +kernel
theorem dX1_init_6 : decode cX1_init 6 = .ok (.newarray .int, 2) := by decide +kernel
theorem dX1_init_8 : decode cX1_init 8 = .ok (.putfield 9, 3) := by decide +kernel
theorem dX1_init_11 : decode cX1_init 11 = .ok (.aload_n 0, 1) := by decide +kernel
theorem dX1_init_12 : decode cX1_init 12 = .ok (.iconst 5, 1) := by decide +kernel
theorem dX1_init_13 : decode cX1_init 13 = .ok (.newarray .int, 2) := by decide +kernel
theorem dX1_init_15 : decode cX1_init 15 = .ok (.putfield 15, 3) := by decide +kernel
theorem dX1_init_18 : decode cX1_init 18 = .ok (.aload_n 0, 1) := by decide +kernel
theorem dX1_init_19 : decode cX1_init 19 = .ok (.bipush 25, 2) := by decide +kernel
theorem dX1_init_21 : decode cX1_init 21 = .ok (.newarray .int, 2) := by decide +kernel
theorem dX1_init_23 : decode cX1_init 23 = .ok (.putfield 18, 3) := by decide +kernel
theorem dX1_init_26 : decode cX1_init 26 = .ok (.aload_n 0, 1) := by decide +kernel
theorem dX1_init_27 : decode cX1_init 27 = .ok (.bipush 32, 2) := by decide +kernel
theorem dX1_init_29 : decode cX1_init 29 = .ok (.newarray .int, 2) := by decide +kernel
theorem dX1_init_31 : decode cX1_init 31 = .ok (.putfield 21, 3) := by decide +kernel
theorem dX1_init_34 : decode cX1_init 34 = .ok (.aload_n 0, 1) := by decide +kernel
theorem dX1_init_35 : decode cX1_init 35 = .ok (.iconst 5, 1) := by decide +kernel
theorem dX1_init_36 : decode cX1_init 36 = .ok (.newarray .int, 2) := by decide +kernel
theorem dX1_init_38 : decode cX1_init 38 = .ok (.putfield 24, 3) := by decide +kernel
theorem dX1_init_41 : decode cX1_init 41 = .ok (.return_, 1) := by decide +kernel
theorem dX1_start_0 : decode cX1_start 0 = .ok (.aload_n 0, 1) := by decide +kernel
theorem dX1_start_1 : decode cX1_start 1 = .ok (.iconst 0, 1) := by decide +kernel
theorem dX1_start_2 : decode cX1_start 2 = .ok (.putfield 27, 3) := by decide +kernel
theorem dX1_start_5 : decode cX1_start 5 = .ok (.return_, 1) := by decide +kernel
theorem dX1_add_0 : decode cX1_add 0 = .ok (.aload_n 0, 1) := by decide +kernel
theorem dX1_add_1 : decode cX1_add 1 = .ok (.getfield 27, 3) := by decide +kernel
theorem dX1_add_4 : decode cX1_add 4 = .ok (.ifCond .lt 41, 3) := by decide +kernel
theorem dX1_add_7 : decode cX1_add 7 = .ok (.aload_n 0, 1) := by decide +kernel
theorem dX1_add_8 : decode cX1_add 8 = .ok (.getfield 27, 3) := by decide +kernel
theorem dX1_add_11 : decode cX1_add 11 = .ok (.iconst 5, 1) := by decide +kernel
theorem dX1_add_12 : decode cX1_add 12 = .ok (.if_icmp .ge 33, 3) := by decide +kernel
theorem dX1_add_15 : decode cX1_add 15 = .ok (.aload_n 0, 1) := by decide +kernel
theorem dX1_add_16 : decode cX1_add 16 = .ok (.getfield 9, 3) := by decide +kernel
theorem dX1_add_19 : decode cX1_add 19 = .ok (.aload_n 0, 1) := by decide +kernel
theorem dX1_add_20 : decode cX1_add 20 = .ok (.getfield 27, 3) := by decide +kernel
theorem dX1_add_23 : decode cX1_add 23 = .ok (.iload_n 1, 1) := by decide +kernel
theorem dX1_add_24 : decode cX1_add 24 = .ok (.iastore, 1) := by decide +kernel
theorem dX1_add_25 : decode cX1_add 25 = .ok (.aload_n 0, 1) := by decide +kernel
theorem dX1_add_26 : decode cX1_add 26 = .ok (.getfield 15, 3) := by decide +kernel
theorem dX1_add_29 : decode cX1_add 29 = .ok (.aload_n 0, 1) := by decide +kernel
theorem dX1_add_30 : decode cX1_add 30 = .ok (.getfield 27, 3) := by decide +kernel
theorem dX1_add_33 : decode cX1_add 33 = .ok (.iload_n 2, 1) := by decide +kernel
theorem dX1_add_34 : decode cX1_add 34 = .ok (.iastore, 1) := by decide +kernel
theorem dX1_add_35 : decode cX1_add 35 = .ok (.aload_n 0, 1) := by decide +kernel
theorem dX1_add_36 : decode cX1_add 36 = .ok (.dup, 1) := by decide +kernel
theorem dX1_add_37 : decode cX1_add 37 = .ok (.getfield 27, 3) := by decide +kernel
theorem dX1_add_40 : decode cX1_add 40 = .ok (.iconst 1, 1) := by decide +kernel
theorem dX1_add_41 : decode cX1_add 41 = .ok (.iadd, 1) := by decide +kernel
theorem dX1_add_42 : decode cX1_add 42 = .ok (.putfield 27, 3) := by decide +kernel
theorem dX1_add_45 : decode cX1_add 45 = .ok (.return_, 1) := by decide +kernel
theorem dX1_size_0 : decode cX1_size 0 = .ok (.aload_n 0, 1) := by decide +kernel
theorem dX1_size_1 : decode cX1_size 1 = .ok (.getfield 27, 3) := by decide +kernel
theorem dX1_size_4 : decode cX1_size 4 = .ok (.ireturn, 1) := by decide +kernel
theorem dX1_actorAt_0 : decode cX1_actorAt 0 = .ok (.iload_n 1, 1) := by decide +kernel
theorem dX1_actorAt_1 : decode cX1_actorAt 1 = .ok (.ifCond .lt 25, 3) := by decide +kernel
theorem dX1_actorAt_4 : decode cX1_actorAt 4 = .ok (.iload_n 1, 1) := by decide +kernel
theorem dX1_actorAt_5 : decode cX1_actorAt 5 = .ok (.aload_n 0, 1) := by decide +kernel
theorem dX1_actorAt_6 : decode cX1_actorAt 6 = .ok (.getfield 27, 3) := by decide +kernel
theorem dX1_actorAt_9 : decode cX1_actorAt 9 = .ok (.if_icmp .ge 17, 3) := by decide +kernel
theorem dX1_actorAt_12 : decode cX1_actorAt 12 = .ok (.iload_n 1, 1) := by decide +kernel
theorem dX1_actorAt_13 : decode cX1_actorAt 13 = .ok (.iconst 5, 1) := by decide +kernel
theorem dX1_actorAt_14 : decode cX1_actorAt 14 = .ok (.if_icmp .ge 12, 3) := by decide +kernel
theorem dX1_actorAt_17 : decode cX1_actorAt 17 = .ok (.aload_n 0, 1) := by decide +kernel
theorem dX1_actorAt_18 : decode cX1_actorAt 18 = .ok (.getfield 9, 3) := by decide +kernel
theorem dX1_actorAt_21 : decode cX1_actorAt 21 = .ok (.iload_n 1, 1) := by decide +kernel
theorem dX1_actorAt_22 : decode cX1_actorAt 22 = .ok (.iaload, 1) := by decide +kernel
theorem dX1_actorAt_23 : decode cX1_actorAt 23 = .ok (.goto 4, 3) := by decide +kernel
theorem dX1_actorAt_26 : decode cX1_actorAt 26 = .ok (.iconst 0, 1) := by decide +kernel
theorem dX1_actorAt_27 : decode cX1_actorAt 27 = .ok (.ireturn, 1) := by decide +kernel
theorem dX1_wordAt_0 : decode cX1_wordAt 0 = .ok (.iload_n 1, 1) := by decide +kernel
theorem dX1_wordAt_1 : decode cX1_wordAt 1 = .ok (.ifCond .lt 25, 3) := by decide +kernel
theorem dX1_wordAt_4 : decode cX1_wordAt 4 = .ok (.iload_n 1, 1) := by decide +kernel
theorem dX1_wordAt_5 : decode cX1_wordAt 5 = .ok (.aload_n 0, 1) := by decide +kernel
theorem dX1_wordAt_6 : decode cX1_wordAt 6 = .ok (.getfield 27, 3) := by decide +kernel
theorem dX1_wordAt_9 : decode cX1_wordAt 9 = .ok (.if_icmp .ge 17, 3) := by decide +kernel
theorem dX1_wordAt_12 : decode cX1_wordAt 12 = .ok (.iload_n 1, 1) := by decide +kernel
theorem dX1_wordAt_13 : decode cX1_wordAt 13 = .ok (.iconst 5, 1) := by decide +kernel
theorem dX1_wordAt_14 : decode cX1_wordAt 14 = .ok (.if_icmp .ge 12, 3) := by decide +kernel
theorem dX1_wordAt_17 : decode cX1_wordAt 17 = .ok (.aload_n 0, 1) := by decide +kernel
theorem dX1_wordAt_18 : decode cX1_wordAt 18 = .ok (.getfield 15, 3) := by decide +kernel
theorem dX1_wordAt_21 : decode cX1_wordAt 21 = .ok (.iload_n 1, 1) := by decide +kernel
theorem dX1_wordAt_22 : decode cX1_wordAt 22 = .ok (.iaload, 1) := by decide +kernel
theorem dX1_wordAt_23 : decode cX1_wordAt 23 = .ok (.goto 4, 3) := by decide +kernel
theorem dX1_wordAt_26 : decode cX1_wordAt 26 = .ok (.iconst 0, 1) := by decide +kernel
theorem dX1_wordAt_27 : decode cX1_wordAt 27 = .ok (.ireturn, 1) := by decide +kernel
theorem dX1_setCost_0 : decode cX1_setCost 0 = .ok (.iload_n 1, 1) := by decide +kernel
theorem dX1_setCost_1 : decode cX1_setCost 1 = .ok (.ifCond .lt 28, 3) := by decide +kernel
theorem dX1_setCost_4 : decode cX1_setCost 4 = .ok (.iload_n 1, 1) := by decide +kernel
theorem dX1_setCost_5 : decode cX1_setCost 5 = .ok (.iconst 5, 1) := by decide +kernel
theorem dX1_setCost_6 : decode cX1_setCost 6 = .ok (.if_icmp .ge 23, 3) := by decide +kernel
theorem dX1_setCost_9 : decode cX1_setCost 9 = .ok (.iload_n 2, 1) := by decide +kernel
theorem dX1_setCost_10 : decode cX1_setCost 10 = .ok (.ifCond .lt 19, 3) := by decide +kernel
theorem dX1_setCost_13 : decode cX1_setCost 13 = .ok (.iload_n 2, 1) := by decide +kernel
theorem dX1_setCost_14 : decode cX1_setCost 14 = .ok (.iconst 5, 1) := by decide +kernel
theorem dX1_setCost_15 : decode cX1_setCost 15 = .ok (.if_icmp .ge 14, 3) := by decide +kernel
theorem dX1_setCost_18 : decode cX1_setCost 18 = .ok (.aload_n 0, 1) := by decide +kernel
theorem dX1_setCost_19 : decode cX1_setCost 19 = .ok (.getfield 18, 3) := by decide +kernel
theorem dX1_setCost_22 : decode cX1_setCost 22 = .ok (.iload_n 1, 1) := by decide +kernel
theorem dX1_setCost_23 : decode cX1_setCost 23 = .ok (.iconst 5, 1) := by decide +kernel
theorem dX1_setCost_24 : decode cX1_setCost 24 = .ok (.imul, 1) := by decide +kernel
theorem dX1_setCost_25 : decode cX1_setCost 25 = .ok (.iload_n 2, 1) := by decide +kernel
theorem dX1_setCost_26 : decode cX1_setCost 26 = .ok (.iadd, 1) := by decide +kernel
theorem dX1_setCost_27 : decode cX1_setCost 27 = .ok (.iload_n 3, 1) := by decide +kernel
theorem dX1_setCost_28 : decode cX1_setCost 28 = .ok (.iastore, 1) := by decide +kernel
theorem dX1_setCost_29 : decode cX1_setCost 29 = .ok (.return_, 1) := by decide +kernel
theorem dX1_total_0 : decode cX1_total 0 = .ok (.iconst 1, 1) := by decide +kernel
theorem dX1_total_1 : decode cX1_total 1 = .ok (.aload_n 0, 1) := by decide +kernel
theorem dX1_total_2 : decode cX1_total 2 = .ok (.getfield 27, 3) := by decide +kernel
theorem dX1_total_5 : decode cX1_total 5 = .ok (.ishl, 1) := by decide +kernel
theorem dX1_total_6 : decode cX1_total 6 = .ok (.iconst 1, 1) := by decide +kernel
theorem dX1_total_7 : decode cX1_total 7 = .ok (.isub, 1) := by decide +kernel
theorem dX1_total_8 : decode cX1_total 8 = .ok (.istore_n 1, 1) := by decide +kernel
theorem dX1_total_9 : decode cX1_total 9 = .ok (.iload_n 1, 1) := by decide +kernel
theorem dX1_total_10 : decode cX1_total 10 = .ok (.ifCond .lt 21, 3) := by decide +kernel
theorem dX1_total_13 : decode cX1_total 13 = .ok (.iload_n 1, 1) := by decide +kernel
theorem dX1_total_14 : decode cX1_total 14 = .ok (.aload_n 0, 1) := by decide +kernel
theorem dX1_total_15 : decode cX1_total 15 = .ok (.getfield 21, 3) := by decide +kernel
theorem dX1_total_18 : decode cX1_total 18 = .ok (.arraylength, 1) := by decide +kernel
theorem dX1_total_19 : decode cX1_total 19 = .ok (.if_icmp .ge 12, 3) := by decide +kernel
theorem dX1_total_22 : decode cX1_total 22 = .ok (.aload_n 0, 1) := by decide +kernel
theorem dX1_total_23 : decode cX1_total 23 = .ok (.getfield 21, 3) := by decide +kernel
theorem dX1_total_26 : decode cX1_total 26 = .ok (.iload_n 1, 1) := by decide +kernel
theorem dX1_total_27 : decode cX1_total 27 = .ok (.iaload, 1) := by decide +kernel
theorem dX1_total_28 : decode cX1_total 28 = .ok (.goto 4, 3) := by decide +kernel
theorem dX1_total_31 : decode cX1_total 31 = .ok (.iconst 0, 1) := by decide +kernel
theorem dX1_total_32 : decode cX1_total 32 = .ok (.ireturn, 1) := by decide +kernel
theorem dX1_wordFor_0 : decode cX1_wordFor 0 = .ok (.iconst 0, 1) := by decide +kernel
theorem dX1_wordFor_1 : decode cX1_wordFor 1 = .ok (.istore_n 2, 1) := by decide +kernel
theorem dX1_wordFor_2 : decode cX1_wordFor 2 = .ok (.iload_n 2, 1) := by decide +kernel
theorem dX1_wordFor_3 : decode cX1_wordFor 3 = .ok (.aload_n 0, 1) := by decide +kernel
theorem dX1_wordFor_4 : decode cX1_wordFor 4 = .ok (.getfield 27, 3) := by decide +kernel
theorem dX1_wordFor_7 : decode cX1_wordFor 7 = .ok (.if_icmp .ge 35, 3) := by decide +kernel
theorem dX1_wordFor_10 : decode cX1_wordFor 10 = .ok (.iload_n 2, 1) := by decide +kernel
theorem dX1_wordFor_11 : decode cX1_wordFor 11 = .ok (.iconst 5, 1) := by decide +kernel
theorem dX1_wordFor_12 : decode cX1_wordFor 12 = .ok (.if_icmp .ge 30, 3) := by decide +kernel
theorem dX1_wordFor_15 : decode cX1_wordFor 15 = .ok (.aload_n 0, 1) := by decide +kernel
theorem dX1_wordFor_16 : decode cX1_wordFor 16 = .ok (.getfield 9, 3) := by decide +kernel
theorem dX1_wordFor_19 : decode cX1_wordFor 19 = .ok (.iload_n 2, 1) := by decide +kernel
theorem dX1_wordFor_20 : decode cX1_wordFor 20 = .ok (.iaload, 1) := by decide +kernel
theorem dX1_wordFor_21 : decode cX1_wordFor 21 = .ok (.iload_n 1, 1) := by decide +kernel
theorem dX1_wordFor_22 : decode cX1_wordFor 22 = .ok (.if_icmp .ne 14, 3) := by decide +kernel
theorem dX1_wordFor_25 : decode cX1_wordFor 25 = .ok (.aload_n 0, 1) := by decide +kernel
theorem dX1_wordFor_26 : decode cX1_wordFor 26 = .ok (.aload_n 0, 1) := by decide +kernel
theorem dX1_wordFor_27 : decode cX1_wordFor 27 = .ok (.getfield 24, 3) := by decide +kernel
theorem dX1_wordFor_30 : decode cX1_wordFor 30 = .ok (.iload_n 2, 1) := by decide +kernel
theorem dX1_wordFor_31 : decode cX1_wordFor 31 = .ok (.iaload, 1) := by decide +kernel
theorem dX1_wordFor_32 : decode cX1_wordFor 32 = .ok (.invokevirtual 31, 3) := by decide +kernel
theorem dX1_wordFor_35 : decode cX1_wordFor 35 = .ok (.ireturn, 1) := by decide +kernel
theorem dX1_wordFor_36 : decode cX1_wordFor 36 = .ok (.iinc 2 1, 3) := by decide +kernel
theorem dX1_wordFor_39 : decode cX1_wordFor 39 = .ok (.goto (-37), 3) := by decide +kernel
theorem dX1_wordFor_42 : decode cX1_wordFor 42 = .ok (.bipush (-4), 2) := by decide +kernel
theorem dX1_wordFor_44 : decode cX1_wordFor 44 = .ok (.ireturn, 1) := by decide +kernel
theorem dX1_settle_0 : decode cX1_settle 0 = .ok (.aload_n 0, 1) := by decide +kernel
theorem dX1_settle_1 : decode cX1_settle 1 = .ok (.getfield 21, 3) := by decide +kernel
theorem dX1_settle_4 : decode cX1_settle 4 = .ok (.iconst 0, 1) := by decide +kernel
theorem dX1_settle_5 : decode cX1_settle 5 = .ok (.iconst 0, 1) := by decide +kernel
theorem dX1_settle_6 : decode cX1_settle 6 = .ok (.iastore, 1) := by decide +kernel
theorem dX1_settle_7 : decode cX1_settle 7 = .ok (.iconst 1, 1) := by decide +kernel
theorem dX1_settle_8 : decode cX1_settle 8 = .ok (.istore_n 1, 1) := by decide +kernel
theorem dX1_settle_9 : decode cX1_settle 9 = .ok (.iload_n 1, 1) := by decide +kernel
theorem dX1_settle_10 : decode cX1_settle 10 = .ok (.iconst 1, 1) := by decide +kernel
theorem dX1_settle_11 : decode cX1_settle 11 = .ok (.aload_n 0, 1) := by decide +kernel
theorem dX1_settle_12 : decode cX1_settle 12 = .ok (.getfield 27, 3) := by decide +kernel
theorem dX1_settle_15 : decode cX1_settle 15 = .ok (.ishl, 1) := by decide +kernel
theorem dX1_settle_16 : decode cX1_settle 16 = .ok (.if_icmp .ge 34, 3) := by decide +kernel
theorem dX1_settle_19 : decode cX1_settle 19 = .ok (.iload_n 1, 1) := by decide +kernel
theorem dX1_settle_20 : decode cX1_settle 20 = .ok (.aload_n 0, 1) := by decide +kernel
theorem dX1_settle_21 : decode cX1_settle 21 = .ok (.getfield 21, 3) := by decide +kernel
theorem dX1_settle_24 : decode cX1_settle 24 = .ok (.arraylength, 1) := by decide +kernel
theorem dX1_settle_25 : decode cX1_settle 25 = .ok (.if_icmp .ge 25, 3) := by decide +kernel
theorem dX1_settle_28 : decode cX1_settle 28 = .ok (.aload_n 0, 1) := by decide +kernel
theorem dX1_settle_29 : decode cX1_settle 29 = .ok (.getfield 21, 3) := by decide +kernel
theorem dX1_settle_32 : decode cX1_settle 32 = .ok (.iload_n 1, 1) := by decide +kernel
theorem dX1_settle_33 : decode cX1_settle 33 = .ok (.aload_n 0, 1) := by decide +kernel
theorem dX1_settle_34 : decode cX1_settle 34 = .ok (.iload_n 1, 1) := by decide +kernel
theorem dX1_settle_35 : decode cX1_settle 35 = .ok (.aload_n 0, 1) := by decide +kernel
theorem dX1_settle_36 : decode cX1_settle 36 = .ok (.iload_n 1, 1) := by decide +kernel
theorem dX1_settle_37 : decode cX1_settle 37 = .ok (.invokevirtual 35, 3) := by decide +kernel
theorem dX1_settle_40 : decode cX1_settle 40 = .ok (.invokevirtual 38, 3) := by decide +kernel
theorem dX1_settle_43 : decode cX1_settle 43 = .ok (.iastore, 1) := by decide +kernel
theorem dX1_settle_44 : decode cX1_settle 44 = .ok (.iinc 1 1, 3) := by decide +kernel
theorem dX1_settle_47 : decode cX1_settle 47 = .ok (.goto (-38), 3) := by decide +kernel
theorem dX1_settle_50 : decode cX1_settle 50 = .ok (.iconst 1, 1) := by decide +kernel
theorem dX1_settle_51 : decode cX1_settle 51 = .ok (.aload_n 0, 1) := by decide +kernel
theorem dX1_settle_52 : decode cX1_settle 52 = .ok (.getfield 27, 3) := by decide +kernel
theorem dX1_settle_55 : decode cX1_settle 55 = .ok (.ishl, 1) := by decide +kernel
theorem dX1_settle_56 : decode cX1_settle 56 = .ok (.iconst 1, 1) := by decide +kernel
theorem dX1_settle_57 : decode cX1_settle 57 = .ok (.isub, 1) := by decide +kernel
theorem dX1_settle_58 : decode cX1_settle 58 = .ok (.istore_n 1, 1) := by decide +kernel
theorem dX1_settle_59 : decode cX1_settle 59 = .ok (.iconst 0, 1) := by decide +kernel
theorem dX1_settle_60 : decode cX1_settle 60 = .ok (.istore_n 2, 1) := by decide +kernel
theorem dX1_settle_61 : decode cX1_settle 61 = .ok (.iload_n 2, 1) := by decide +kernel
theorem dX1_settle_62 : decode cX1_settle 62 = .ok (.aload_n 0, 1) := by decide +kernel
theorem dX1_settle_63 : decode cX1_settle 63 = .ok (.getfield 27, 3) := by decide +kernel
theorem dX1_settle_66 : decode cX1_settle 66 = .ok (.if_icmp .ge 38, 3) := by decide +kernel
theorem dX1_settle_69 : decode cX1_settle 69 = .ok (.iload_n 2, 1) := by decide +kernel
theorem dX1_settle_70 : decode cX1_settle 70 = .ok (.iconst 5, 1) := by decide +kernel
theorem dX1_settle_71 : decode cX1_settle 71 = .ok (.if_icmp .ge 33, 3) := by decide +kernel
theorem dX1_settle_74 : decode cX1_settle 74 = .ok (.aload_n 0, 1) := by decide +kernel
theorem dX1_settle_75 : decode cX1_settle 75 = .ok (.getfield 24, 3) := by decide +kernel
theorem dX1_settle_78 : decode cX1_settle 78 = .ok (.iload_n 2, 1) := by decide +kernel
theorem dX1_settle_79 : decode cX1_settle 79 = .ok (.aload_n 0, 1) := by decide +kernel
theorem dX1_settle_80 : decode cX1_settle 80 = .ok (.iload_n 1, 1) := by decide +kernel
theorem dX1_settle_81 : decode cX1_settle 81 = .ok (.invokevirtual 35, 3) := by decide +kernel
theorem dX1_settle_84 : decode cX1_settle 84 = .ok (.iastore, 1) := by decide +kernel
theorem dX1_settle_85 : decode cX1_settle 85 = .ok (.iload_n 1, 1) := by decide +kernel
theorem dX1_settle_86 : decode cX1_settle 86 = .ok (.iconst 1, 1) := by decide +kernel
theorem dX1_settle_87 : decode cX1_settle 87 = .ok (.aload_n 0, 1) := by decide +kernel
theorem dX1_settle_88 : decode cX1_settle 88 = .ok (.getfield 24, 3) := by decide +kernel
theorem dX1_settle_91 : decode cX1_settle 91 = .ok (.iload_n 2, 1) := by decide +kernel
theorem dX1_settle_92 : decode cX1_settle 92 = .ok (.iaload, 1) := by decide +kernel
theorem dX1_settle_93 : decode cX1_settle 93 = .ok (.ishl, 1) := by decide +kernel
theorem dX1_settle_94 : decode cX1_settle 94 = .ok (.iconst (-1), 1) := by decide +kernel
theorem dX1_settle_95 : decode cX1_settle 95 = .ok (.ixor, 1) := by decide +kernel
theorem dX1_settle_96 : decode cX1_settle 96 = .ok (.iand, 1) := by decide +kernel
theorem dX1_settle_97 : decode cX1_settle 97 = .ok (.istore_n 1, 1) := by decide +kernel
theorem dX1_settle_98 : decode cX1_settle 98 = .ok (.iinc 2 1, 3) := by decide +kernel
theorem dX1_settle_101 : decode cX1_settle 101 = .ok (.goto (-40), 3) := by decide +kernel
theorem dX1_settle_104 : decode cX1_settle 104 = .ok (.return_, 1) := by decide +kernel
theorem dX1_firstOfBest_0 : decode cX1_firstOfBest 0 = .ok (.bipush (-4), 2) := by decide +kernel
theorem dX1_firstOfBest_2 : decode cX1_firstOfBest 2 = .ok (.istore_n 2, 1) := by decide +kernel
theorem dX1_firstOfBest_3 : decode cX1_firstOfBest 3 = .ok (.iconst 0, 1) := by decide +kernel
theorem dX1_firstOfBest_4 : decode cX1_firstOfBest 4 = .ok (.istore_n 3, 1) := by decide +kernel
theorem dX1_firstOfBest_5 : decode cX1_firstOfBest 5 = .ok (.iload_n 3, 1) := by decide +kernel
theorem dX1_firstOfBest_6 : decode cX1_firstOfBest 6 = .ok (.aload_n 0, 1) := by decide +kernel
theorem dX1_firstOfBest_7 : decode cX1_firstOfBest 7 = .ok (.getfield 27, 3) := by decide +kernel
theorem dX1_firstOfBest_10 : decode cX1_firstOfBest 10 = .ok (.if_icmp .ge 41, 3) := by decide +kernel
theorem dX1_firstOfBest_13 : decode cX1_firstOfBest 13 = .ok (.iload_n 1, 1) := by decide +kernel
theorem dX1_firstOfBest_14 : decode cX1_firstOfBest 14 = .ok (.iload_n 3, 1) := by decide +kernel
theorem dX1_firstOfBest_15 : decode cX1_firstOfBest 15 = .ok (.ishr, 1) := by decide +kernel
theorem dX1_firstOfBest_16 : decode cX1_firstOfBest 16 = .ok (.iconst 1, 1) := by decide +kernel
theorem dX1_firstOfBest_17 : decode cX1_firstOfBest 17 = .ok (.iand, 1) := by decide +kernel
theorem dX1_firstOfBest_18 : decode cX1_firstOfBest 18 = .ok (.iconst 1, 1) := by decide +kernel
theorem dX1_firstOfBest_19 : decode cX1_firstOfBest 19 = .ok (.if_icmp .ne 26, 3) := by decide +kernel
theorem dX1_firstOfBest_22 : decode cX1_firstOfBest 22 = .ok (.iload_n 2, 1) := by decide +kernel
theorem dX1_firstOfBest_23 : decode cX1_firstOfBest 23 = .ok (.bipush (-4), 2) := by decide +kernel
theorem dX1_firstOfBest_25 : decode cX1_firstOfBest 25 = .ok (.if_icmp .eq 18, 3) := by decide +kernel
theorem dX1_firstOfBest_28 : decode cX1_firstOfBest 28 = .ok (.aload_n 0, 1) := by decide +kernel
theorem dX1_firstOfBest_29 : decode cX1_firstOfBest 29 = .ok (.iload_n 1, 1) := by decide +kernel
theorem dX1_firstOfBest_30 : decode cX1_firstOfBest 30 = .ok (.iload_n 3, 1) := by decide +kernel
theorem dX1_firstOfBest_31 : decode cX1_firstOfBest 31 = .ok (.invokevirtual 38, 3) := by decide +kernel
theorem dX1_firstOfBest_34 : decode cX1_firstOfBest 34 = .ok (.aload_n 0, 1) := by decide +kernel
theorem dX1_firstOfBest_35 : decode cX1_firstOfBest 35 = .ok (.iload_n 1, 1) := by decide +kernel
theorem dX1_firstOfBest_36 : decode cX1_firstOfBest 36 = .ok (.iload_n 2, 1) := by decide +kernel
theorem dX1_firstOfBest_37 : decode cX1_firstOfBest 37 = .ok (.invokevirtual 38, 3) := by decide +kernel
theorem dX1_firstOfBest_40 : decode cX1_firstOfBest 40 = .ok (.if_icmp .ge 5, 3) := by decide +kernel
theorem dX1_firstOfBest_43 : decode cX1_firstOfBest 43 = .ok (.iload_n 3, 1) := by decide +kernel
theorem dX1_firstOfBest_44 : decode cX1_firstOfBest 44 = .ok (.istore_n 2, 1) := by decide +kernel
theorem dX1_firstOfBest_45 : decode cX1_firstOfBest 45 = .ok (.iinc 3 1, 3) := by decide +kernel
theorem dX1_firstOfBest_48 : decode cX1_firstOfBest 48 = .ok (.goto (-43), 3) := by decide +kernel
theorem dX1_firstOfBest_51 : decode cX1_firstOfBest 51 = .ok (.iload_n 2, 1) := by decide +kernel
theorem dX1_firstOfBest_52 : decode cX1_firstOfBest 52 = .ok (.ireturn, 1) := by decide +kernel
theorem dX1_sumWith_0 : decode cX1_sumWith 0 = .ok (.aload_n 0, 1) := by decide +kernel
theorem dX1_sumWith_1 : decode cX1_sumWith 1 = .ok (.getfield 27, 3) := by decide +kernel
theorem dX1_sumWith_4 : decode cX1_sumWith 4 = .ok (.iload_n 1, 1) := by decide +kernel
theorem dX1_sumWith_5 : decode cX1_sumWith 5 = .ok (.invokestatic 42, 3) := by decide +kernel
theorem dX1_sumWith_8 : decode cX1_sumWith 8 = .ok (.isub, 1) := by decide +kernel
theorem dX1_sumWith_9 : decode cX1_sumWith 9 = .ok (.istore_n 3, 1) := by decide +kernel
theorem dX1_sumWith_10 : decode cX1_sumWith 10 = .ok (.iload_n 1, 1) := by decide +kernel
theorem dX1_sumWith_11 : decode cX1_sumWith 11 = .ok (.iconst 1, 1) := by decide +kernel
theorem dX1_sumWith_12 : decode cX1_sumWith 12 = .ok (.iload_n 2, 1) := by decide +kernel
theorem dX1_sumWith_13 : decode cX1_sumWith 13 = .ok (.ishl, 1) := by decide +kernel
theorem dX1_sumWith_14 : decode cX1_sumWith 14 = .ok (.iconst (-1), 1) := by decide +kernel
theorem dX1_sumWith_15 : decode cX1_sumWith 15 = .ok (.ixor, 1) := by decide +kernel
theorem dX1_sumWith_16 : decode cX1_sumWith 16 = .ok (.iand, 1) := by decide +kernel
theorem dX1_sumWith_17 : decode cX1_sumWith 17 = .ok (.istore 4, 2) := by decide +kernel
theorem dX1_sumWith_19 : decode cX1_sumWith 19 = .ok (.iload_n 3, 1) := by decide +kernel
theorem dX1_sumWith_20 : decode cX1_sumWith 20 = .ok (.iconst 5, 1) := by decide +kernel
theorem dX1_sumWith_21 : decode cX1_sumWith 21 = .ok (.imul, 1) := by decide +kernel
theorem dX1_sumWith_22 : decode cX1_sumWith 22 = .ok (.iload_n 2, 1) := by decide +kernel
theorem dX1_sumWith_23 : decode cX1_sumWith 23 = .ok (.iadd, 1) := by decide +kernel
theorem dX1_sumWith_24 : decode cX1_sumWith 24 = .ok (.istore 5, 2) := by decide +kernel
theorem dX1_sumWith_26 : decode cX1_sumWith 26 = .ok (.iload 5, 2) := by decide +kernel
theorem dX1_sumWith_28 : decode cX1_sumWith 28 = .ok (.ifCond .lt 46, 3) := by decide +kernel
theorem dX1_sumWith_31 : decode cX1_sumWith 31 = .ok (.iload 5, 2) := by decide +kernel
theorem dX1_sumWith_33 : decode cX1_sumWith 33 = .ok (.aload_n 0, 1) := by decide +kernel
theorem dX1_sumWith_34 : decode cX1_sumWith 34 = .ok (.getfield 18, 3) := by decide +kernel
theorem dX1_sumWith_37 : decode cX1_sumWith 37 = .ok (.arraylength, 1) := by decide +kernel
theorem dX1_sumWith_38 : decode cX1_sumWith 38 = .ok (.if_icmp .ge 36, 3) := by decide +kernel
theorem dX1_sumWith_41 : decode cX1_sumWith 41 = .ok (.iload 4, 2) := by decide +kernel
theorem dX1_sumWith_43 : decode cX1_sumWith 43 = .ok (.ifCond .lt 31, 3) := by decide +kernel
theorem dX1_sumWith_46 : decode cX1_sumWith 46 = .ok (.iload 4, 2) := by decide +kernel
theorem dX1_sumWith_48 : decode cX1_sumWith 48 = .ok (.aload_n 0, 1) := by decide +kernel
theorem dX1_sumWith_49 : decode cX1_sumWith 49 = .ok (.getfield 21, 3) := by decide +kernel
theorem dX1_sumWith_52 : decode cX1_sumWith 52 = .ok (.arraylength, 1) := by decide +kernel
theorem dX1_sumWith_53 : decode cX1_sumWith 53 = .ok (.if_icmp .ge 21, 3) := by decide +kernel
theorem dX1_sumWith_56 : decode cX1_sumWith 56 = .ok (.aload_n 0, 1) := by decide +kernel
theorem dX1_sumWith_57 : decode cX1_sumWith 57 = .ok (.getfield 18, 3) := by decide +kernel
theorem dX1_sumWith_60 : decode cX1_sumWith 60 = .ok (.iload 5, 2) := by decide +kernel
theorem dX1_sumWith_62 : decode cX1_sumWith 62 = .ok (.iaload, 1) := by decide +kernel
theorem dX1_sumWith_63 : decode cX1_sumWith 63 = .ok (.aload_n 0, 1) := by decide +kernel
theorem dX1_sumWith_64 : decode cX1_sumWith 64 = .ok (.getfield 21, 3) := by decide +kernel
theorem dX1_sumWith_67 : decode cX1_sumWith 67 = .ok (.iload 4, 2) := by decide +kernel
theorem dX1_sumWith_69 : decode cX1_sumWith 69 = .ok (.iaload, 1) := by decide +kernel
theorem dX1_sumWith_70 : decode cX1_sumWith 70 = .ok (.iadd, 1) := by decide +kernel
theorem dX1_sumWith_71 : decode cX1_sumWith 71 = .ok (.goto 4, 3) := by decide +kernel
theorem dX1_sumWith_74 : decode cX1_sumWith 74 = .ok (.iconst 0, 1) := by decide +kernel
theorem dX1_sumWith_75 : decode cX1_sumWith 75 = .ok (.ireturn, 1) := by decide +kernel
theorem dX2_init_0 : decode cX2_init 0 = .ok (.aload_n 0, 1) := by decide +kernel
theorem dX2_init_1 : decode cX2_init 1 = .ok (.invokespecial 3, 3) := by decide +kernel
theorem dX2_init_4 : decode cX2_init 4 = .ok (.aload_n 0, 1) := by decide +kernel
theorem dX2_init_5 : decode cX2_init 5 = .ok (.iconst 5, 1) := by decide +kernel
theorem dX2_init_6 : decode cX2_init 6 = .ok (.newarray .int, 2) := by decide +kernel
theorem dX2_init_8 : decode cX2_init 8 = .ok (.putfield 9, 3) := by decide +kernel
theorem dX2_init_11 : decode cX2_init 11 = .ok (.aload_n 0, 1) := by decide +kernel
theorem dX2_init_12 : decode cX2_init 12 = .ok (.iconst 5, 1) := by decide +kernel
theorem dX2_init_13 : decode cX2_init 13 = .ok (.newarray .int, 2) := by decide +kernel
theorem dX2_init_15 : decode cX2_init 15 = .ok (.putfield 15, 3) := by decide +kernel
theorem dX2_init_18 : decode cX2_init 18 = .ok (.return_, 1) := by decide +kernel
theorem dX2_start_0 : decode cX2_start 0 = .ok (.aload_n 0, 1) := by decide +kernel
theorem dX2_start_1 : decode cX2_start 1 = .ok (.iconst 0, 1) := by decide +kernel
theorem dX2_start_2 : decode cX2_start 2 = .ok (.putfield 18, 3) := by decide +kernel
theorem dX2_start_5 : decode cX2_start 5 = .ok (.return_, 1) := by decide +kernel
theorem dX2_add_0 : decode cX2_add 0 = .ok (.aload_n 0, 1) := by decide +kernel
theorem dX2_add_1 : decode cX2_add 1 = .ok (.getfield 18, 3) := by decide +kernel
theorem dX2_add_4 : decode cX2_add 4 = .ok (.ifCond .lt 11, 3) := by decide +kernel
theorem dX2_add_7 : decode cX2_add 7 = .ok (.aload_n 0, 1) := by decide +kernel
theorem dX2_add_8 : decode cX2_add 8 = .ok (.getfield 18, 3) := by decide +kernel
theorem dX2_add_11 : decode cX2_add 11 = .ok (.iconst 5, 1) := by decide +kernel
theorem dX2_add_12 : decode cX2_add 12 = .ok (.if_icmp .lt 4, 3) := by decide +kernel
theorem dX2_add_15 : decode cX2_add 15 = .ok (.return_, 1) := by decide +kernel
theorem dX2_add_16 : decode cX2_add 16 = .ok (.aload_n 0, 1) := by decide +kernel
theorem dX2_add_17 : decode cX2_add 17 = .ok (.getfield 18, 3) := by decide +kernel
theorem dX2_add_20 : decode cX2_add 20 = .ok (.istore_n 3, 1) := by decide +kernel
theorem dX2_add_21 : decode cX2_add 21 = .ok (.iload_n 3, 1) := by decide +kernel
theorem dX2_add_22 : decode cX2_add 22 = .ok (.ifCond .le 49, 3) := by decide +kernel
theorem dX2_add_25 : decode cX2_add 25 = .ok (.aload_n 0, 1) := by decide +kernel
theorem dX2_add_26 : decode cX2_add 26 = .ok (.getfield 15, 3) := by decide +kernel
theorem dX2_add_29 : decode cX2_add 29 = .ok (.iload_n 3, 1) := by decide +kernel
theorem dX2_add_30 : decode cX2_add 30 = .ok (.iconst 1, 1) := by decide +kernel
theorem dX2_add_31 : decode cX2_add 31 = .ok (.isub, 1) := by decide +kernel
theorem dX2_add_32 : decode cX2_add 32 = .ok (.iaload, 1) := by decide +kernel
theorem dX2_add_33 : decode cX2_add 33 = .ok (.iload_n 2, 1) := by decide +kernel
theorem dX2_add_34 : decode cX2_add 34 = .ok (.if_icmp .le 37, 3) := by decide +kernel
theorem dX2_add_37 : decode cX2_add 37 = .ok (.aload_n 0, 1) := by decide +kernel
theorem dX2_add_38 : decode cX2_add 38 = .ok (.getfield 9, 3) := by decide +kernel
theorem dX2_add_41 : decode cX2_add 41 = .ok (.iload_n 3, 1) := by decide +kernel
theorem dX2_add_42 : decode cX2_add 42 = .ok (.aload_n 0, 1) := by decide +kernel
theorem dX2_add_43 : decode cX2_add 43 = .ok (.getfield 9, 3) := by decide +kernel
theorem dX2_add_46 : decode cX2_add 46 = .ok (.iload_n 3, 1) := by decide +kernel
theorem dX2_add_47 : decode cX2_add 47 = .ok (.iconst 1, 1) := by decide +kernel
theorem dX2_add_48 : decode cX2_add 48 = .ok (.isub, 1) := by decide +kernel
theorem dX2_add_49 : decode cX2_add 49 = .ok (.iaload, 1) := by decide +kernel
theorem dX2_add_50 : decode cX2_add 50 = .ok (.iastore, 1) := by decide +kernel
theorem dX2_add_51 : decode cX2_add 51 = .ok (.aload_n 0, 1) := by decide +kernel
theorem dX2_add_52 : decode cX2_add 52 = .ok (.getfield 15, 3) := by decide +kernel
theorem dX2_add_55 : decode cX2_add 55 = .ok (.iload_n 3, 1) := by decide +kernel
theorem dX2_add_56 : decode cX2_add 56 = .ok (.aload_n 0, 1) := by decide +kernel
theorem dX2_add_57 : decode cX2_add 57 = .ok (.getfield 15, 3) := by decide +kernel
theorem dX2_add_60 : decode cX2_add 60 = .ok (.iload_n 3, 1) := by decide +kernel
theorem dX2_add_61 : decode cX2_add 61 = .ok (.iconst 1, 1) := by decide +kernel
theorem dX2_add_62 : decode cX2_add 62 = .ok (.isub, 1) := by decide +kernel
theorem dX2_add_63 : decode cX2_add 63 = .ok (.iaload, 1) := by decide +kernel
theorem dX2_add_64 : decode cX2_add 64 = .ok (.iastore, 1) := by decide +kernel
theorem dX2_add_65 : decode cX2_add 65 = .ok (.iinc 3 (-1), 3) := by decide +kernel
theorem dX2_add_68 : decode cX2_add 68 = .ok (.goto (-47), 3) := by decide +kernel
theorem dX2_add_71 : decode cX2_add 71 = .ok (.aload_n 0, 1) := by decide +kernel
theorem dX2_add_72 : decode cX2_add 72 = .ok (.getfield 9, 3) := by decide +kernel
theorem dX2_add_75 : decode cX2_add 75 = .ok (.iload_n 3, 1) := by decide +kernel
theorem dX2_add_76 : decode cX2_add 76 = .ok (.iload_n 1, 1) := by decide +kernel
theorem dX2_add_77 : decode cX2_add 77 = .ok (.iastore, 1) := by decide +kernel
theorem dX2_add_78 : decode cX2_add 78 = .ok (.aload_n 0, 1) := by decide +kernel
theorem dX2_add_79 : decode cX2_add 79 = .ok (.getfield 15, 3) := by decide +kernel
theorem dX2_add_82 : decode cX2_add 82 = .ok (.iload_n 3, 1) := by decide +kernel
theorem dX2_add_83 : decode cX2_add 83 = .ok (.iload_n 2, 1) := by decide +kernel
theorem dX2_add_84 : decode cX2_add 84 = .ok (.iastore, 1) := by decide +kernel
theorem dX2_add_85 : decode cX2_add 85 = .ok (.aload_n 0, 1) := by decide +kernel
theorem dX2_add_86 : decode cX2_add 86 = .ok (.dup, 1) := by decide +kernel
theorem dX2_add_87 : decode cX2_add 87 = .ok (.getfield 18, 3) := by decide +kernel
theorem dX2_add_90 : decode cX2_add 90 = .ok (.iconst 1, 1) := by decide +kernel
theorem dX2_add_91 : decode cX2_add 91 = .ok (.iadd, 1) := by decide +kernel
theorem dX2_add_92 : decode cX2_add 92 = .ok (.putfield 18, 3) := by decide +kernel
theorem dX2_add_95 : decode cX2_add 95 = .ok (.return_, 1) := by decide +kernel
theorem dX2_actorAt_0 : decode cX2_actorAt 0 = .ok (.iload_n 1, 1) := by decide +kernel
theorem dX2_actorAt_1 : decode cX2_actorAt 1 = .ok (.ifCond .lt 25, 3) := by decide +kernel
theorem dX2_actorAt_4 : decode cX2_actorAt 4 = .ok (.iload_n 1, 1) := by decide +kernel
theorem dX2_actorAt_5 : decode cX2_actorAt 5 = .ok (.aload_n 0, 1) := by decide +kernel
theorem dX2_actorAt_6 : decode cX2_actorAt 6 = .ok (.getfield 18, 3) := by decide +kernel
theorem dX2_actorAt_9 : decode cX2_actorAt 9 = .ok (.if_icmp .ge 17, 3) := by decide +kernel
theorem dX2_actorAt_12 : decode cX2_actorAt 12 = .ok (.iload_n 1, 1) := by decide +kernel
theorem dX2_actorAt_13 : decode cX2_actorAt 13 = .ok (.iconst 5, 1) := by decide +kernel
theorem dX2_actorAt_14 : decode cX2_actorAt 14 = .ok (.if_icmp .ge 12, 3) := by decide +kernel
theorem dX2_actorAt_17 : decode cX2_actorAt 17 = .ok (.aload_n 0, 1) := by decide +kernel
theorem dX2_actorAt_18 : decode cX2_actorAt 18 = .ok (.getfield 9, 3) := by decide +kernel
theorem dX2_actorAt_21 : decode cX2_actorAt 21 = .ok (.iload_n 1, 1) := by decide +kernel
theorem dX2_actorAt_22 : decode cX2_actorAt 22 = .ok (.iaload, 1) := by decide +kernel
theorem dX2_actorAt_23 : decode cX2_actorAt 23 = .ok (.goto 5, 3) := by decide +kernel
theorem dX2_actorAt_26 : decode cX2_actorAt 26 = .ok (.bipush (-4), 2) := by decide +kernel
theorem dX2_actorAt_28 : decode cX2_actorAt 28 = .ok (.ireturn, 1) := by decide +kernel
theorem dX2_waited_0 : decode cX2_waited 0 = .ok (.iconst 0, 1) := by decide +kernel
theorem dX2_waited_1 : decode cX2_waited 1 = .ok (.istore_n 1, 1) := by decide +kernel
theorem dX2_waited_2 : decode cX2_waited 2 = .ok (.iconst 0, 1) := by decide +kernel
theorem dX2_waited_3 : decode cX2_waited 3 = .ok (.istore_n 2, 1) := by decide +kernel
theorem dX2_waited_4 : decode cX2_waited 4 = .ok (.iconst 0, 1) := by decide +kernel
theorem dX2_waited_5 : decode cX2_waited 5 = .ok (.istore_n 3, 1) := by decide +kernel
theorem dX2_waited_6 : decode cX2_waited 6 = .ok (.iload_n 3, 1) := by decide +kernel
theorem dX2_waited_7 : decode cX2_waited 7 = .ok (.aload_n 0, 1) := by decide +kernel
theorem dX2_waited_8 : decode cX2_waited 8 = .ok (.getfield 18, 3) := by decide +kernel
theorem dX2_waited_11 : decode cX2_waited 11 = .ok (.if_icmp .ge 27, 3) := by decide +kernel
theorem dX2_waited_14 : decode cX2_waited 14 = .ok (.iload_n 3, 1) := by decide +kernel
theorem dX2_waited_15 : decode cX2_waited 15 = .ok (.iconst 5, 1) := by decide +kernel
theorem dX2_waited_16 : decode cX2_waited 16 = .ok (.if_icmp .ge 22, 3) := by decide +kernel
theorem dX2_waited_19 : decode cX2_waited 19 = .ok (.iload_n 1, 1) := by decide +kernel
theorem dX2_waited_20 : decode cX2_waited 20 = .ok (.iload_n 2, 1) := by decide +kernel
theorem dX2_waited_21 : decode cX2_waited 21 = .ok (.iadd, 1) := by decide +kernel
theorem dX2_waited_22 : decode cX2_waited 22 = .ok (.istore_n 1, 1) := by decide +kernel
theorem dX2_waited_23 : decode cX2_waited 23 = .ok (.iload_n 2, 1) := by decide +kernel
theorem dX2_waited_24 : decode cX2_waited 24 = .ok (.aload_n 0, 1) := by decide +kernel
theorem dX2_waited_25 : decode cX2_waited 25 = .ok (.getfield 15, 3) := by decide +kernel
theorem dX2_waited_28 : decode cX2_waited 28 = .ok (.iload_n 3, 1) := by decide +kernel
theorem dX2_waited_29 : decode cX2_waited 29 = .ok (.iaload, 1) := by decide +kernel
theorem dX2_waited_30 : decode cX2_waited 30 = .ok (.iadd, 1) := by decide +kernel
theorem dX2_waited_31 : decode cX2_waited 31 = .ok (.istore_n 2, 1) := by decide +kernel
theorem dX2_waited_32 : decode cX2_waited 32 = .ok (.iinc 3 1, 3) := by decide +kernel
theorem dX2_waited_35 : decode cX2_waited 35 = .ok (.goto (-29), 3) := by decide +kernel
theorem dX2_waited_38 : decode cX2_waited 38 = .ok (.iload_n 1, 1) := by decide +kernel
theorem dX2_waited_39 : decode cX2_waited 39 = .ok (.ireturn, 1) := by decide +kernel
theorem dX3_init_0 : decode cX3_init 0 = .ok (.aload_n 0, 1) := by decide +kernel
theorem dX3_init_1 : decode cX3_init 1 = .ok (.invokespecial 3, 3) := by decide +kernel
theorem dX3_init_4 : decode cX3_init 4 = .ok (.aload_n 0, 1) := by decide +kernel
theorem dX3_init_5 : decode cX3_init 5 = .ok (.iconst 0, 1) := by decide +kernel
theorem dX3_init_6 : decode cX3_init 6 = .ok (.newarray .int, 2) := by decide +kernel
theorem dX3_init_8 : decode cX3_init 8 = .ok (.putfield 9, 3) := by decide +kernel
theorem dX3_init_11 : decode cX3_init 11 = .ok (.return_, 1) := by decide +kernel
theorem dX3_firstFault_0 : decode cX3_firstFault 0 = .ok (.aload_n 0, 1) := by decide +kernel
theorem dX3_firstFault_1 : decode cX3_firstFault 1 = .ok (.aload_n 1, 1) := by decide +kernel
theorem dX3_firstFault_2 : decode cX3_firstFault 2 = .ok (.putfield 9, 3) := by decide +kernel
theorem dX3_firstFault_5 : decode cX3_firstFault 5 = .ok (.aload_n 0, 1) := by decide +kernel
theorem dX3_firstFault_6 : decode cX3_firstFault 6 = .ok (.iload_n 2, 1) := by decide +kernel
theorem dX3_firstFault_7 : decode cX3_firstFault 7 = .ok (.aload_n 1, 1) := by decide +kernel
theorem dX3_firstFault_8 : decode cX3_firstFault 8 = .ok (.arraylength, 1) := by decide +kernel
theorem dX3_firstFault_9 : decode cX3_firstFault 9 = .ok (.invokestatic 15, 3) := by decide +kernel
theorem dX3_firstFault_12 : decode cX3_firstFault 12 = .ok (.putfield 21, 3) := by decide +kernel
theorem dX3_firstFault_15 : decode cX3_firstFault 15 = .ok (.aload_n 0, 1) := by decide +kernel
theorem dX3_firstFault_16 : decode cX3_firstFault 16 = .ok (.iconst 0, 1) := by decide +kernel
theorem dX3_firstFault_17 : decode cX3_firstFault 17 = .ok (.putfield 25, 3) := by decide +kernel
theorem dX3_firstFault_20 : decode cX3_firstFault 20 = .ok (.aload_n 3, 1) := by decide +kernel
theorem dX3_firstFault_21 : decode cX3_firstFault 21 = .ok (.invokevirtual 28, 3) := by decide +kernel
theorem dX3_firstFault_24 : decode cX3_firstFault 24 = .ok (.iconst 0, 1) := by decide +kernel
theorem dX3_firstFault_25 : decode cX3_firstFault 25 = .ok (.istore 5, 2) := by decide +kernel
theorem dX3_firstFault_27 : decode cX3_firstFault 27 = .ok (.iload 5, 2) := by decide +kernel
theorem dX3_firstFault_29 : decode cX3_firstFault 29 = .ok (.sipush 200, 3) := by decide +kernel
theorem dX3_firstFault_32 : decode cX3_firstFault 32 = .ok (.if_icmp .ge 39, 3) := by decide +kernel
theorem dX3_firstFault_35 : decode cX3_firstFault 35 = .ok (.aload_n 0, 1) := by decide +kernel
theorem dX3_firstFault_36 : decode cX3_firstFault 36 = .ok (.getfield 25, 3) := by decide +kernel
theorem dX3_firstFault_39 : decode cX3_firstFault 39 = .ok (.aload_n 0, 1) := by decide +kernel
theorem dX3_firstFault_40 : decode cX3_firstFault 40 = .ok (.getfield 21, 3) := by decide +kernel
theorem dX3_firstFault_43 : decode cX3_firstFault 43 = .ok (.if_icmp .ge 28, 3) := by decide +kernel
theorem dX3_firstFault_46 : decode cX3_firstFault 46 = .ok (.aload_n 0, 1) := by decide +kernel
theorem dX3_firstFault_47 : decode cX3_firstFault 47 = .ok (.getfield 25, 3) := by decide +kernel
theorem dX3_firstFault_50 : decode cX3_firstFault 50 = .ok (.istore 6, 2) := by decide +kernel
theorem dX3_firstFault_52 : decode cX3_firstFault 52 = .ok (.aload_n 0, 1) := by decide +kernel
theorem dX3_firstFault_53 : decode cX3_firstFault 53 = .ok (.aload_n 3, 1) := by decide +kernel
theorem dX3_firstFault_54 : decode cX3_firstFault 54 = .ok (.aload 4, 2) := by decide +kernel
theorem dX3_firstFault_56 : decode cX3_firstFault 56 = .ok (.invokevirtual 33, 3) := by decide +kernel
theorem dX3_firstFault_59 : decode cX3_firstFault 59 = .ok (.ifCond .ne 6, 3) := by decide +kernel
theorem dX3_firstFault_62 : decode cX3_firstFault 62 = .ok (.iload 6, 2) := by decide +kernel
theorem dX3_firstFault_64 : decode cX3_firstFault 64 = .ok (.ireturn, 1) := by decide +kernel
theorem dX3_firstFault_65 : decode cX3_firstFault 65 = .ok (.iinc 5 1, 3) := by decide +kernel
theorem dX3_firstFault_68 : decode cX3_firstFault 68 = .ok (.goto (-41), 3) := by decide +kernel
theorem dX3_firstFault_71 : decode cX3_firstFault 71 = .ok (.bipush (-4), 2) := by decide +kernel
theorem dX3_firstFault_73 : decode cX3_firstFault 73 = .ok (.ireturn, 1) := by decide +kernel
theorem dX3_readItem_0 : decode cX3_readItem 0 = .ok (.aload_n 0, 1) := by decide +kernel
theorem dX3_readItem_1 : decode cX3_readItem 1 = .ok (.invokevirtual 37, 3) := by decide +kernel
theorem dX3_readItem_4 : decode cX3_readItem 4 = .ok (.istore_n 3, 1) := by decide +kernel
theorem dX3_readItem_5 : decode cX3_readItem 5 = .ok (.aload_n 0, 1) := by decide +kernel
theorem dX3_readItem_6 : decode cX3_readItem 6 = .ok (.dup, 1) := by decide +kernel
theorem dX3_readItem_7 : decode cX3_readItem 7 = .ok (.getfield 25, 3) := by decide +kernel
theorem dX3_readItem_10 : decode cX3_readItem 10 = .ok (.iconst 1, 1) := by decide +kernel
theorem dX3_readItem_11 : decode cX3_readItem 11 = .ok (.iadd, 1) := by decide +kernel
theorem dX3_readItem_12 : decode cX3_readItem 12 = .ok (.putfield 25, 3) := by decide +kernel
theorem dX3_readItem_15 : decode cX3_readItem 15 = .ok (.iload_n 3, 1) := by decide +kernel
theorem dX3_readItem_16 : decode cX3_readItem 16 = .ok (.lookupswitch 97 #[(97, 90), (104, 78), (108, 66), (114, 84), (119, 60), (120, 72)], 60) := by decide +kernel
theorem dX3_readItem_76 : decode cX3_readItem 76 = .ok (.aload_n 0, 1) := by decide +kernel
theorem dX3_readItem_77 : decode cX3_readItem 77 = .ok (.aload_n 1, 1) := by decide +kernel
theorem dX3_readItem_78 : decode cX3_readItem 78 = .ok (.invokevirtual 41, 3) := by decide +kernel
theorem dX3_readItem_81 : decode cX3_readItem 81 = .ok (.ireturn, 1) := by decide +kernel
theorem dX3_readItem_82 : decode cX3_readItem 82 = .ok (.aload_n 0, 1) := by decide +kernel
theorem dX3_readItem_83 : decode cX3_readItem 83 = .ok (.aload_n 1, 1) := by decide +kernel
theorem dX3_readItem_84 : decode cX3_readItem 84 = .ok (.invokevirtual 45, 3) := by decide +kernel
theorem dX3_readItem_87 : decode cX3_readItem 87 = .ok (.ireturn, 1) := by decide +kernel
theorem dX3_readItem_88 : decode cX3_readItem 88 = .ok (.aload_n 0, 1) := by decide +kernel
theorem dX3_readItem_89 : decode cX3_readItem 89 = .ok (.aload_n 1, 1) := by decide +kernel
theorem dX3_readItem_90 : decode cX3_readItem 90 = .ok (.invokevirtual 48, 3) := by decide +kernel
theorem dX3_readItem_93 : decode cX3_readItem 93 = .ok (.ireturn, 1) := by decide +kernel
theorem dX3_readItem_94 : decode cX3_readItem 94 = .ok (.aload_n 0, 1) := by decide +kernel
theorem dX3_readItem_95 : decode cX3_readItem 95 = .ok (.aload_n 1, 1) := by decide +kernel
theorem dX3_readItem_96 : decode cX3_readItem 96 = .ok (.invokevirtual 51, 3) := by decide +kernel
theorem dX3_readItem_99 : decode cX3_readItem 99 = .ok (.ireturn, 1) := by decide +kernel
theorem dX3_readItem_100 : decode cX3_readItem 100 = .ok (.aload_n 0, 1) := by decide +kernel
theorem dX3_readItem_101 : decode cX3_readItem 101 = .ok (.aload_n 1, 1) := by decide +kernel
theorem dX3_readItem_102 : decode cX3_readItem 102 = .ok (.invokevirtual 54, 3) := by decide +kernel
theorem dX3_readItem_105 : decode cX3_readItem 105 = .ok (.ireturn, 1) := by decide +kernel
theorem dX3_readItem_106 : decode cX3_readItem 106 = .ok (.aload_n 0, 1) := by decide +kernel
theorem dX3_readItem_107 : decode cX3_readItem 107 = .ok (.aload_n 1, 1) := by decide +kernel
theorem dX3_readItem_108 : decode cX3_readItem 108 = .ok (.aload_n 2, 1) := by decide +kernel
theorem dX3_readItem_109 : decode cX3_readItem 109 = .ok (.invokevirtual 57, 3) := by decide +kernel
theorem dX3_readItem_112 : decode cX3_readItem 112 = .ok (.ireturn, 1) := by decide +kernel
theorem dX3_readItem_113 : decode cX3_readItem 113 = .ok (.iconst 0, 1) := by decide +kernel
theorem dX3_readItem_114 : decode cX3_readItem 114 = .ok (.ireturn, 1) := by decide +kernel
theorem dX3_readWord_0 : decode cX3_readWord 0 = .ok (.aload_n 0, 1) := by decide +kernel
theorem dX3_readWord_1 : decode cX3_readWord 1 = .ok (.iconst 1, 1) := by decide +kernel
theorem dX3_readWord_2 : decode cX3_readWord 2 = .ok (.bipush 9, 2) := by decide +kernel
theorem dX3_readWord_4 : decode cX3_readWord 4 = .ok (.invokevirtual 60, 3) := by decide +kernel
theorem dX3_readWord_7 : decode cX3_readWord 7 = .ok (.istore_n 2, 1) := by decide +kernel
theorem dX3_readWord_8 : decode cX3_readWord 8 = .ok (.iload_n 2, 1) := by decide +kernel
theorem dX3_readWord_9 : decode cX3_readWord 9 = .ok (.bipush (-4), 2) := by decide +kernel
theorem dX3_readWord_11 : decode cX3_readWord 11 = .ok (.if_icmp .eq 12, 3) := by decide +kernel
theorem dX3_readWord_14 : decode cX3_readWord 14 = .ok (.aload_n 0, 1) := by decide +kernel
theorem dX3_readWord_15 : decode cX3_readWord 15 = .ok (.bipush 44, 2) := by decide +kernel
theorem dX3_readWord_17 : decode cX3_readWord 17 = .ok (.invokevirtual 63, 3) := by decide +kernel
theorem dX3_readWord_20 : decode cX3_readWord 20 = .ok (.ifCond .ne 5, 3) := by decide +kernel
theorem dX3_readWord_23 : decode cX3_readWord 23 = .ok (.iconst 0, 1) := by decide +kernel
theorem dX3_readWord_24 : decode cX3_readWord 24 = .ok (.ireturn, 1) := by decide +kernel
theorem dX3_readWord_25 : decode cX3_readWord 25 = .ok (.iconst 0, 1) := by decide +kernel
theorem dX3_readWord_26 : decode cX3_readWord 26 = .ok (.istore_n 3, 1) := by decide +kernel
theorem dX3_readWord_27 : decode cX3_readWord 27 = .ok (.iconst 0, 1) := by decide +kernel
theorem dX3_readWord_28 : decode cX3_readWord 28 = .ok (.istore 4, 2) := by decide +kernel
theorem dX3_readWord_30 : decode cX3_readWord 30 = .ok (.iload_n 3, 1) := by decide +kernel
theorem dX3_readWord_31 : decode cX3_readWord 31 = .ok (.iconst 3, 1) := by decide +kernel
theorem dX3_readWord_32 : decode cX3_readWord 32 = .ok (.if_icmp .ge 51, 3) := by decide +kernel
theorem dX3_readWord_35 : decode cX3_readWord 35 = .ok (.aload_n 0, 1) := by decide +kernel
theorem dX3_readWord_36 : decode cX3_readWord 36 = .ok (.invokevirtual 37, 3) := by decide +kernel
theorem dX3_readWord_39 : decode cX3_readWord 39 = .ok (.bipush 97, 2) := by decide +kernel
theorem dX3_readWord_41 : decode cX3_readWord 41 = .ok (.if_icmp .lt 42, 3) := by decide +kernel
theorem dX3_readWord_44 : decode cX3_readWord 44 = .ok (.aload_n 0, 1) := by decide +kernel
theorem dX3_readWord_45 : decode cX3_readWord 45 = .ok (.invokevirtual 37, 3) := by decide +kernel
theorem dX3_readWord_48 : decode cX3_readWord 48 = .ok (.bipush 103, 2) := by decide +kernel
theorem dX3_readWord_50 : decode cX3_readWord 50 = .ok (.if_icmp .ge 33, 3) := by decide +kernel
theorem dX3_readWord_53 : decode cX3_readWord 53 = .ok (.iload 4, 2) := by decide +kernel
theorem dX3_readWord_55 : decode cX3_readWord 55 = .ok (.iconst 1, 1) := by decide +kernel
theorem dX3_readWord_56 : decode cX3_readWord 56 = .ok (.aload_n 0, 1) := by decide +kernel
theorem dX3_readWord_57 : decode cX3_readWord 57 = .ok (.invokevirtual 37, 3) := by decide +kernel
theorem dX3_readWord_60 : decode cX3_readWord 60 = .ok (.bipush 97, 2) := by decide +kernel
theorem dX3_readWord_62 : decode cX3_readWord 62 = .ok (.isub, 1) := by decide +kernel
theorem dX3_readWord_63 : decode cX3_readWord 63 = .ok (.ishl, 1) := by decide +kernel
theorem dX3_readWord_64 : decode cX3_readWord 64 = .ok (.ior, 1) := by decide +kernel
theorem dX3_readWord_65 : decode cX3_readWord 65 = .ok (.istore 4, 2) := by decide +kernel
theorem dX3_readWord_67 : decode cX3_readWord 67 = .ok (.iinc 3 1, 3) := by decide +kernel
theorem dX3_readWord_70 : decode cX3_readWord 70 = .ok (.aload_n 0, 1) := by decide +kernel
theorem dX3_readWord_71 : decode cX3_readWord 71 = .ok (.dup, 1) := by decide +kernel
theorem dX3_readWord_72 : decode cX3_readWord 72 = .ok (.getfield 25, 3) := by decide +kernel
theorem dX3_readWord_75 : decode cX3_readWord 75 = .ok (.iconst 1, 1) := by decide +kernel
theorem dX3_readWord_76 : decode cX3_readWord 76 = .ok (.iadd, 1) := by decide +kernel
theorem dX3_readWord_77 : decode cX3_readWord 77 = .ok (.putfield 25, 3) := by decide +kernel
theorem dX3_readWord_80 : decode cX3_readWord 80 = .ok (.goto (-50), 3) := by decide +kernel
theorem dX3_readWord_83 : decode cX3_readWord 83 = .ok (.iload_n 3, 1) := by decide +kernel
theorem dX3_readWord_84 : decode cX3_readWord 84 = .ok (.ifCond .le 27, 3) := by decide +kernel
theorem dX3_readWord_87 : decode cX3_readWord 87 = .ok (.aload_n 0, 1) := by decide +kernel
theorem dX3_readWord_88 : decode cX3_readWord 88 = .ok (.bipush 59, 2) := by decide +kernel
theorem dX3_readWord_90 : decode cX3_readWord 90 = .ok (.invokevirtual 63, 3) := by decide +kernel
theorem dX3_readWord_93 : decode cX3_readWord 93 = .ok (.ifCond .eq 18, 3) := by decide +kernel
theorem dX3_readWord_96 : decode cX3_readWord 96 = .ok (.aload_n 1, 1) := by decide +kernel
theorem dX3_readWord_97 : decode cX3_readWord 97 = .ok (.iload_n 2, 1) := by decide +kernel
theorem dX3_readWord_98 : decode cX3_readWord 98 = .ok (.iload_n 3, 1) := by decide +kernel
theorem dX3_readWord_99 : decode cX3_readWord 99 = .ok (.iload 4, 2) := by decide +kernel
theorem dX3_readWord_101 : decode cX3_readWord 101 = .ok (.invokevirtual 67, 3) := by decide +kernel
theorem dX3_readWord_104 : decode cX3_readWord 104 = .ok (.ifCond .eq 7, 3) := by decide +kernel
theorem dX3_readWord_107 : decode cX3_readWord 107 = .ok (.iconst 1, 1) := by decide +kernel
theorem dX3_readWord_108 : decode cX3_readWord 108 = .ok (.goto 4, 3) := by decide +kernel
theorem dX3_readWord_111 : decode cX3_readWord 111 = .ok (.iconst 0, 1) := by decide +kernel
theorem dX3_readWord_112 : decode cX3_readWord 112 = .ok (.ireturn, 1) := by decide +kernel
theorem dX3_readLikeness_0 : decode cX3_readLikeness 0 = .ok (.iconst 0, 1) := by decide +kernel
theorem dX3_readLikeness_1 : decode cX3_readLikeness 1 = .ok (.istore_n 2, 1) := by decide +kernel
theorem dX3_readLikeness_2 : decode cX3_readLikeness 2 = .ok (.iconst 0, 1) := by decide +kernel
theorem dX3_readLikeness_3 : decode cX3_readLikeness 3 = .ok (.istore_n 3, 1) := by decide +kernel
theorem dX3_readLikeness_4 : decode cX3_readLikeness 4 = .ok (.iload_n 3, 1) := by decide +kernel
theorem dX3_readLikeness_5 : decode cX3_readLikeness 5 = .ok (.bipush 8, 2) := by decide +kernel
theorem dX3_readLikeness_7 : decode cX3_readLikeness 7 = .ok (.if_icmp .ge 70, 3) := by decide +kernel
theorem dX3_readLikeness_10 : decode cX3_readLikeness 10 = .ok (.aload_n 0, 1) := by decide +kernel
theorem dX3_readLikeness_11 : decode cX3_readLikeness 11 = .ok (.invokevirtual 37, 3) := by decide +kernel
theorem dX3_readLikeness_14 : decode cX3_readLikeness 14 = .ok (.bipush 59, 2) := by decide +kernel
theorem dX3_readLikeness_16 : decode cX3_readLikeness 16 = .ok (.if_icmp .eq 61, 3) := by decide +kernel
theorem dX3_readLikeness_19 : decode cX3_readLikeness 19 = .ok (.aload_n 0, 1) := by decide +kernel
theorem dX3_readLikeness_20 : decode cX3_readLikeness 20 = .ok (.invokevirtual 37, 3) := by decide +kernel
theorem dX3_readLikeness_23 : decode cX3_readLikeness 23 = .ok (.bipush 48, 2) := by decide +kernel
theorem dX3_readLikeness_25 : decode cX3_readLikeness 25 = .ok (.isub, 1) := by decide +kernel
theorem dX3_readLikeness_26 : decode cX3_readLikeness 26 = .ok (.istore 4, 2) := by decide +kernel
theorem dX3_readLikeness_28 : decode cX3_readLikeness 28 = .ok (.iload 4, 2) := by decide +kernel
theorem dX3_readLikeness_30 : decode cX3_readLikeness 30 = .ok (.ifCond .lt 22, 3) := by decide +kernel
theorem dX3_readLikeness_33 : decode cX3_readLikeness 33 = .ok (.iload 4, 2) := by decide +kernel
theorem dX3_readLikeness_35 : decode cX3_readLikeness 35 = .ok (.aload_n 1, 1) := by decide +kernel
theorem dX3_readLikeness_36 : decode cX3_readLikeness 36 = .ok (.invokevirtual 71, 3) := by decide +kernel
theorem dX3_readLikeness_39 : decode cX3_readLikeness 39 = .ok (.if_icmp .ge 13, 3) := by decide +kernel
theorem dX3_readLikeness_42 : decode cX3_readLikeness 42 = .ok (.iload_n 2, 1) := by decide +kernel
theorem dX3_readLikeness_43 : decode cX3_readLikeness 43 = .ok (.iload 4, 2) := by decide +kernel
theorem dX3_readLikeness_45 : decode cX3_readLikeness 45 = .ok (.ishr, 1) := by decide +kernel
theorem dX3_readLikeness_46 : decode cX3_readLikeness 46 = .ok (.iconst 1, 1) := by decide +kernel
theorem dX3_readLikeness_47 : decode cX3_readLikeness 47 = .ok (.iand, 1) := by decide +kernel
theorem dX3_readLikeness_48 : decode cX3_readLikeness 48 = .ok (.iconst 1, 1) := by decide +kernel
theorem dX3_readLikeness_49 : decode cX3_readLikeness 49 = .ok (.if_icmp .ne 5, 3) := by decide +kernel
theorem dX3_readLikeness_52 : decode cX3_readLikeness 52 = .ok (.iconst 0, 1) := by decide +kernel
theorem dX3_readLikeness_53 : decode cX3_readLikeness 53 = .ok (.ireturn, 1) := by decide +kernel
theorem dX3_readLikeness_54 : decode cX3_readLikeness 54 = .ok (.iload_n 2, 1) := by decide +kernel
theorem dX3_readLikeness_55 : decode cX3_readLikeness 55 = .ok (.iconst 1, 1) := by decide +kernel
theorem dX3_readLikeness_56 : decode cX3_readLikeness 56 = .ok (.iload 4, 2) := by decide +kernel
theorem dX3_readLikeness_58 : decode cX3_readLikeness 58 = .ok (.ishl, 1) := by decide +kernel
theorem dX3_readLikeness_59 : decode cX3_readLikeness 59 = .ok (.ior, 1) := by decide +kernel
theorem dX3_readLikeness_60 : decode cX3_readLikeness 60 = .ok (.istore_n 2, 1) := by decide +kernel
theorem dX3_readLikeness_61 : decode cX3_readLikeness 61 = .ok (.aload_n 0, 1) := by decide +kernel
theorem dX3_readLikeness_62 : decode cX3_readLikeness 62 = .ok (.dup, 1) := by decide +kernel
theorem dX3_readLikeness_63 : decode cX3_readLikeness 63 = .ok (.getfield 25, 3) := by decide +kernel
theorem dX3_readLikeness_66 : decode cX3_readLikeness 66 = .ok (.iconst 1, 1) := by decide +kernel
theorem dX3_readLikeness_67 : decode cX3_readLikeness 67 = .ok (.iadd, 1) := by decide +kernel
theorem dX3_readLikeness_68 : decode cX3_readLikeness 68 = .ok (.putfield 25, 3) := by decide +kernel
theorem dX3_readLikeness_71 : decode cX3_readLikeness 71 = .ok (.iinc 3 1, 3) := by decide +kernel
theorem dX3_readLikeness_74 : decode cX3_readLikeness 74 = .ok (.goto (-70), 3) := by decide +kernel
theorem dX3_readLikeness_77 : decode cX3_readLikeness 77 = .ok (.iload_n 2, 1) := by decide +kernel
theorem dX3_readLikeness_78 : decode cX3_readLikeness 78 = .ok (.ifCond .eq 24, 3) := by decide +kernel
theorem dX3_readLikeness_81 : decode cX3_readLikeness 81 = .ok (.aload_n 0, 1) := by decide +kernel
theorem dX3_readLikeness_82 : decode cX3_readLikeness 82 = .ok (.bipush 59, 2) := by decide +kernel
theorem dX3_readLikeness_84 : decode cX3_readLikeness 84 = .ok (.invokevirtual 63, 3) := by decide +kernel
theorem dX3_readLikeness_87 : decode cX3_readLikeness 87 = .ok (.ifCond .eq 15, 3) := by decide +kernel
theorem dX3_readLikeness_90 : decode cX3_readLikeness 90 = .ok (.aload_n 1, 1) := by decide +kernel
theorem dX3_readLikeness_91 : decode cX3_readLikeness 91 = .ok (.iload_n 2, 1) := by decide +kernel
theorem dX3_readLikeness_92 : decode cX3_readLikeness 92 = .ok (.invokevirtual 74, 3) := by decide +kernel
theorem dX3_readLikeness_95 : decode cX3_readLikeness 95 = .ok (.ifCond .eq 7, 3) := by decide +kernel
theorem dX3_readLikeness_98 : decode cX3_readLikeness 98 = .ok (.iconst 1, 1) := by decide +kernel
theorem dX3_readLikeness_99 : decode cX3_readLikeness 99 = .ok (.goto 4, 3) := by decide +kernel
theorem dX3_readLikeness_102 : decode cX3_readLikeness 102 = .ok (.iconst 0, 1) := by decide +kernel
theorem dX3_readLikeness_103 : decode cX3_readLikeness 103 = .ok (.ireturn, 1) := by decide +kernel
theorem dX3_readForbidden_0 : decode cX3_readForbidden 0 = .ok (.aload_n 0, 1) := by decide +kernel
theorem dX3_readForbidden_1 : decode cX3_readForbidden 1 = .ok (.iconst 0, 1) := by decide +kernel
theorem dX3_readForbidden_2 : decode cX3_readForbidden 2 = .ok (.bipush 14, 2) := by decide +kernel
theorem dX3_readForbidden_4 : decode cX3_readForbidden 4 = .ok (.invokevirtual 60, 3) := by decide +kernel
theorem dX3_readForbidden_7 : decode cX3_readForbidden 7 = .ok (.istore_n 2, 1) := by decide +kernel
theorem dX3_readForbidden_8 : decode cX3_readForbidden 8 = .ok (.iload_n 2, 1) := by decide +kernel
theorem dX3_readForbidden_9 : decode cX3_readForbidden 9 = .ok (.bipush (-4), 2) := by decide +kernel
theorem dX3_readForbidden_11 : decode cX3_readForbidden 11 = .ok (.if_icmp .eq 12, 3) := by decide +kernel
theorem dX3_readForbidden_14 : decode cX3_readForbidden 14 = .ok (.aload_n 0, 1) := by decide +kernel
theorem dX3_readForbidden_15 : decode cX3_readForbidden 15 = .ok (.bipush 59, 2) := by decide +kernel
theorem dX3_readForbidden_17 : decode cX3_readForbidden 17 = .ok (.invokevirtual 63, 3) := by decide +kernel
theorem dX3_readForbidden_20 : decode cX3_readForbidden 20 = .ok (.ifCond .ne 5, 3) := by decide +kernel
theorem dX3_readForbidden_23 : decode cX3_readForbidden 23 = .ok (.iconst 0, 1) := by decide +kernel
theorem dX3_readForbidden_24 : decode cX3_readForbidden 24 = .ok (.ireturn, 1) := by decide +kernel
theorem dX3_readForbidden_25 : decode cX3_readForbidden 25 = .ok (.aload_n 1, 1) := by decide +kernel
theorem dX3_readForbidden_26 : decode cX3_readForbidden 26 = .ok (.iload_n 2, 1) := by decide +kernel
theorem dX3_readForbidden_27 : decode cX3_readForbidden 27 = .ok (.invokevirtual 77, 3) := by decide +kernel
theorem dX3_readForbidden_30 : decode cX3_readForbidden 30 = .ok (.iconst 1, 1) := by decide +kernel
theorem dX3_readForbidden_31 : decode cX3_readForbidden 31 = .ok (.ireturn, 1) := by decide +kernel
theorem dX3_readHabit_0 : decode cX3_readHabit 0 = .ok (.aload_n 0, 1) := by decide +kernel
theorem dX3_readHabit_1 : decode cX3_readHabit 1 = .ok (.iconst 2, 1) := by decide +kernel
theorem dX3_readHabit_2 : decode cX3_readHabit 2 = .ok (.iconst 5, 1) := by decide +kernel
theorem dX3_readHabit_3 : decode cX3_readHabit 3 = .ok (.invokevirtual 60, 3) := by decide +kernel
theorem dX3_readHabit_6 : decode cX3_readHabit 6 = .ok (.istore_n 2, 1) := by decide +kernel
theorem dX3_readHabit_7 : decode cX3_readHabit 7 = .ok (.iload_n 2, 1) := by decide +kernel
theorem dX3_readHabit_8 : decode cX3_readHabit 8 = .ok (.bipush (-4), 2) := by decide +kernel
theorem dX3_readHabit_10 : decode cX3_readHabit 10 = .ok (.if_icmp .eq 12, 3) := by decide +kernel
theorem dX3_readHabit_13 : decode cX3_readHabit 13 = .ok (.aload_n 0, 1) := by decide +kernel
theorem dX3_readHabit_14 : decode cX3_readHabit 14 = .ok (.bipush 44, 2) := by decide +kernel
theorem dX3_readHabit_16 : decode cX3_readHabit 16 = .ok (.invokevirtual 63, 3) := by decide +kernel
theorem dX3_readHabit_19 : decode cX3_readHabit 19 = .ok (.ifCond .ne 5, 3) := by decide +kernel
theorem dX3_readHabit_22 : decode cX3_readHabit 22 = .ok (.iconst 0, 1) := by decide +kernel
theorem dX3_readHabit_23 : decode cX3_readHabit 23 = .ok (.ireturn, 1) := by decide +kernel
theorem dX3_readHabit_24 : decode cX3_readHabit 24 = .ok (.aload_n 0, 1) := by decide +kernel
theorem dX3_readHabit_25 : decode cX3_readHabit 25 = .ok (.iconst 1, 1) := by decide +kernel
theorem dX3_readHabit_26 : decode cX3_readHabit 26 = .ok (.iconst 4, 1) := by decide +kernel
theorem dX3_readHabit_27 : decode cX3_readHabit 27 = .ok (.invokevirtual 60, 3) := by decide +kernel
theorem dX3_readHabit_30 : decode cX3_readHabit 30 = .ok (.istore_n 3, 1) := by decide +kernel
theorem dX3_readHabit_31 : decode cX3_readHabit 31 = .ok (.iload_n 3, 1) := by decide +kernel
theorem dX3_readHabit_32 : decode cX3_readHabit 32 = .ok (.bipush (-4), 2) := by decide +kernel
theorem dX3_readHabit_34 : decode cX3_readHabit 34 = .ok (.if_icmp .eq 12, 3) := by decide +kernel
theorem dX3_readHabit_37 : decode cX3_readHabit 37 = .ok (.aload_n 0, 1) := by decide +kernel
theorem dX3_readHabit_38 : decode cX3_readHabit 38 = .ok (.bipush 59, 2) := by decide +kernel
theorem dX3_readHabit_40 : decode cX3_readHabit 40 = .ok (.invokevirtual 63, 3) := by decide +kernel
theorem dX3_readHabit_43 : decode cX3_readHabit 43 = .ok (.ifCond .ne 5, 3) := by decide +kernel
theorem dX3_readHabit_46 : decode cX3_readHabit 46 = .ok (.iconst 0, 1) := by decide +kernel
theorem dX3_readHabit_47 : decode cX3_readHabit 47 = .ok (.ireturn, 1) := by decide +kernel
theorem dX3_readHabit_48 : decode cX3_readHabit 48 = .ok (.aload_n 1, 1) := by decide +kernel
theorem dX3_readHabit_49 : decode cX3_readHabit 49 = .ok (.bipush 10, 2) := by decide +kernel
theorem dX3_readHabit_51 : decode cX3_readHabit 51 = .ok (.iload_n 2, 1) := by decide +kernel
theorem dX3_readHabit_52 : decode cX3_readHabit 52 = .ok (.imul, 1) := by decide +kernel
theorem dX3_readHabit_53 : decode cX3_readHabit 53 = .ok (.iload_n 3, 1) := by decide +kernel
theorem dX3_readHabit_54 : decode cX3_readHabit 54 = .ok (.iadd, 1) := by decide +kernel
theorem dX3_readHabit_55 : decode cX3_readHabit 55 = .ok (.invokevirtual 81, 3) := by decide +kernel
theorem dX3_readHabit_58 : decode cX3_readHabit 58 = .ok (.iconst 1, 1) := by decide +kernel
theorem dX3_readHabit_59 : decode cX3_readHabit 59 = .ok (.ireturn, 1) := by decide +kernel
theorem dX3_readPrice_0 : decode cX3_readPrice 0 = .ok (.aload_n 0, 1) := by decide +kernel
theorem dX3_readPrice_1 : decode cX3_readPrice 1 = .ok (.iconst 0, 1) := by decide +kernel
theorem dX3_readPrice_2 : decode cX3_readPrice 2 = .ok (.bipush 9, 2) := by decide +kernel
theorem dX3_readPrice_4 : decode cX3_readPrice 4 = .ok (.invokevirtual 60, 3) := by decide +kernel
theorem dX3_readPrice_7 : decode cX3_readPrice 7 = .ok (.istore_n 2, 1) := by decide +kernel
theorem dX3_readPrice_8 : decode cX3_readPrice 8 = .ok (.iload_n 2, 1) := by decide +kernel
theorem dX3_readPrice_9 : decode cX3_readPrice 9 = .ok (.bipush (-4), 2) := by decide +kernel
theorem dX3_readPrice_11 : decode cX3_readPrice 11 = .ok (.if_icmp .eq 12, 3) := by decide +kernel
theorem dX3_readPrice_14 : decode cX3_readPrice 14 = .ok (.aload_n 0, 1) := by decide +kernel
theorem dX3_readPrice_15 : decode cX3_readPrice 15 = .ok (.bipush 59, 2) := by decide +kernel
theorem dX3_readPrice_17 : decode cX3_readPrice 17 = .ok (.invokevirtual 63, 3) := by decide +kernel
theorem dX3_readPrice_20 : decode cX3_readPrice 20 = .ok (.ifCond .ne 5, 3) := by decide +kernel
theorem dX3_readPrice_23 : decode cX3_readPrice 23 = .ok (.iconst 0, 1) := by decide +kernel
theorem dX3_readPrice_24 : decode cX3_readPrice 24 = .ok (.ireturn, 1) := by decide +kernel
theorem dX3_readPrice_25 : decode cX3_readPrice 25 = .ok (.aload_n 1, 1) := by decide +kernel
theorem dX3_readPrice_26 : decode cX3_readPrice 26 = .ok (.iload_n 2, 1) := by decide +kernel
theorem dX3_readPrice_27 : decode cX3_readPrice 27 = .ok (.invokevirtual 84, 3) := by decide +kernel
theorem dX3_readPrice_30 : decode cX3_readPrice 30 = .ok (.iconst 1, 1) := by decide +kernel
theorem dX3_readPrice_31 : decode cX3_readPrice 31 = .ok (.ireturn, 1) := by decide +kernel
theorem dX3_readActor_0 : decode cX3_readActor 0 = .ok (.aload_n 0, 1) := by decide +kernel
theorem dX3_readActor_1 : decode cX3_readActor 1 = .ok (.iconst 0, 1) := by decide +kernel
theorem dX3_readActor_2 : decode cX3_readActor 2 = .ok (.iconst 3, 1) := by decide +kernel
theorem dX3_readActor_3 : decode cX3_readActor 3 = .ok (.invokevirtual 60, 3) := by decide +kernel
theorem dX3_readActor_6 : decode cX3_readActor 6 = .ok (.istore_n 3, 1) := by decide +kernel
theorem dX3_readActor_7 : decode cX3_readActor 7 = .ok (.iload_n 3, 1) := by decide +kernel
theorem dX3_readActor_8 : decode cX3_readActor 8 = .ok (.bipush (-4), 2) := by decide +kernel
theorem dX3_readActor_10 : decode cX3_readActor 10 = .ok (.if_icmp .eq 12, 3) := by decide +kernel
theorem dX3_readActor_13 : decode cX3_readActor 13 = .ok (.aload_n 0, 1) := by decide +kernel
theorem dX3_readActor_14 : decode cX3_readActor 14 = .ok (.bipush 44, 2) := by decide +kernel
theorem dX3_readActor_16 : decode cX3_readActor 16 = .ok (.invokevirtual 63, 3) := by decide +kernel
theorem dX3_readActor_19 : decode cX3_readActor 19 = .ok (.ifCond .ne 5, 3) := by decide +kernel
theorem dX3_readActor_22 : decode cX3_readActor 22 = .ok (.iconst 0, 1) := by decide +kernel
theorem dX3_readActor_23 : decode cX3_readActor 23 = .ok (.ireturn, 1) := by decide +kernel
theorem dX3_readActor_24 : decode cX3_readActor 24 = .ok (.aload_n 0, 1) := by decide +kernel
theorem dX3_readActor_25 : decode cX3_readActor 25 = .ok (.iconst 0, 1) := by decide +kernel
theorem dX3_readActor_26 : decode cX3_readActor 26 = .ok (.aload_n 1, 1) := by decide +kernel
theorem dX3_readActor_27 : decode cX3_readActor 27 = .ok (.invokevirtual 71, 3) := by decide +kernel
theorem dX3_readActor_30 : decode cX3_readActor 30 = .ok (.iconst 1, 1) := by decide +kernel
theorem dX3_readActor_31 : decode cX3_readActor 31 = .ok (.isub, 1) := by decide +kernel
theorem dX3_readActor_32 : decode cX3_readActor 32 = .ok (.invokevirtual 60, 3) := by decide +kernel
theorem dX3_readActor_35 : decode cX3_readActor 35 = .ok (.istore 4, 2) := by decide +kernel
theorem dX3_readActor_37 : decode cX3_readActor 37 = .ok (.iload 4, 2) := by decide +kernel
theorem dX3_readActor_39 : decode cX3_readActor 39 = .ok (.bipush (-4), 2) := by decide +kernel
theorem dX3_readActor_41 : decode cX3_readActor 41 = .ok (.if_icmp .eq 12, 3) := by decide +kernel
theorem dX3_readActor_44 : decode cX3_readActor 44 = .ok (.aload_n 0, 1) := by decide +kernel
theorem dX3_readActor_45 : decode cX3_readActor 45 = .ok (.bipush 44, 2) := by decide +kernel
theorem dX3_readActor_47 : decode cX3_readActor 47 = .ok (.invokevirtual 63, 3) := by decide +kernel
theorem dX3_readActor_50 : decode cX3_readActor 50 = .ok (.ifCond .ne 5, 3) := by decide +kernel
theorem dX3_readActor_53 : decode cX3_readActor 53 = .ok (.iconst 0, 1) := by decide +kernel
theorem dX3_readActor_54 : decode cX3_readActor 54 = .ok (.ireturn, 1) := by decide +kernel
theorem dX3_readActor_55 : decode cX3_readActor 55 = .ok (.aload_n 0, 1) := by decide +kernel
theorem dX3_readActor_56 : decode cX3_readActor 56 = .ok (.iconst 0, 1) := by decide +kernel
theorem dX3_readActor_57 : decode cX3_readActor 57 = .ok (.bipush 99, 2) := by decide +kernel
theorem dX3_readActor_59 : decode cX3_readActor 59 = .ok (.invokevirtual 60, 3) := by decide +kernel
theorem dX3_readActor_62 : decode cX3_readActor 62 = .ok (.istore 5, 2) := by decide +kernel
theorem dX3_readActor_64 : decode cX3_readActor 64 = .ok (.iload 5, 2) := by decide +kernel
theorem dX3_readActor_66 : decode cX3_readActor 66 = .ok (.bipush (-4), 2) := by decide +kernel
theorem dX3_readActor_68 : decode cX3_readActor 68 = .ok (.if_icmp .eq 19, 3) := by decide +kernel
theorem dX3_readActor_71 : decode cX3_readActor 71 = .ok (.aload_n 0, 1) := by decide +kernel
theorem dX3_readActor_72 : decode cX3_readActor 72 = .ok (.bipush 59, 2) := by decide +kernel
theorem dX3_readActor_74 : decode cX3_readActor 74 = .ok (.invokevirtual 63, 3) := by decide +kernel
theorem dX3_readActor_77 : decode cX3_readActor 77 = .ok (.ifCond .eq 10, 3) := by decide +kernel
theorem dX3_readActor_80 : decode cX3_readActor 80 = .ok (.aload_n 1, 1) := by decide +kernel
theorem dX3_readActor_81 : decode cX3_readActor 81 = .ok (.invokevirtual 87, 3) := by decide +kernel
theorem dX3_readActor_84 : decode cX3_readActor 84 = .ok (.ifCond .ne 5, 3) := by decide +kernel
theorem dX3_readActor_87 : decode cX3_readActor 87 = .ok (.iconst 0, 1) := by decide +kernel
theorem dX3_readActor_88 : decode cX3_readActor 88 = .ok (.ireturn, 1) := by decide +kernel
theorem dX3_readActor_89 : decode cX3_readActor 89 = .ok (.aload_n 2, 1) := by decide +kernel
theorem dX3_readActor_90 : decode cX3_readActor 90 = .ok (.aload_n 1, 1) := by decide +kernel
theorem dX3_readActor_91 : decode cX3_readActor 91 = .ok (.invokevirtual 91, 3) := by decide +kernel
theorem dX3_readActor_94 : decode cX3_readActor 94 = .ok (.iconst 1, 1) := by decide +kernel
theorem dX3_readActor_95 : decode cX3_readActor 95 = .ok (.isub, 1) := by decide +kernel
theorem dX3_readActor_96 : decode cX3_readActor 96 = .ok (.iload_n 3, 1) := by decide +kernel
theorem dX3_readActor_97 : decode cX3_readActor 97 = .ok (.iload 4, 2) := by decide +kernel
theorem dX3_readActor_99 : decode cX3_readActor 99 = .ok (.iload 5, 2) := by decide +kernel
theorem dX3_readActor_101 : decode cX3_readActor 101 = .ok (.invokevirtual 94, 3) := by decide +kernel
theorem dX3_readActor_104 : decode cX3_readActor 104 = .ok (.iconst 1, 1) := by decide +kernel
theorem dX3_readActor_105 : decode cX3_readActor 105 = .ok (.ireturn, 1) := by decide +kernel
theorem dX3_number_0 : decode cX3_number 0 = .ok (.iconst 0, 1) := by decide +kernel
theorem dX3_number_1 : decode cX3_number 1 = .ok (.istore_n 3, 1) := by decide +kernel
theorem dX3_number_2 : decode cX3_number 2 = .ok (.iconst 0, 1) := by decide +kernel
theorem dX3_number_3 : decode cX3_number 3 = .ok (.istore 4, 2) := by decide +kernel
theorem dX3_number_5 : decode cX3_number 5 = .ok (.iload 4, 2) := by decide +kernel
theorem dX3_number_7 : decode cX3_number 7 = .ok (.iconst 2, 1) := by decide +kernel
theorem dX3_number_8 : decode cX3_number 8 = .ok (.if_icmp .ge 42, 3) := by decide +kernel
theorem dX3_number_11 : decode cX3_number 11 = .ok (.aload_n 0, 1) := by decide +kernel
theorem dX3_number_12 : decode cX3_number 12 = .ok (.invokevirtual 37, 3) := by decide +kernel
theorem dX3_number_15 : decode cX3_number 15 = .ok (.invokestatic 100, 3) := by decide +kernel
theorem dX3_number_18 : decode cX3_number 18 = .ok (.ifCond .eq 32, 3) := by decide +kernel
theorem dX3_number_21 : decode cX3_number 21 = .ok (.bipush 10, 2) := by decide +kernel
theorem dX3_number_23 : decode cX3_number 23 = .ok (.iload_n 3, 1) := by decide +kernel
theorem dX3_number_24 : decode cX3_number 24 = .ok (.imul, 1) := by decide +kernel
theorem dX3_number_25 : decode cX3_number 25 = .ok (.aload_n 0, 1) := by decide +kernel
theorem dX3_number_26 : decode cX3_number 26 = .ok (.invokevirtual 37, 3) := by decide +kernel
theorem dX3_number_29 : decode cX3_number 29 = .ok (.iadd, 1) := by decide +kernel
theorem dX3_number_30 : decode cX3_number 30 = .ok (.bipush 48, 2) := by decide +kernel
theorem dX3_number_32 : decode cX3_number 32 = .ok (.isub, 1) := by decide +kernel
theorem dX3_number_33 : decode cX3_number 33 = .ok (.istore_n 3, 1) := by decide +kernel
theorem dX3_number_34 : decode cX3_number 34 = .ok (.iinc 4 1, 3) := by decide +kernel
theorem dX3_number_37 : decode cX3_number 37 = .ok (.aload_n 0, 1) := by decide +kernel
theorem dX3_number_38 : decode cX3_number 38 = .ok (.dup, 1) := by decide +kernel
theorem dX3_number_39 : decode cX3_number 39 = .ok (.getfield 25, 3) := by decide +kernel
theorem dX3_number_42 : decode cX3_number 42 = .ok (.iconst 1, 1) := by decide +kernel
theorem dX3_number_43 : decode cX3_number 43 = .ok (.iadd, 1) := by decide +kernel
theorem dX3_number_44 : decode cX3_number 44 = .ok (.putfield 25, 3) := by decide +kernel
theorem dX3_number_47 : decode cX3_number 47 = .ok (.goto (-42), 3) := by decide +kernel
theorem dX3_number_50 : decode cX3_number 50 = .ok (.iload 4, 2) := by decide +kernel
theorem dX3_number_52 : decode cX3_number 52 = .ok (.ifCond .le 17, 3) := by decide +kernel
theorem dX3_number_55 : decode cX3_number 55 = .ok (.iload_n 3, 1) := by decide +kernel
theorem dX3_number_56 : decode cX3_number 56 = .ok (.iload_n 1, 1) := by decide +kernel
theorem dX3_number_57 : decode cX3_number 57 = .ok (.if_icmp .lt 12, 3) := by decide +kernel
theorem dX3_number_60 : decode cX3_number 60 = .ok (.iload_n 3, 1) := by decide +kernel
theorem dX3_number_61 : decode cX3_number 61 = .ok (.iload_n 2, 1) := by decide +kernel
theorem dX3_number_62 : decode cX3_number 62 = .ok (.if_icmp .gt 7, 3) := by decide +kernel
theorem dX3_number_65 : decode cX3_number 65 = .ok (.iload_n 3, 1) := by decide +kernel
theorem dX3_number_66 : decode cX3_number 66 = .ok (.goto 5, 3) := by decide +kernel
theorem dX3_number_69 : decode cX3_number 69 = .ok (.bipush (-4), 2) := by decide +kernel
theorem dX3_number_71 : decode cX3_number 71 = .ok (.ireturn, 1) := by decide +kernel
theorem dX3_isFigure_0 : decode cX3_isFigure 0 = .ok (.iload_n 0, 1) := by decide +kernel
theorem dX3_isFigure_1 : decode cX3_isFigure 1 = .ok (.bipush 48, 2) := by decide +kernel
theorem dX3_isFigure_3 : decode cX3_isFigure 3 = .ok (.if_icmp .lt 13, 3) := by decide +kernel
theorem dX3_isFigure_6 : decode cX3_isFigure 6 = .ok (.iload_n 0, 1) := by decide +kernel
theorem dX3_isFigure_7 : decode cX3_isFigure 7 = .ok (.bipush 57, 2) := by decide +kernel
theorem dX3_isFigure_9 : decode cX3_isFigure 9 = .ok (.if_icmp .gt 7, 3) := by decide +kernel
theorem dX3_isFigure_12 : decode cX3_isFigure 12 = .ok (.iconst 1, 1) := by decide +kernel
theorem dX3_isFigure_13 : decode cX3_isFigure 13 = .ok (.goto 4, 3) := by decide +kernel
theorem dX3_isFigure_16 : decode cX3_isFigure 16 = .ok (.iconst 0, 1) := by decide +kernel
theorem dX3_isFigure_17 : decode cX3_isFigure 17 = .ok (.ireturn, 1) := by decide +kernel
theorem dX3_passes_0 : decode cX3_passes 0 = .ok (.aload_n 0, 1) := by decide +kernel
theorem dX3_passes_1 : decode cX3_passes 1 = .ok (.invokevirtual 37, 3) := by decide +kernel
theorem dX3_passes_4 : decode cX3_passes 4 = .ok (.iload_n 1, 1) := by decide +kernel
theorem dX3_passes_5 : decode cX3_passes 5 = .ok (.if_icmp .eq 5, 3) := by decide +kernel
theorem dX3_passes_8 : decode cX3_passes 8 = .ok (.iconst 0, 1) := by decide +kernel
theorem dX3_passes_9 : decode cX3_passes 9 = .ok (.ireturn, 1) := by decide +kernel
theorem dX3_passes_10 : decode cX3_passes 10 = .ok (.aload_n 0, 1) := by decide +kernel
theorem dX3_passes_11 : decode cX3_passes 11 = .ok (.dup, 1) := by decide +kernel
theorem dX3_passes_12 : decode cX3_passes 12 = .ok (.getfield 25, 3) := by decide +kernel
theorem dX3_passes_15 : decode cX3_passes 15 = .ok (.iconst 1, 1) := by decide +kernel
theorem dX3_passes_16 : decode cX3_passes 16 = .ok (.iadd, 1) := by decide +kernel
theorem dX3_passes_17 : decode cX3_passes 17 = .ok (.putfield 25, 3) := by decide +kernel
theorem dX3_passes_20 : decode cX3_passes 20 = .ok (.iconst 1, 1) := by decide +kernel
theorem dX3_passes_21 : decode cX3_passes 21 = .ok (.ireturn, 1) := by decide +kernel
theorem dX3_peek_0 : decode cX3_peek 0 = .ok (.aload_n 0, 1) := by decide +kernel
theorem dX3_peek_1 : decode cX3_peek 1 = .ok (.getfield 25, 3) := by decide +kernel
theorem dX3_peek_4 : decode cX3_peek 4 = .ok (.ifCond .lt 38, 3) := by decide +kernel
theorem dX3_peek_7 : decode cX3_peek 7 = .ok (.aload_n 0, 1) := by decide +kernel
theorem dX3_peek_8 : decode cX3_peek 8 = .ok (.getfield 25, 3) := by decide +kernel
theorem dX3_peek_11 : decode cX3_peek 11 = .ok (.aload_n 0, 1) := by decide +kernel
theorem dX3_peek_12 : decode cX3_peek 12 = .ok (.getfield 21, 3) := by decide +kernel
theorem dX3_peek_15 : decode cX3_peek 15 = .ok (.if_icmp .ge 27, 3) := by decide +kernel
theorem dX3_peek_18 : decode cX3_peek 18 = .ok (.aload_n 0, 1) := by decide +kernel
theorem dX3_peek_19 : decode cX3_peek 19 = .ok (.getfield 25, 3) := by decide +kernel
theorem dX3_peek_22 : decode cX3_peek 22 = .ok (.aload_n 0, 1) := by decide +kernel
theorem dX3_peek_23 : decode cX3_peek 23 = .ok (.getfield 9, 3) := by decide +kernel
theorem dX3_peek_26 : decode cX3_peek 26 = .ok (.arraylength, 1) := by decide +kernel
theorem dX3_peek_27 : decode cX3_peek 27 = .ok (.if_icmp .ge 15, 3) := by decide +kernel
theorem dX3_peek_30 : decode cX3_peek 30 = .ok (.aload_n 0, 1) := by decide +kernel
theorem dX3_peek_31 : decode cX3_peek 31 = .ok (.getfield 9, 3) := by decide +kernel
theorem dX3_peek_34 : decode cX3_peek 34 = .ok (.aload_n 0, 1) := by decide +kernel
theorem dX3_peek_35 : decode cX3_peek 35 = .ok (.getfield 25, 3) := by decide +kernel
theorem dX3_peek_38 : decode cX3_peek 38 = .ok (.iaload, 1) := by decide +kernel
theorem dX3_peek_39 : decode cX3_peek 39 = .ok (.goto 4, 3) := by decide +kernel
theorem dX3_peek_42 : decode cX3_peek 42 = .ok (.iconst 0, 1) := by decide +kernel
theorem dX3_peek_43 : decode cX3_peek 43 = .ok (.ireturn, 1) := by decide +kernel
theorem dX4_init_0 : decode cX4_init 0 = .ok (.aload_n 0, 1) := by decide +kernel
theorem dX4_init_1 : decode cX4_init 1 = .ok (.invokespecial 3, 3) := by decide +kernel
theorem dX4_init_4 : decode cX4_init 4 = .ok (.aload_n 0, 1) := by decide +kernel
theorem dX4_init_5 : decode cX4_init 5 = .ok (.bipush 55, 2) := by decide +kernel
theorem dX4_init_7 : decode cX4_init 7 = .ok (.newarray .int, 2) := by decide +kernel
theorem dX4_init_9 : decode cX4_init 9 = .ok (.putfield 9, 3) := by decide +kernel
theorem dX4_init_12 : decode cX4_init 12 = .ok (.return_, 1) := by decide +kernel
theorem dX4_cell_0 : decode cX4_cell 0 = .ok (.iload_n 1, 1) := by decide +kernel
theorem dX4_cell_1 : decode cX4_cell 1 = .ok (.bipush 11, 2) := by decide +kernel
theorem dX4_cell_3 : decode cX4_cell 3 = .ok (.imul, 1) := by decide +kernel
theorem dX4_cell_4 : decode cX4_cell 4 = .ok (.iload_n 2, 1) := by decide +kernel
theorem dX4_cell_5 : decode cX4_cell 5 = .ok (.iadd, 1) := by decide +kernel
theorem dX4_cell_6 : decode cX4_cell 6 = .ok (.istore_n 3, 1) := by decide +kernel
theorem dX4_cell_7 : decode cX4_cell 7 = .ok (.iload_n 3, 1) := by decide +kernel
theorem dX4_cell_8 : decode cX4_cell 8 = .ok (.ifCond .lt 21, 3) := by decide +kernel
theorem dX4_cell_11 : decode cX4_cell 11 = .ok (.iload_n 3, 1) := by decide +kernel
theorem dX4_cell_12 : decode cX4_cell 12 = .ok (.aload_n 0, 1) := by decide +kernel
theorem dX4_cell_13 : decode cX4_cell 13 = .ok (.getfield 9, 3) := by decide +kernel
theorem dX4_cell_16 : decode cX4_cell 16 = .ok (.arraylength, 1) := by decide +kernel
theorem dX4_cell_17 : decode cX4_cell 17 = .ok (.if_icmp .ge 12, 3) := by decide +kernel
theorem dX4_cell_20 : decode cX4_cell 20 = .ok (.aload_n 0, 1) := by decide +kernel
theorem dX4_cell_21 : decode cX4_cell 21 = .ok (.getfield 9, 3) := by decide +kernel
theorem dX4_cell_24 : decode cX4_cell 24 = .ok (.iload_n 3, 1) := by decide +kernel
theorem dX4_cell_25 : decode cX4_cell 25 = .ok (.iaload, 1) := by decide +kernel
theorem dX4_cell_26 : decode cX4_cell 26 = .ok (.goto 4, 3) := by decide +kernel
theorem dX4_cell_29 : decode cX4_cell 29 = .ok (.iconst 0, 1) := by decide +kernel
theorem dX4_cell_30 : decode cX4_cell 30 = .ok (.ireturn, 1) := by decide +kernel
theorem dX4_set_0 : decode cX4_set 0 = .ok (.iload_n 1, 1) := by decide +kernel
theorem dX4_set_1 : decode cX4_set 1 = .ok (.bipush 11, 2) := by decide +kernel
theorem dX4_set_3 : decode cX4_set 3 = .ok (.imul, 1) := by decide +kernel
theorem dX4_set_4 : decode cX4_set 4 = .ok (.iload_n 2, 1) := by decide +kernel
theorem dX4_set_5 : decode cX4_set 5 = .ok (.iadd, 1) := by decide +kernel
theorem dX4_set_6 : decode cX4_set 6 = .ok (.istore 4, 2) := by decide +kernel
theorem dX4_set_8 : decode cX4_set 8 = .ok (.iload 4, 2) := by decide +kernel
theorem dX4_set_10 : decode cX4_set 10 = .ok (.ifCond .lt 21, 3) := by decide +kernel
theorem dX4_set_13 : decode cX4_set 13 = .ok (.iload 4, 2) := by decide +kernel
theorem dX4_set_15 : decode cX4_set 15 = .ok (.aload_n 0, 1) := by decide +kernel
theorem dX4_set_16 : decode cX4_set 16 = .ok (.getfield 9, 3) := by decide +kernel
theorem dX4_set_19 : decode cX4_set 19 = .ok (.arraylength, 1) := by decide +kernel
theorem dX4_set_20 : decode cX4_set 20 = .ok (.if_icmp .ge 11, 3) := by decide +kernel
theorem dX4_set_23 : decode cX4_set 23 = .ok (.aload_n 0, 1) := by decide +kernel
theorem dX4_set_24 : decode cX4_set 24 = .ok (.getfield 9, 3) := by decide +kernel
theorem dX4_set_27 : decode cX4_set 27 = .ok (.iload 4, 2) := by decide +kernel
theorem dX4_set_29 : decode cX4_set 29 = .ok (.iload_n 3, 1) := by decide +kernel
theorem dX4_set_30 : decode cX4_set 30 = .ok (.iastore, 1) := by decide +kernel
theorem dX4_set_31 : decode cX4_set 31 = .ok (.return_, 1) := by decide +kernel
theorem dX4_start_0 : decode cX4_start 0 = .ok (.iconst 0, 1) := by decide +kernel
theorem dX4_start_1 : decode cX4_start 1 = .ok (.istore 5, 2) := by decide +kernel
theorem dX4_start_3 : decode cX4_start 3 = .ok (.iload 5, 2) := by decide +kernel
theorem dX4_start_5 : decode cX4_start 5 = .ok (.bipush 11, 2) := by decide +kernel
theorem dX4_start_7 : decode cX4_start 7 = .ok (.if_icmp .ge 17, 3) := by decide +kernel
theorem dX4_start_10 : decode cX4_start 10 = .ok (.aload_n 0, 1) := by decide +kernel
theorem dX4_start_11 : decode cX4_start 11 = .ok (.iload_n 1, 1) := by decide +kernel
theorem dX4_start_12 : decode cX4_start 12 = .ok (.iload 5, 2) := by decide +kernel
theorem dX4_start_14 : decode cX4_start 14 = .ok (.iconst 0, 1) := by decide +kernel
theorem dX4_start_15 : decode cX4_start 15 = .ok (.invokevirtual 15, 3) := by decide +kernel
theorem dX4_start_18 : decode cX4_start 18 = .ok (.iinc 5 1, 3) := by decide +kernel
theorem dX4_start_21 : decode cX4_start 21 = .ok (.goto (-18), 3) := by decide +kernel
theorem dX4_start_24 : decode cX4_start 24 = .ok (.aload_n 0, 1) := by decide +kernel
theorem dX4_start_25 : decode cX4_start 25 = .ok (.iload_n 1, 1) := by decide +kernel
theorem dX4_start_26 : decode cX4_start 26 = .ok (.iconst 0, 1) := by decide +kernel
theorem dX4_start_27 : decode cX4_start 27 = .ok (.iload_n 2, 1) := by decide +kernel
theorem dX4_start_28 : decode cX4_start 28 = .ok (.invokevirtual 15, 3) := by decide +kernel
theorem dX4_start_31 : decode cX4_start 31 = .ok (.aload_n 0, 1) := by decide +kernel
theorem dX4_start_32 : decode cX4_start 32 = .ok (.iload_n 1, 1) := by decide +kernel
theorem dX4_start_33 : decode cX4_start 33 = .ok (.iconst 1, 1) := by decide +kernel
theorem dX4_start_34 : decode cX4_start 34 = .ok (.iload_n 3, 1) := by decide +kernel
theorem dX4_start_35 : decode cX4_start 35 = .ok (.invokevirtual 15, 3) := by decide +kernel
theorem dX4_start_38 : decode cX4_start 38 = .ok (.aload_n 0, 1) := by decide +kernel
theorem dX4_start_39 : decode cX4_start 39 = .ok (.iload_n 1, 1) := by decide +kernel
theorem dX4_start_40 : decode cX4_start 40 = .ok (.iconst 2, 1) := by decide +kernel
theorem dX4_start_41 : decode cX4_start 41 = .ok (.iload 4, 2) := by decide +kernel
theorem dX4_start_43 : decode cX4_start 43 = .ok (.invokevirtual 15, 3) := by decide +kernel
theorem dX4_start_46 : decode cX4_start 46 = .ok (.return_, 1) := by decide +kernel
theorem dX4_copyFrom_0 : decode cX4_copyFrom 0 = .ok (.aload_n 1, 1) := by decide +kernel
theorem dX4_copyFrom_1 : decode cX4_copyFrom 1 = .ok (.getfield 9, 3) := by decide +kernel
theorem dX4_copyFrom_4 : decode cX4_copyFrom 4 = .ok (.iconst 0, 1) := by decide +kernel
theorem dX4_copyFrom_5 : decode cX4_copyFrom 5 = .ok (.aload_n 0, 1) := by decide +kernel
theorem dX4_copyFrom_6 : decode cX4_copyFrom 6 = .ok (.getfield 9, 3) := by decide +kernel
theorem dX4_copyFrom_9 : decode cX4_copyFrom 9 = .ok (.iconst 0, 1) := by decide +kernel
theorem dX4_copyFrom_10 : decode cX4_copyFrom 10 = .ok (.bipush 55, 2) := by decide +kernel
theorem dX4_copyFrom_12 : decode cX4_copyFrom 12 = .ok (.invokestatic 19, 3) := by decide +kernel
theorem dX4_copyFrom_15 : decode cX4_copyFrom 15 = .ok (.return_, 1) := by decide +kernel
theorem dX4_sign_0 : decode cX4_sign 0 = .ok (.aload_n 0, 1) := by decide +kernel
theorem dX4_sign_1 : decode cX4_sign 1 = .ok (.iload_n 1, 1) := by decide +kernel
theorem dX4_sign_2 : decode cX4_sign 2 = .ok (.bipush 6, 2) := by decide +kernel
theorem dX4_sign_4 : decode cX4_sign 4 = .ok (.iload_n 2, 1) := by decide +kernel
theorem dX4_sign_5 : decode cX4_sign 5 = .ok (.iadd, 1) := by decide +kernel
theorem dX4_sign_6 : decode cX4_sign 6 = .ok (.invokevirtual 25, 3) := by decide +kernel
theorem dX4_sign_9 : decode cX4_sign 9 = .ok (.ireturn, 1) := by decide +kernel
theorem dX4_waits_0 : decode cX4_waits 0 = .ok (.aload_n 0, 1) := by decide +kernel
theorem dX4_waits_1 : decode cX4_waits 1 = .ok (.iload_n 1, 1) := by decide +kernel
theorem dX4_waits_2 : decode cX4_waits 2 = .ok (.iconst 5, 1) := by decide +kernel
theorem dX4_waits_3 : decode cX4_waits 3 = .ok (.invokevirtual 25, 3) := by decide +kernel
theorem dX4_waits_6 : decode cX4_waits 6 = .ok (.ifCond .ne 7, 3) := by decide +kernel
theorem dX4_waits_9 : decode cX4_waits 9 = .ok (.iconst 1, 1) := by decide +kernel
theorem dX4_waits_10 : decode cX4_waits 10 = .ok (.goto 4, 3) := by decide +kernel
theorem dX4_waits_13 : decode cX4_waits 13 = .ok (.iconst 0, 1) := by decide +kernel
theorem dX4_waits_14 : decode cX4_waits 14 = .ok (.ireturn, 1) := by decide +kernel
theorem dX4_canShow_0 : decode cX4_canShow 0 = .ok (.aload_n 0, 1) := by decide +kernel
theorem dX4_canShow_1 : decode cX4_canShow 1 = .ok (.iload_n 1, 1) := by decide +kernel
theorem dX4_canShow_2 : decode cX4_canShow 2 = .ok (.invokevirtual 29, 3) := by decide +kernel
theorem dX4_canShow_5 : decode cX4_canShow 5 = .ok (.ifCond .eq 17, 3) := by decide +kernel
theorem dX4_canShow_8 : decode cX4_canShow 8 = .ok (.aload_n 0, 1) := by decide +kernel
theorem dX4_canShow_9 : decode cX4_canShow 9 = .ok (.iload_n 1, 1) := by decide +kernel
theorem dX4_canShow_10 : decode cX4_canShow 10 = .ok (.iconst 3, 1) := by decide +kernel
theorem dX4_canShow_11 : decode cX4_canShow 11 = .ok (.invokevirtual 25, 3) := by decide +kernel
theorem dX4_canShow_14 : decode cX4_canShow 14 = .ok (.iconst 5, 1) := by decide +kernel
theorem dX4_canShow_15 : decode cX4_canShow 15 = .ok (.if_icmp .ge 7, 3) := by decide +kernel
theorem dX4_canShow_18 : decode cX4_canShow 18 = .ok (.iconst 1, 1) := by decide +kernel
theorem dX4_canShow_19 : decode cX4_canShow 19 = .ok (.goto 4, 3) := by decide +kernel
theorem dX4_canShow_22 : decode cX4_canShow 22 = .ok (.iconst 0, 1) := by decide +kernel
theorem dX4_canShow_23 : decode cX4_canShow 23 = .ok (.ireturn, 1) := by decide +kernel
theorem dX4_isFresh_0 : decode cX4_isFresh 0 = .ok (.aload_n 0, 1) := by decide +kernel
theorem dX4_isFresh_1 : decode cX4_isFresh 1 = .ok (.iload_n 1, 1) := by decide +kernel
theorem dX4_isFresh_2 : decode cX4_isFresh 2 = .ok (.invokevirtual 29, 3) := by decide +kernel
theorem dX4_isFresh_5 : decode cX4_isFresh 5 = .ok (.ifCond .eq 16, 3) := by decide +kernel
theorem dX4_isFresh_8 : decode cX4_isFresh 8 = .ok (.aload_n 0, 1) := by decide +kernel
theorem dX4_isFresh_9 : decode cX4_isFresh 9 = .ok (.iload_n 1, 1) := by decide +kernel
theorem dX4_isFresh_10 : decode cX4_isFresh 10 = .ok (.iconst 3, 1) := by decide +kernel
theorem dX4_isFresh_11 : decode cX4_isFresh 11 = .ok (.invokevirtual 25, 3) := by decide +kernel
theorem dX4_isFresh_14 : decode cX4_isFresh 14 = .ok (.ifCond .ne 7, 3) := by decide +kernel
theorem dX4_isFresh_17 : decode cX4_isFresh 17 = .ok (.iconst 1, 1) := by decide +kernel
theorem dX4_isFresh_18 : decode cX4_isFresh 18 = .ok (.goto 4, 3) := by decide +kernel
theorem dX4_isFresh_21 : decode cX4_isFresh 21 = .ok (.iconst 0, 1) := by decide +kernel
theorem dX4_isFresh_22 : decode cX4_isFresh 22 = .ok (.ireturn, 1) := by decide +kernel
theorem dX4_canPay_0 : decode cX4_canPay 0 = .ok (.aload_n 0, 1) := by decide +kernel
theorem dX4_canPay_1 : decode cX4_canPay 1 = .ok (.iload_n 1, 1) := by decide +kernel
theorem dX4_canPay_2 : decode cX4_canPay 2 = .ok (.iconst 2, 1) := by decide +kernel
theorem dX4_canPay_3 : decode cX4_canPay 3 = .ok (.invokevirtual 25, 3) := by decide +kernel
theorem dX4_canPay_6 : decode cX4_canPay 6 = .ok (.iload_n 2, 1) := by decide +kernel
theorem dX4_canPay_7 : decode cX4_canPay 7 = .ok (.aload_n 0, 1) := by decide +kernel
theorem dX4_canPay_8 : decode cX4_canPay 8 = .ok (.iload_n 1, 1) := by decide +kernel
theorem dX4_canPay_9 : decode cX4_canPay 9 = .ok (.iconst 3, 1) := by decide +kernel
theorem dX4_canPay_10 : decode cX4_canPay 10 = .ok (.invokevirtual 25, 3) := by decide +kernel
theorem dX4_canPay_13 : decode cX4_canPay 13 = .ok (.iload_n 3, 1) := by decide +kernel
theorem dX4_canPay_14 : decode cX4_canPay 14 = .ok (.iadd, 1) := by decide +kernel
theorem dX4_canPay_15 : decode cX4_canPay 15 = .ok (.imul, 1) := by decide +kernel
theorem dX4_canPay_16 : decode cX4_canPay 16 = .ok (.if_icmp .lt 7, 3) := by decide +kernel
theorem dX4_canPay_19 : decode cX4_canPay 19 = .ok (.iconst 1, 1) := by decide +kernel
theorem dX4_canPay_20 : decode cX4_canPay 20 = .ok (.goto 4, 3) := by decide +kernel
theorem dX4_canPay_23 : decode cX4_canPay 23 = .ok (.iconst 0, 1) := by decide +kernel
theorem dX4_canPay_24 : decode cX4_canPay 24 = .ok (.ireturn, 1) := by decide +kernel
theorem dX4_payAndPass_0 : decode cX4_payAndPass 0 = .ok (.aload_n 0, 1) := by decide +kernel
theorem dX4_payAndPass_1 : decode cX4_payAndPass 1 = .ok (.iload_n 1, 1) := by decide +kernel
theorem dX4_payAndPass_2 : decode cX4_payAndPass 2 = .ok (.iconst 2, 1) := by decide +kernel
theorem dX4_payAndPass_3 : decode cX4_payAndPass 3 = .ok (.aload_n 0, 1) := by decide +kernel
theorem dX4_payAndPass_4 : decode cX4_payAndPass 4 = .ok (.iload_n 1, 1) := by decide +kernel
theorem dX4_payAndPass_5 : decode cX4_payAndPass 5 = .ok (.iconst 2, 1) := by decide +kernel
theorem dX4_payAndPass_6 : decode cX4_payAndPass 6 = .ok (.invokevirtual 25, 3) := by decide +kernel
theorem dX4_payAndPass_9 : decode cX4_payAndPass 9 = .ok (.iload_n 2, 1) := by decide +kernel
theorem dX4_payAndPass_10 : decode cX4_payAndPass 10 = .ok (.aload_n 0, 1) := by decide +kernel
theorem dX4_payAndPass_11 : decode cX4_payAndPass 11 = .ok (.iload_n 1, 1) := by decide +kernel
theorem dX4_payAndPass_12 : decode cX4_payAndPass 12 = .ok (.iconst 3, 1) := by decide +kernel
theorem dX4_payAndPass_13 : decode cX4_payAndPass 13 = .ok (.invokevirtual 25, 3) := by decide +kernel
theorem dX4_payAndPass_16 : decode cX4_payAndPass 16 = .ok (.imul, 1) := by decide +kernel
theorem dX4_payAndPass_17 : decode cX4_payAndPass 17 = .ok (.isub, 1) := by decide +kernel
theorem dX4_payAndPass_18 : decode cX4_payAndPass 18 = .ok (.invokevirtual 15, 3) := by decide +kernel
theorem dX4_payAndPass_21 : decode cX4_payAndPass 21 = .ok (.aload_n 0, 1) := by decide +kernel
theorem dX4_payAndPass_22 : decode cX4_payAndPass 22 = .ok (.iload_n 1, 1) := by decide +kernel
theorem dX4_payAndPass_23 : decode cX4_payAndPass 23 = .ok (.iconst 5, 1) := by decide +kernel
theorem dX4_payAndPass_24 : decode cX4_payAndPass 24 = .ok (.iconst 1, 1) := by decide +kernel
theorem dX4_payAndPass_25 : decode cX4_payAndPass 25 = .ok (.invokevirtual 15, 3) := by decide +kernel
theorem dX4_payAndPass_28 : decode cX4_payAndPass 28 = .ok (.return_, 1) := by decide +kernel
theorem dX4_addSign_0 : decode cX4_addSign 0 = .ok (.aload_n 0, 1) := by decide +kernel
theorem dX4_addSign_1 : decode cX4_addSign 1 = .ok (.iload_n 1, 1) := by decide +kernel
theorem dX4_addSign_2 : decode cX4_addSign 2 = .ok (.iconst 3, 1) := by decide +kernel
theorem dX4_addSign_3 : decode cX4_addSign 3 = .ok (.invokevirtual 25, 3) := by decide +kernel
theorem dX4_addSign_6 : decode cX4_addSign 6 = .ok (.istore_n 3, 1) := by decide +kernel
theorem dX4_addSign_7 : decode cX4_addSign 7 = .ok (.iload_n 3, 1) := by decide +kernel
theorem dX4_addSign_8 : decode cX4_addSign 8 = .ok (.iconst 5, 1) := by decide +kernel
theorem dX4_addSign_9 : decode cX4_addSign 9 = .ok (.if_icmp .ge 22, 3) := by decide +kernel
theorem dX4_addSign_12 : decode cX4_addSign 12 = .ok (.aload_n 0, 1) := by decide +kernel
theorem dX4_addSign_13 : decode cX4_addSign 13 = .ok (.iload_n 1, 1) := by decide +kernel
theorem dX4_addSign_14 : decode cX4_addSign 14 = .ok (.bipush 6, 2) := by decide +kernel
theorem dX4_addSign_16 : decode cX4_addSign 16 = .ok (.iload_n 3, 1) := by decide +kernel
theorem dX4_addSign_17 : decode cX4_addSign 17 = .ok (.iadd, 1) := by decide +kernel
theorem dX4_addSign_18 : decode cX4_addSign 18 = .ok (.iload_n 2, 1) := by decide +kernel
theorem dX4_addSign_19 : decode cX4_addSign 19 = .ok (.invokevirtual 15, 3) := by decide +kernel
theorem dX4_addSign_22 : decode cX4_addSign 22 = .ok (.aload_n 0, 1) := by decide +kernel
theorem dX4_addSign_23 : decode cX4_addSign 23 = .ok (.iload_n 1, 1) := by decide +kernel
theorem dX4_addSign_24 : decode cX4_addSign 24 = .ok (.iconst 3, 1) := by decide +kernel
theorem dX4_addSign_25 : decode cX4_addSign 25 = .ok (.iload_n 3, 1) := by decide +kernel
theorem dX4_addSign_26 : decode cX4_addSign 26 = .ok (.iconst 1, 1) := by decide +kernel
theorem dX4_addSign_27 : decode cX4_addSign 27 = .ok (.iadd, 1) := by decide +kernel
theorem dX4_addSign_28 : decode cX4_addSign 28 = .ok (.invokevirtual 15, 3) := by decide +kernel
theorem dX4_addSign_31 : decode cX4_addSign 31 = .ok (.return_, 1) := by decide +kernel
theorem dX4_addWrongGuess_0 : decode cX4_addWrongGuess 0 = .ok (.aload_n 0, 1) := by decide +kernel
theorem dX4_addWrongGuess_1 : decode cX4_addWrongGuess 1 = .ok (.iload_n 1, 1) := by decide +kernel
theorem dX4_addWrongGuess_2 : decode cX4_addWrongGuess 2 = .ok (.iconst 4, 1) := by decide +kernel
theorem dX4_addWrongGuess_3 : decode cX4_addWrongGuess 3 = .ok (.aload_n 0, 1) := by decide +kernel
theorem dX4_addWrongGuess_4 : decode cX4_addWrongGuess 4 = .ok (.iload_n 1, 1) := by decide +kernel
theorem dX4_addWrongGuess_5 : decode cX4_addWrongGuess 5 = .ok (.iconst 4, 1) := by decide +kernel
theorem dX4_addWrongGuess_6 : decode cX4_addWrongGuess 6 = .ok (.invokevirtual 25, 3) := by decide +kernel
theorem dX4_addWrongGuess_9 : decode cX4_addWrongGuess 9 = .ok (.iconst 1, 1) := by decide +kernel
theorem dX4_addWrongGuess_10 : decode cX4_addWrongGuess 10 = .ok (.iload_n 2, 1) := by decide +kernel
theorem dX4_addWrongGuess_11 : decode cX4_addWrongGuess 11 = .ok (.ishl, 1) := by decide +kernel
theorem dX4_addWrongGuess_12 : decode cX4_addWrongGuess 12 = .ok (.ior, 1) := by decide +kernel
theorem dX4_addWrongGuess_13 : decode cX4_addWrongGuess 13 = .ok (.invokevirtual 15, 3) := by decide +kernel
theorem dX4_addWrongGuess_16 : decode cX4_addWrongGuess 16 = .ok (.aload_n 0, 1) := by decide +kernel
theorem dX4_addWrongGuess_17 : decode cX4_addWrongGuess 17 = .ok (.iload_n 1, 1) := by decide +kernel
theorem dX4_addWrongGuess_18 : decode cX4_addWrongGuess 18 = .ok (.iconst 4, 1) := by decide +kernel
theorem dX4_addWrongGuess_19 : decode cX4_addWrongGuess 19 = .ok (.invokevirtual 25, 3) := by decide +kernel
theorem dX4_addWrongGuess_22 : decode cX4_addWrongGuess 22 = .ok (.invokestatic 33, 3) := by decide +kernel
theorem dX4_addWrongGuess_25 : decode cX4_addWrongGuess 25 = .ok (.iconst 3, 1) := by decide +kernel
theorem dX4_addWrongGuess_26 : decode cX4_addWrongGuess 26 = .ok (.if_icmp .lt 10, 3) := by decide +kernel
theorem dX4_addWrongGuess_29 : decode cX4_addWrongGuess 29 = .ok (.aload_n 0, 1) := by decide +kernel
theorem dX4_addWrongGuess_30 : decode cX4_addWrongGuess 30 = .ok (.iload_n 1, 1) := by decide +kernel
theorem dX4_addWrongGuess_31 : decode cX4_addWrongGuess 31 = .ok (.iconst 5, 1) := by decide +kernel
theorem dX4_addWrongGuess_32 : decode cX4_addWrongGuess 32 = .ok (.iconst 2, 1) := by decide +kernel
theorem dX4_addWrongGuess_33 : decode cX4_addWrongGuess 33 = .ok (.invokevirtual 15, 3) := by decide +kernel
theorem dX4_addWrongGuess_36 : decode cX4_addWrongGuess 36 = .ok (.return_, 1) := by decide +kernel
theorem dX5_init_0 : decode cX5_init 0 = .ok (.aload_n 0, 1) := by decide +kernel
theorem dX5_init_1 : decode cX5_init 1 = .ok (.invokespecial 3, 3) := by decide +kernel
theorem dX5_init_4 : decode cX5_init 4 = .ok (.aload_n 0, 1) := by decide +kernel
theorem dX5_init_5 : decode cX5_init 5 = .ok (.bipush 15, 2) := by decide +kernel
theorem dX5_init_7 : decode cX5_init 7 = .ok (.newarray .int, 2) := by decide +kernel
theorem dX5_init_9 : decode cX5_init 9 = .ok (.putfield 9, 3) := by decide +kernel
theorem dX5_init_12 : decode cX5_init 12 = .ok (.aload_n 0, 1) := by decide +kernel
theorem dX5_init_13 : decode cX5_init 13 = .ok (.bipush 120, 2) := by decide +kernel
theorem dX5_init_15 : decode cX5_init 15 = .ok (.newarray .int, 2) := by decide +kernel
theorem dX5_init_17 : decode cX5_init 17 = .ok (.putfield 15, 3) := by decide +kernel
theorem dX5_init_20 : decode cX5_init 20 = .ok (.aload_n 0, 1) := by decide +kernel
theorem dX5_init_21 : decode cX5_init 21 = .ok (.bipush 32, 2) := by decide +kernel
theorem dX5_init_23 : decode cX5_init 23 = .ok (.newarray .int, 2) := by decide +kernel
theorem dX5_init_25 : decode cX5_init 25 = .ok (.putfield 18, 3) := by decide +kernel
theorem dX5_init_28 : decode cX5_init 28 = .ok (.aload_n 0, 1) := by decide +kernel
theorem dX5_init_29 : decode cX5_init 29 = .ok (.iconst 3, 1) := by decide +kernel
theorem dX5_init_30 : decode cX5_init 30 = .ok (.newarray .int, 2) := by decide +kernel
theorem dX5_init_32 : decode cX5_init 32 = .ok (.putfield 21, 3) := by decide +kernel
theorem dX5_init_35 : decode cX5_init 35 = .ok (.aload_n 0, 1) := by decide +kernel
theorem dX5_init_36 : decode cX5_init 36 = .ok (.bipush 8, 2) := by decide +kernel
theorem dX5_init_38 : decode cX5_init 38 = .ok (.newarray .int, 2) := by decide +kernel
theorem dX5_init_40 : decode cX5_init 40 = .ok (.putfield 24, 3) := by decide +kernel
theorem dX5_init_43 : decode cX5_init 43 = .ok (.aload_n 0, 1) := by decide +kernel
theorem dX5_init_44 : decode cX5_init 44 = .ok (.bipush 24, 2) := by decide +kernel
theorem dX5_init_46 : decode cX5_init 46 = .ok (.newarray .int, 2) := by decide +kernel
theorem dX5_init_48 : decode cX5_init 48 = .ok (.putfield 27, 3) := by decide +kernel
theorem dX5_init_51 : decode cX5_init 51 = .ok (.return_, 1) := by decide +kernel
theorem dX5_run_0 : decode cX5_run 0 = .ok (.aload_n 0, 1) := by decide +kernel
theorem dX5_run_1 : decode cX5_run 1 = .ok (.aload_n 1, 1) := by decide +kernel
theorem dX5_run_2 : decode cX5_run 2 = .ok (.aload_n 2, 1) := by decide +kernel
theorem dX5_run_3 : decode cX5_run 3 = .ok (.iload_n 3, 1) := by decide +kernel
theorem dX5_run_4 : decode cX5_run 4 = .ok (.invokevirtual 30, 3) := by decide +kernel
theorem dX5_run_7 : decode cX5_run 7 = .ok (.aload_n 0, 1) := by decide +kernel
theorem dX5_run_8 : decode cX5_run 8 = .ok (.aload_n 1, 1) := by decide +kernel
theorem dX5_run_9 : decode cX5_run 9 = .ok (.aload_n 2, 1) := by decide +kernel
theorem dX5_run_10 : decode cX5_run 10 = .ok (.iload_n 3, 1) := by decide +kernel
theorem dX5_run_11 : decode cX5_run 11 = .ok (.iconst 0, 1) := by decide +kernel
theorem dX5_run_12 : decode cX5_run 12 = .ok (.invokevirtual 34, 3) := by decide +kernel
theorem dX5_run_15 : decode cX5_run 15 = .ok (.invokevirtual 40, 3) := by decide +kernel
theorem dX5_run_18 : decode cX5_run 18 = .ok (.aload_n 0, 1) := by decide +kernel
theorem dX5_run_19 : decode cX5_run 19 = .ok (.iconst 0, 1) := by decide +kernel
theorem dX5_run_20 : decode cX5_run 20 = .ok (.invokevirtual 44, 3) := by decide +kernel
theorem dX5_run_23 : decode cX5_run 23 = .ok (.iconst 3, 1) := by decide +kernel
theorem dX5_run_24 : decode cX5_run 24 = .ok (.iconst 5, 1) := by decide +kernel
theorem dX5_run_25 : decode cX5_run 25 = .ok (.aload_n 2, 1) := by decide +kernel
theorem dX5_run_26 : decode cX5_run 26 = .ok (.iload_n 3, 1) := by decide +kernel
theorem dX5_run_27 : decode cX5_run 27 = .ok (.iconst 3, 1) := by decide +kernel
theorem dX5_run_28 : decode cX5_run 28 = .ok (.invokevirtual 34, 3) := by decide +kernel
theorem dX5_run_31 : decode cX5_run 31 = .ok (.isub, 1) := by decide +kernel
theorem dX5_run_32 : decode cX5_run 32 = .ok (.invokestatic 48, 3) := by decide +kernel
theorem dX5_run_35 : decode cX5_run 35 = .ok (.istore 4, 2) := by decide +kernel
theorem dX5_run_37 : decode cX5_run 37 = .ok (.iconst 1, 1) := by decide +kernel
theorem dX5_run_38 : decode cX5_run 38 = .ok (.istore 5, 2) := by decide +kernel
theorem dX5_run_40 : decode cX5_run 40 = .ok (.iload 5, 2) := by decide +kernel
theorem dX5_run_42 : decode cX5_run 42 = .ok (.iload 4, 2) := by decide +kernel
theorem dX5_run_44 : decode cX5_run 44 = .ok (.if_icmp .gt 15, 3) := by decide +kernel
theorem dX5_run_47 : decode cX5_run 47 = .ok (.aload_n 0, 1) := by decide +kernel
theorem dX5_run_48 : decode cX5_run 48 = .ok (.iload 5, 2) := by decide +kernel
theorem dX5_run_50 : decode cX5_run 50 = .ok (.invokevirtual 53, 3) := by decide +kernel
theorem dX5_run_53 : decode cX5_run 53 = .ok (.iinc 5 1, 3) := by decide +kernel
theorem dX5_run_56 : decode cX5_run 56 = .ok (.goto (-16), 3) := by decide +kernel
theorem dX5_run_59 : decode cX5_run 59 = .ok (.return_, 1) := by decide +kernel
theorem dX5_howMany_0 : decode cX5_howMany 0 = .ok (.iload_n 1, 1) := by decide +kernel
theorem dX5_howMany_1 : decode cX5_howMany 1 = .ok (.ifCond .lt 20, 3) := by decide +kernel
theorem dX5_howMany_4 : decode cX5_howMany 4 = .ok (.iload_n 1, 1) := by decide +kernel
theorem dX5_howMany_5 : decode cX5_howMany 5 = .ok (.aload_n 0, 1) := by decide +kernel
theorem dX5_howMany_6 : decode cX5_howMany 6 = .ok (.getfield 56, 3) := by decide +kernel
theorem dX5_howMany_9 : decode cX5_howMany 9 = .ok (.if_icmp .ge 12, 3) := by decide +kernel
theorem dX5_howMany_12 : decode cX5_howMany 12 = .ok (.aload_n 0, 1) := by decide +kernel
theorem dX5_howMany_13 : decode cX5_howMany 13 = .ok (.getfield 24, 3) := by decide +kernel
theorem dX5_howMany_16 : decode cX5_howMany 16 = .ok (.iload_n 1, 1) := by decide +kernel
theorem dX5_howMany_17 : decode cX5_howMany 17 = .ok (.iaload, 1) := by decide +kernel
theorem dX5_howMany_18 : decode cX5_howMany 18 = .ok (.goto 5, 3) := by decide +kernel
theorem dX5_howMany_21 : decode cX5_howMany 21 = .ok (.bipush (-4), 2) := by decide +kernel
theorem dX5_howMany_23 : decode cX5_howMany 23 = .ok (.ireturn, 1) := by decide +kernel
theorem dX5_signOf_0 : decode cX5_signOf 0 = .ok (.iload_n 2, 1) := by decide +kernel
theorem dX5_signOf_1 : decode cX5_signOf 1 = .ok (.ifCond .lt 30, 3) := by decide +kernel
theorem dX5_signOf_4 : decode cX5_signOf 4 = .ok (.iload_n 2, 1) := by decide +kernel
theorem dX5_signOf_5 : decode cX5_signOf 5 = .ok (.aload_n 0, 1) := by decide +kernel
theorem dX5_signOf_6 : decode cX5_signOf 6 = .ok (.iload_n 1, 1) := by decide +kernel
theorem dX5_signOf_7 : decode cX5_signOf 7 = .ok (.invokevirtual 60, 3) := by decide +kernel
theorem dX5_signOf_10 : decode cX5_signOf 10 = .ok (.if_icmp .ge 21, 3) := by decide +kernel
theorem dX5_signOf_13 : decode cX5_signOf 13 = .ok (.iload_n 2, 1) := by decide +kernel
theorem dX5_signOf_14 : decode cX5_signOf 14 = .ok (.iconst 3, 1) := by decide +kernel
theorem dX5_signOf_15 : decode cX5_signOf 15 = .ok (.if_icmp .ge 16, 3) := by decide +kernel
theorem dX5_signOf_18 : decode cX5_signOf 18 = .ok (.aload_n 0, 1) := by decide +kernel
theorem dX5_signOf_19 : decode cX5_signOf 19 = .ok (.getfield 27, 3) := by decide +kernel
theorem dX5_signOf_22 : decode cX5_signOf 22 = .ok (.iload_n 1, 1) := by decide +kernel
theorem dX5_signOf_23 : decode cX5_signOf 23 = .ok (.iconst 3, 1) := by decide +kernel
theorem dX5_signOf_24 : decode cX5_signOf 24 = .ok (.imul, 1) := by decide +kernel
theorem dX5_signOf_25 : decode cX5_signOf 25 = .ok (.iload_n 2, 1) := by decide +kernel
theorem dX5_signOf_26 : decode cX5_signOf 26 = .ok (.iadd, 1) := by decide +kernel
theorem dX5_signOf_27 : decode cX5_signOf 27 = .ok (.iaload, 1) := by decide +kernel
theorem dX5_signOf_28 : decode cX5_signOf 28 = .ok (.goto 5, 3) := by decide +kernel
theorem dX5_signOf_31 : decode cX5_signOf 31 = .ok (.bipush (-4), 2) := by decide +kernel
theorem dX5_signOf_33 : decode cX5_signOf 33 = .ok (.ireturn, 1) := by decide +kernel
theorem dX5_weighAtFirst_0 : decode cX5_weighAtFirst 0 = .ok (.aload_n 0, 1) := by decide +kernel
theorem dX5_weighAtFirst_1 : decode cX5_weighAtFirst 1 = .ok (.aload_n 1, 1) := by decide +kernel
theorem dX5_weighAtFirst_2 : decode cX5_weighAtFirst 2 = .ok (.invokevirtual 64, 3) := by decide +kernel
theorem dX5_weighAtFirst_5 : decode cX5_weighAtFirst 5 = .ok (.bipush 8, 2) := by decide +kernel
theorem dX5_weighAtFirst_7 : decode cX5_weighAtFirst 7 = .ok (.invokestatic 48, 3) := by decide +kernel
theorem dX5_weighAtFirst_10 : decode cX5_weighAtFirst 10 = .ok (.putfield 56, 3) := by decide +kernel
theorem dX5_weighAtFirst_13 : decode cX5_weighAtFirst 13 = .ok (.aload_n 0, 1) := by decide +kernel
theorem dX5_weighAtFirst_14 : decode cX5_weighAtFirst 14 = .ok (.iconst 0, 1) := by decide +kernel
theorem dX5_weighAtFirst_15 : decode cX5_weighAtFirst 15 = .ok (.putfield 69, 3) := by decide +kernel
theorem dX5_weighAtFirst_18 : decode cX5_weighAtFirst 18 = .ok (.iconst 0, 1) := by decide +kernel
theorem dX5_weighAtFirst_19 : decode cX5_weighAtFirst 19 = .ok (.istore 4, 2) := by decide +kernel
theorem dX5_weighAtFirst_21 : decode cX5_weighAtFirst 21 = .ok (.iload 4, 2) := by decide +kernel
theorem dX5_weighAtFirst_23 : decode cX5_weighAtFirst 23 = .ok (.aload_n 0, 1) := by decide +kernel
theorem dX5_weighAtFirst_24 : decode cX5_weighAtFirst 24 = .ok (.getfield 56, 3) := by decide +kernel
theorem dX5_weighAtFirst_27 : decode cX5_weighAtFirst 27 = .ok (.if_icmp .ge 59, 3) := by decide +kernel
theorem dX5_weighAtFirst_30 : decode cX5_weighAtFirst 30 = .ok (.aload_n 0, 1) := by decide +kernel
theorem dX5_weighAtFirst_31 : decode cX5_weighAtFirst 31 = .ok (.getfield 24, 3) := by decide +kernel
theorem dX5_weighAtFirst_34 : decode cX5_weighAtFirst 34 = .ok (.iload 4, 2) := by decide +kernel
theorem dX5_weighAtFirst_36 : decode cX5_weighAtFirst 36 = .ok (.bipush (-4), 2) := by decide +kernel
theorem dX5_weighAtFirst_38 : decode cX5_weighAtFirst 38 = .ok (.iastore, 1) := by decide +kernel
theorem dX5_weighAtFirst_39 : decode cX5_weighAtFirst 39 = .ok (.aload_n 0, 1) := by decide +kernel
theorem dX5_weighAtFirst_40 : decode cX5_weighAtFirst 40 = .ok (.getfield 18, 3) := by decide +kernel
theorem dX5_weighAtFirst_43 : decode cX5_weighAtFirst 43 = .ok (.iload 4, 2) := by decide +kernel
theorem dX5_weighAtFirst_45 : decode cX5_weighAtFirst 45 = .ok (.aload_n 1, 1) := by decide +kernel
theorem dX5_weighAtFirst_46 : decode cX5_weighAtFirst 46 = .ok (.aload_n 2, 1) := by decide +kernel
theorem dX5_weighAtFirst_47 : decode cX5_weighAtFirst 47 = .ok (.iload_n 3, 1) := by decide +kernel
theorem dX5_weighAtFirst_48 : decode cX5_weighAtFirst 48 = .ok (.iload 4, 2) := by decide +kernel
theorem dX5_weighAtFirst_50 : decode cX5_weighAtFirst 50 = .ok (.bipush 31, 2) := by decide +kernel
theorem dX5_weighAtFirst_52 : decode cX5_weighAtFirst 52 = .ok (.aload_n 1, 1) := by decide +kernel
theorem dX5_weighAtFirst_53 : decode cX5_weighAtFirst 53 = .ok (.invokevirtual 72, 3) := by decide +kernel
theorem dX5_weighAtFirst_56 : decode cX5_weighAtFirst 56 = .ok (.invokevirtual 75, 3) := by decide +kernel
theorem dX5_weighAtFirst_59 : decode cX5_weighAtFirst 59 = .ok (.iastore, 1) := by decide +kernel
theorem dX5_weighAtFirst_60 : decode cX5_weighAtFirst 60 = .ok (.aload_n 0, 1) := by decide +kernel
theorem dX5_weighAtFirst_61 : decode cX5_weighAtFirst 61 = .ok (.getfield 18, 3) := by decide +kernel
theorem dX5_weighAtFirst_64 : decode cX5_weighAtFirst 64 = .ok (.iload 4, 2) := by decide +kernel
theorem dX5_weighAtFirst_66 : decode cX5_weighAtFirst 66 = .ok (.iaload, 1) := by decide +kernel
theorem dX5_weighAtFirst_67 : decode cX5_weighAtFirst 67 = .ok (.ifCond .le 13, 3) := by decide +kernel
theorem dX5_weighAtFirst_70 : decode cX5_weighAtFirst 70 = .ok (.aload_n 0, 1) := by decide +kernel
theorem dX5_weighAtFirst_71 : decode cX5_weighAtFirst 71 = .ok (.dup, 1) := by decide +kernel
theorem dX5_weighAtFirst_72 : decode cX5_weighAtFirst 72 = .ok (.getfield 69, 3) := by decide +kernel
theorem dX5_weighAtFirst_75 : decode cX5_weighAtFirst 75 = .ok (.iconst 1, 1) := by decide +kernel
theorem dX5_weighAtFirst_76 : decode cX5_weighAtFirst 76 = .ok (.iadd, 1) := by decide +kernel
theorem dX5_weighAtFirst_77 : decode cX5_weighAtFirst 77 = .ok (.putfield 69, 3) := by decide +kernel
theorem dX5_weighAtFirst_80 : decode cX5_weighAtFirst 80 = .ok (.iinc 4 1, 3) := by decide +kernel
theorem dX5_weighAtFirst_83 : decode cX5_weighAtFirst 83 = .ok (.goto (-62), 3) := by decide +kernel
theorem dX5_weighAtFirst_86 : decode cX5_weighAtFirst 86 = .ok (.return_, 1) := by decide +kernel
theorem dX5_findFree_0 : decode cX5_findFree 0 = .ok (.aload_n 0, 1) := by decide +kernel
theorem dX5_findFree_1 : decode cX5_findFree 1 = .ok (.iconst 0, 1) := by decide +kernel
theorem dX5_findFree_2 : decode cX5_findFree 2 = .ok (.putfield 79, 3) := by decide +kernel
theorem dX5_findFree_5 : decode cX5_findFree 5 = .ok (.iconst 0, 1) := by decide +kernel
theorem dX5_findFree_6 : decode cX5_findFree 6 = .ok (.istore_n 3, 1) := by decide +kernel
theorem dX5_findFree_7 : decode cX5_findFree 7 = .ok (.iload_n 3, 1) := by decide +kernel
theorem dX5_findFree_8 : decode cX5_findFree 8 = .ok (.aload_n 1, 1) := by decide +kernel
theorem dX5_findFree_9 : decode cX5_findFree 9 = .ok (.invokevirtual 82, 3) := by decide +kernel
theorem dX5_findFree_12 : decode cX5_findFree 12 = .ok (.if_icmp .ge 88, 3) := by decide +kernel
theorem dX5_findFree_15 : decode cX5_findFree 15 = .ok (.iload_n 3, 1) := by decide +kernel
theorem dX5_findFree_16 : decode cX5_findFree 16 = .ok (.bipush 15, 2) := by decide +kernel
theorem dX5_findFree_18 : decode cX5_findFree 18 = .ok (.if_icmp .ge 82, 3) := by decide +kernel
theorem dX5_findFree_21 : decode cX5_findFree 21 = .ok (.aload_n 1, 1) := by decide +kernel
theorem dX5_findFree_22 : decode cX5_findFree 22 = .ok (.iload_n 3, 1) := by decide +kernel
theorem dX5_findFree_23 : decode cX5_findFree 23 = .ok (.invokevirtual 84, 3) := by decide +kernel
theorem dX5_findFree_26 : decode cX5_findFree 26 = .ok (.ifCond .ne 68, 3) := by decide +kernel
theorem dX5_findFree_29 : decode cX5_findFree 29 = .ok (.aload_n 0, 1) := by decide +kernel
theorem dX5_findFree_30 : decode cX5_findFree 30 = .ok (.getfield 9, 3) := by decide +kernel
theorem dX5_findFree_33 : decode cX5_findFree 33 = .ok (.aload_n 0, 1) := by decide +kernel
theorem dX5_findFree_34 : decode cX5_findFree 34 = .ok (.getfield 79, 3) := by decide +kernel
theorem dX5_findFree_37 : decode cX5_findFree 37 = .ok (.iload_n 3, 1) := by decide +kernel
theorem dX5_findFree_38 : decode cX5_findFree 38 = .ok (.iastore, 1) := by decide +kernel
theorem dX5_findFree_39 : decode cX5_findFree 39 = .ok (.iconst 0, 1) := by decide +kernel
theorem dX5_findFree_40 : decode cX5_findFree 40 = .ok (.istore 4, 2) := by decide +kernel
theorem dX5_findFree_42 : decode cX5_findFree 42 = .ok (.iload 4, 2) := by decide +kernel
theorem dX5_findFree_44 : decode cX5_findFree 44 = .ok (.aload_n 0, 1) := by decide +kernel
theorem dX5_findFree_45 : decode cX5_findFree 45 = .ok (.getfield 56, 3) := by decide +kernel
theorem dX5_findFree_48 : decode cX5_findFree 48 = .ok (.if_icmp .ge 36, 3) := by decide +kernel
theorem dX5_findFree_51 : decode cX5_findFree 51 = .ok (.aload_n 0, 1) := by decide +kernel
theorem dX5_findFree_52 : decode cX5_findFree 52 = .ok (.getfield 15, 3) := by decide +kernel
theorem dX5_findFree_55 : decode cX5_findFree 55 = .ok (.aload_n 0, 1) := by decide +kernel
theorem dX5_findFree_56 : decode cX5_findFree 56 = .ok (.getfield 79, 3) := by decide +kernel
theorem dX5_findFree_59 : decode cX5_findFree 59 = .ok (.bipush 8, 2) := by decide +kernel
theorem dX5_findFree_61 : decode cX5_findFree 61 = .ok (.imul, 1) := by decide +kernel
theorem dX5_findFree_62 : decode cX5_findFree 62 = .ok (.iload 4, 2) := by decide +kernel
theorem dX5_findFree_64 : decode cX5_findFree 64 = .ok (.iadd, 1) := by decide +kernel
theorem dX5_findFree_65 : decode cX5_findFree 65 = .ok (.aload_n 1, 1) := by decide +kernel
theorem dX5_findFree_66 : decode cX5_findFree 66 = .ok (.iload_n 2, 1) := by decide +kernel
theorem dX5_findFree_67 : decode cX5_findFree 67 = .ok (.iload_n 3, 1) := by decide +kernel
theorem dX5_findFree_68 : decode cX5_findFree 68 = .ok (.iload 4, 2) := by decide +kernel
theorem dX5_findFree_70 : decode cX5_findFree 70 = .ok (.aload_n 1, 1) := by decide +kernel
theorem dX5_findFree_71 : decode cX5_findFree 71 = .ok (.invokevirtual 72, 3) := by decide +kernel
theorem dX5_findFree_74 : decode cX5_findFree 74 = .ok (.invokevirtual 88, 3) := by decide +kernel
theorem dX5_findFree_77 : decode cX5_findFree 77 = .ok (.iastore, 1) := by decide +kernel
theorem dX5_findFree_78 : decode cX5_findFree 78 = .ok (.iinc 4 1, 3) := by decide +kernel
theorem dX5_findFree_81 : decode cX5_findFree 81 = .ok (.goto (-39), 3) := by decide +kernel
theorem dX5_findFree_84 : decode cX5_findFree 84 = .ok (.aload_n 0, 1) := by decide +kernel
theorem dX5_findFree_85 : decode cX5_findFree 85 = .ok (.dup, 1) := by decide +kernel
theorem dX5_findFree_86 : decode cX5_findFree 86 = .ok (.getfield 79, 3) := by decide +kernel
theorem dX5_findFree_89 : decode cX5_findFree 89 = .ok (.iconst 1, 1) := by decide +kernel
theorem dX5_findFree_90 : decode cX5_findFree 90 = .ok (.iadd, 1) := by decide +kernel
theorem dX5_findFree_91 : decode cX5_findFree 91 = .ok (.putfield 79, 3) := by decide +kernel
theorem dX5_findFree_94 : decode cX5_findFree 94 = .ok (.iinc 3 1, 3) := by decide +kernel
theorem dX5_findFree_97 : decode cX5_findFree 97 = .ok (.goto (-90), 3) := by decide +kernel
theorem dX5_findFree_100 : decode cX5_findFree 100 = .ok (.return_, 1) := by decide +kernel
theorem dX5_tryRows_0 : decode cX5_tryRows 0 = .ok (.iload_n 1, 1) := by decide +kernel
theorem dX5_tryRows_1 : decode cX5_tryRows 1 = .ok (.iconst 3, 1) := by decide +kernel
theorem dX5_tryRows_2 : decode cX5_tryRows 2 = .ok (.invokestatic 48, 3) := by decide +kernel
theorem dX5_tryRows_5 : decode cX5_tryRows 5 = .ok (.iconst 1, 1) := by decide +kernel
theorem dX5_tryRows_6 : decode cX5_tryRows 6 = .ok (.isub, 1) := by decide +kernel
theorem dX5_tryRows_7 : decode cX5_tryRows 7 = .ok (.istore_n 2, 1) := by decide +kernel
theorem dX5_tryRows_8 : decode cX5_tryRows 8 = .ok (.iconst 0, 1) := by decide +kernel
theorem dX5_tryRows_9 : decode cX5_tryRows 9 = .ok (.istore_n 3, 1) := by decide +kernel
theorem dX5_tryRows_10 : decode cX5_tryRows 10 = .ok (.iconst 0, 1) := by decide +kernel
theorem dX5_tryRows_11 : decode cX5_tryRows 11 = .ok (.istore 4, 2) := by decide +kernel
theorem dX5_tryRows_13 : decode cX5_tryRows 13 = .ok (.iconst 0, 1) := by decide +kernel
theorem dX5_tryRows_14 : decode cX5_tryRows 14 = .ok (.istore 5, 2) := by decide +kernel
theorem dX5_tryRows_16 : decode cX5_tryRows 16 = .ok (.iload 5, 2) := by decide +kernel
theorem dX5_tryRows_18 : decode cX5_tryRows 18 = .ok (.sipush 10000, 3) := by decide +kernel
theorem dX5_tryRows_21 : decode cX5_tryRows 21 = .ok (.if_icmp .ge 111, 3) := by decide +kernel
theorem dX5_tryRows_24 : decode cX5_tryRows 24 = .ok (.iload_n 3, 1) := by decide +kernel
theorem dX5_tryRows_25 : decode cX5_tryRows 25 = .ok (.ifCond .lt 107, 3) := by decide +kernel
theorem dX5_tryRows_28 : decode cX5_tryRows 28 = .ok (.iload 4, 2) := by decide +kernel
theorem dX5_tryRows_30 : decode cX5_tryRows 30 = .ok (.aload_n 0, 1) := by decide +kernel
theorem dX5_tryRows_31 : decode cX5_tryRows 31 = .ok (.getfield 79, 3) := by decide +kernel
theorem dX5_tryRows_34 : decode cX5_tryRows 34 = .ok (.if_icmp .ge 98, 3) := by decide +kernel
theorem dX5_tryRows_37 : decode cX5_tryRows 37 = .ok (.aload_n 0, 1) := by decide +kernel
theorem dX5_tryRows_38 : decode cX5_tryRows 38 = .ok (.getfield 69, 3) := by decide +kernel
theorem dX5_tryRows_41 : decode cX5_tryRows 41 = .ok (.ifCond .le 91, 3) := by decide +kernel
theorem dX5_tryRows_44 : decode cX5_tryRows 44 = .ok (.iload_n 3, 1) := by decide +kernel
theorem dX5_tryRows_45 : decode cX5_tryRows 45 = .ok (.istore 6, 2) := by decide +kernel
theorem dX5_tryRows_47 : decode cX5_tryRows 47 = .ok (.iload 6, 2) := by decide +kernel
theorem dX5_tryRows_49 : decode cX5_tryRows 49 = .ok (.iload_n 2, 1) := by decide +kernel
theorem dX5_tryRows_50 : decode cX5_tryRows 50 = .ok (.if_icmp .gt 26, 3) := by decide +kernel
theorem dX5_tryRows_53 : decode cX5_tryRows 53 = .ok (.aload_n 0, 1) := by decide +kernel
theorem dX5_tryRows_54 : decode cX5_tryRows 54 = .ok (.getfield 21, 3) := by decide +kernel
theorem dX5_tryRows_57 : decode cX5_tryRows 57 = .ok (.iload 6, 2) := by decide +kernel
theorem dX5_tryRows_59 : decode cX5_tryRows 59 = .ok (.iload 4, 2) := by decide +kernel
theorem dX5_tryRows_61 : decode cX5_tryRows 61 = .ok (.iastore, 1) := by decide +kernel
theorem dX5_tryRows_62 : decode cX5_tryRows 62 = .ok (.aload_n 0, 1) := by decide +kernel
theorem dX5_tryRows_63 : decode cX5_tryRows 63 = .ok (.iload 6, 2) := by decide +kernel
theorem dX5_tryRows_65 : decode cX5_tryRows 65 = .ok (.iload 4, 2) := by decide +kernel
theorem dX5_tryRows_67 : decode cX5_tryRows 67 = .ok (.invokevirtual 92, 3) := by decide +kernel
theorem dX5_tryRows_70 : decode cX5_tryRows 70 = .ok (.iinc 6 1, 3) := by decide +kernel
theorem dX5_tryRows_73 : decode cX5_tryRows 73 = .ok (.goto (-26), 3) := by decide +kernel
theorem dX5_tryRows_76 : decode cX5_tryRows 76 = .ok (.aload_n 0, 1) := by decide +kernel
theorem dX5_tryRows_77 : decode cX5_tryRows 77 = .ok (.iload_n 1, 1) := by decide +kernel
theorem dX5_tryRows_78 : decode cX5_tryRows 78 = .ok (.invokevirtual 44, 3) := by decide +kernel
theorem dX5_tryRows_81 : decode cX5_tryRows 81 = .ok (.iload_n 2, 1) := by decide +kernel
theorem dX5_tryRows_82 : decode cX5_tryRows 82 = .ok (.istore_n 3, 1) := by decide +kernel
theorem dX5_tryRows_83 : decode cX5_tryRows 83 = .ok (.iload_n 3, 1) := by decide +kernel
theorem dX5_tryRows_84 : decode cX5_tryRows 84 = .ok (.ifCond .lt 24, 3) := by decide +kernel
theorem dX5_tryRows_87 : decode cX5_tryRows 87 = .ok (.aload_n 0, 1) := by decide +kernel
theorem dX5_tryRows_88 : decode cX5_tryRows 88 = .ok (.getfield 21, 3) := by decide +kernel
theorem dX5_tryRows_91 : decode cX5_tryRows 91 = .ok (.iload_n 3, 1) := by decide +kernel
theorem dX5_tryRows_92 : decode cX5_tryRows 92 = .ok (.iaload, 1) := by decide +kernel
theorem dX5_tryRows_93 : decode cX5_tryRows 93 = .ok (.iconst 1, 1) := by decide +kernel
theorem dX5_tryRows_94 : decode cX5_tryRows 94 = .ok (.iadd, 1) := by decide +kernel
theorem dX5_tryRows_95 : decode cX5_tryRows 95 = .ok (.aload_n 0, 1) := by decide +kernel
theorem dX5_tryRows_96 : decode cX5_tryRows 96 = .ok (.getfield 79, 3) := by decide +kernel
theorem dX5_tryRows_99 : decode cX5_tryRows 99 = .ok (.if_icmp .lt 9, 3) := by decide +kernel
theorem dX5_tryRows_102 : decode cX5_tryRows 102 = .ok (.iinc 3 (-1), 3) := by decide +kernel
theorem dX5_tryRows_105 : decode cX5_tryRows 105 = .ok (.goto (-22), 3) := by decide +kernel
theorem dX5_tryRows_108 : decode cX5_tryRows 108 = .ok (.iload_n 3, 1) := by decide +kernel
theorem dX5_tryRows_109 : decode cX5_tryRows 109 = .ok (.ifCond .lt 14, 3) := by decide +kernel
theorem dX5_tryRows_112 : decode cX5_tryRows 112 = .ok (.aload_n 0, 1) := by decide +kernel
theorem dX5_tryRows_113 : decode cX5_tryRows 113 = .ok (.getfield 21, 3) := by decide +kernel
theorem dX5_tryRows_116 : decode cX5_tryRows 116 = .ok (.iload_n 3, 1) := by decide +kernel
theorem dX5_tryRows_117 : decode cX5_tryRows 117 = .ok (.iaload, 1) := by decide +kernel
theorem dX5_tryRows_118 : decode cX5_tryRows 118 = .ok (.iconst 1, 1) := by decide +kernel
theorem dX5_tryRows_119 : decode cX5_tryRows 119 = .ok (.iadd, 1) := by decide +kernel
theorem dX5_tryRows_120 : decode cX5_tryRows 120 = .ok (.goto 4, 3) := by decide +kernel
theorem dX5_tryRows_123 : decode cX5_tryRows 123 = .ok (.iconst 0, 1) := by decide +kernel
theorem dX5_tryRows_124 : decode cX5_tryRows 124 = .ok (.istore 4, 2) := by decide +kernel
theorem dX5_tryRows_126 : decode cX5_tryRows 126 = .ok (.iinc 5 1, 3) := by decide +kernel
theorem dX5_tryRows_129 : decode cX5_tryRows 129 = .ok (.goto (-113), 3) := by decide +kernel
theorem dX5_tryRows_132 : decode cX5_tryRows 132 = .ok (.return_, 1) := by decide +kernel
theorem dX5_multiply_0 : decode cX5_multiply 0 = .ok (.iload_n 1, 1) := by decide +kernel
theorem dX5_multiply_1 : decode cX5_multiply 1 = .ok (.bipush 8, 2) := by decide +kernel
theorem dX5_multiply_3 : decode cX5_multiply 3 = .ok (.imul, 1) := by decide +kernel
theorem dX5_multiply_4 : decode cX5_multiply 4 = .ok (.istore_n 3, 1) := by decide +kernel
theorem dX5_multiply_5 : decode cX5_multiply 5 = .ok (.iload_n 3, 1) := by decide +kernel
theorem dX5_multiply_6 : decode cX5_multiply 6 = .ok (.bipush 8, 2) := by decide +kernel
theorem dX5_multiply_8 : decode cX5_multiply 8 = .ok (.iadd, 1) := by decide +kernel
theorem dX5_multiply_9 : decode cX5_multiply 9 = .ok (.istore 4, 2) := by decide +kernel
theorem dX5_multiply_11 : decode cX5_multiply 11 = .ok (.iload_n 2, 1) := by decide +kernel
theorem dX5_multiply_12 : decode cX5_multiply 12 = .ok (.bipush 8, 2) := by decide +kernel
theorem dX5_multiply_14 : decode cX5_multiply 14 = .ok (.imul, 1) := by decide +kernel
theorem dX5_multiply_15 : decode cX5_multiply 15 = .ok (.istore 5, 2) := by decide +kernel
theorem dX5_multiply_17 : decode cX5_multiply 17 = .ok (.iload_n 3, 1) := by decide +kernel
theorem dX5_multiply_18 : decode cX5_multiply 18 = .ok (.ifCond .lt 38, 3) := by decide +kernel
theorem dX5_multiply_21 : decode cX5_multiply 21 = .ok (.iload 4, 2) := by decide +kernel
theorem dX5_multiply_23 : decode cX5_multiply 23 = .ok (.aload_n 0, 1) := by decide +kernel
theorem dX5_multiply_24 : decode cX5_multiply 24 = .ok (.getfield 56, 3) := by decide +kernel
theorem dX5_multiply_27 : decode cX5_multiply 27 = .ok (.iadd, 1) := by decide +kernel
theorem dX5_multiply_28 : decode cX5_multiply 28 = .ok (.aload_n 0, 1) := by decide +kernel
theorem dX5_multiply_29 : decode cX5_multiply 29 = .ok (.getfield 18, 3) := by decide +kernel
theorem dX5_multiply_32 : decode cX5_multiply 32 = .ok (.arraylength, 1) := by decide +kernel
theorem dX5_multiply_33 : decode cX5_multiply 33 = .ok (.if_icmp .gt 23, 3) := by decide +kernel
theorem dX5_multiply_36 : decode cX5_multiply 36 = .ok (.iload 5, 2) := by decide +kernel
theorem dX5_multiply_38 : decode cX5_multiply 38 = .ok (.ifCond .lt 18, 3) := by decide +kernel
theorem dX5_multiply_41 : decode cX5_multiply 41 = .ok (.iload 5, 2) := by decide +kernel
theorem dX5_multiply_43 : decode cX5_multiply 43 = .ok (.aload_n 0, 1) := by decide +kernel
theorem dX5_multiply_44 : decode cX5_multiply 44 = .ok (.getfield 56, 3) := by decide +kernel
theorem dX5_multiply_47 : decode cX5_multiply 47 = .ok (.iadd, 1) := by decide +kernel
theorem dX5_multiply_48 : decode cX5_multiply 48 = .ok (.aload_n 0, 1) := by decide +kernel
theorem dX5_multiply_49 : decode cX5_multiply 49 = .ok (.getfield 15, 3) := by decide +kernel
theorem dX5_multiply_52 : decode cX5_multiply 52 = .ok (.arraylength, 1) := by decide +kernel
theorem dX5_multiply_53 : decode cX5_multiply 53 = .ok (.if_icmp .le 4, 3) := by decide +kernel
theorem dX5_multiply_56 : decode cX5_multiply 56 = .ok (.return_, 1) := by decide +kernel
theorem dX5_multiply_57 : decode cX5_multiply 57 = .ok (.iconst 0, 1) := by decide +kernel
theorem dX5_multiply_58 : decode cX5_multiply 58 = .ok (.istore 6, 2) := by decide +kernel
theorem dX5_multiply_60 : decode cX5_multiply 60 = .ok (.iload 6, 2) := by decide +kernel
theorem dX5_multiply_62 : decode cX5_multiply 62 = .ok (.aload_n 0, 1) := by decide +kernel
theorem dX5_multiply_63 : decode cX5_multiply 63 = .ok (.getfield 56, 3) := by decide +kernel
theorem dX5_multiply_66 : decode cX5_multiply 66 = .ok (.if_icmp .ge 39, 3) := by decide +kernel
theorem dX5_multiply_69 : decode cX5_multiply 69 = .ok (.aload_n 0, 1) := by decide +kernel
theorem dX5_multiply_70 : decode cX5_multiply 70 = .ok (.getfield 18, 3) := by decide +kernel
theorem dX5_multiply_73 : decode cX5_multiply 73 = .ok (.iload 4, 2) := by decide +kernel
theorem dX5_multiply_75 : decode cX5_multiply 75 = .ok (.iload 6, 2) := by decide +kernel
theorem dX5_multiply_77 : decode cX5_multiply 77 = .ok (.iadd, 1) := by decide +kernel
theorem dX5_multiply_78 : decode cX5_multiply 78 = .ok (.aload_n 0, 1) := by decide +kernel
theorem dX5_multiply_79 : decode cX5_multiply 79 = .ok (.getfield 18, 3) := by decide +kernel
theorem dX5_multiply_82 : decode cX5_multiply 82 = .ok (.iload_n 3, 1) := by decide +kernel
theorem dX5_multiply_83 : decode cX5_multiply 83 = .ok (.iload 6, 2) := by decide +kernel
theorem dX5_multiply_85 : decode cX5_multiply 85 = .ok (.iadd, 1) := by decide +kernel
theorem dX5_multiply_86 : decode cX5_multiply 86 = .ok (.iaload, 1) := by decide +kernel
theorem dX5_multiply_87 : decode cX5_multiply 87 = .ok (.aload_n 0, 1) := by decide +kernel
theorem dX5_multiply_88 : decode cX5_multiply 88 = .ok (.getfield 15, 3) := by decide +kernel
theorem dX5_multiply_91 : decode cX5_multiply 91 = .ok (.iload 5, 2) := by decide +kernel
theorem dX5_multiply_93 : decode cX5_multiply 93 = .ok (.iload 6, 2) := by decide +kernel
theorem dX5_multiply_95 : decode cX5_multiply 95 = .ok (.iadd, 1) := by decide +kernel
theorem dX5_multiply_96 : decode cX5_multiply 96 = .ok (.iaload, 1) := by decide +kernel
theorem dX5_multiply_97 : decode cX5_multiply 97 = .ok (.imul, 1) := by decide +kernel
theorem dX5_multiply_98 : decode cX5_multiply 98 = .ok (.iastore, 1) := by decide +kernel
theorem dX5_multiply_99 : decode cX5_multiply 99 = .ok (.iinc 6 1, 3) := by decide +kernel
theorem dX5_multiply_102 : decode cX5_multiply 102 = .ok (.goto (-42), 3) := by decide +kernel
theorem dX5_multiply_105 : decode cX5_multiply 105 = .ok (.return_, 1) := by decide +kernel
theorem dX5_judge_0 : decode cX5_judge 0 = .ok (.aload_n 0, 1) := by decide +kernel
theorem dX5_judge_1 : decode cX5_judge 1 = .ok (.iload_n 1, 1) := by decide +kernel
theorem dX5_judge_2 : decode cX5_judge 2 = .ok (.invokevirtual 96, 3) := by decide +kernel
theorem dX5_judge_5 : decode cX5_judge 5 = .ok (.istore_n 2, 1) := by decide +kernel
theorem dX5_judge_6 : decode cX5_judge 6 = .ok (.iload_n 2, 1) := by decide +kernel
theorem dX5_judge_7 : decode cX5_judge 7 = .ok (.ifCond .lt 22, 3) := by decide +kernel
theorem dX5_judge_10 : decode cX5_judge 10 = .ok (.iload_n 2, 1) := by decide +kernel
theorem dX5_judge_11 : decode cX5_judge 11 = .ok (.aload_n 0, 1) := by decide +kernel
theorem dX5_judge_12 : decode cX5_judge 12 = .ok (.getfield 56, 3) := by decide +kernel
theorem dX5_judge_15 : decode cX5_judge 15 = .ok (.if_icmp .ge 14, 3) := by decide +kernel
theorem dX5_judge_18 : decode cX5_judge 18 = .ok (.aload_n 0, 1) := by decide +kernel
theorem dX5_judge_19 : decode cX5_judge 19 = .ok (.getfield 24, 3) := by decide +kernel
theorem dX5_judge_22 : decode cX5_judge 22 = .ok (.iload_n 2, 1) := by decide +kernel
theorem dX5_judge_23 : decode cX5_judge 23 = .ok (.iaload, 1) := by decide +kernel
theorem dX5_judge_24 : decode cX5_judge 24 = .ok (.bipush (-4), 2) := by decide +kernel
theorem dX5_judge_26 : decode cX5_judge 26 = .ok (.if_icmp .eq 4, 3) := by decide +kernel
theorem dX5_judge_29 : decode cX5_judge 29 = .ok (.return_, 1) := by decide +kernel
theorem dX5_judge_30 : decode cX5_judge 30 = .ok (.aload_n 0, 1) := by decide +kernel
theorem dX5_judge_31 : decode cX5_judge 31 = .ok (.getfield 24, 3) := by decide +kernel
theorem dX5_judge_34 : decode cX5_judge 34 = .ok (.iload_n 2, 1) := by decide +kernel
theorem dX5_judge_35 : decode cX5_judge 35 = .ok (.iload_n 1, 1) := by decide +kernel
theorem dX5_judge_36 : decode cX5_judge 36 = .ok (.iastore, 1) := by decide +kernel
theorem dX5_judge_37 : decode cX5_judge 37 = .ok (.iconst 0, 1) := by decide +kernel
theorem dX5_judge_38 : decode cX5_judge 38 = .ok (.istore_n 3, 1) := by decide +kernel
theorem dX5_judge_39 : decode cX5_judge 39 = .ok (.iload_n 3, 1) := by decide +kernel
theorem dX5_judge_40 : decode cX5_judge 40 = .ok (.iload_n 1, 1) := by decide +kernel
theorem dX5_judge_41 : decode cX5_judge 41 = .ok (.if_icmp .ge 34, 3) := by decide +kernel
theorem dX5_judge_44 : decode cX5_judge 44 = .ok (.iload_n 3, 1) := by decide +kernel
theorem dX5_judge_45 : decode cX5_judge 45 = .ok (.iconst 3, 1) := by decide +kernel
theorem dX5_judge_46 : decode cX5_judge 46 = .ok (.if_icmp .ge 29, 3) := by decide +kernel
theorem dX5_judge_49 : decode cX5_judge 49 = .ok (.aload_n 0, 1) := by decide +kernel
theorem dX5_judge_50 : decode cX5_judge 50 = .ok (.getfield 27, 3) := by decide +kernel
theorem dX5_judge_53 : decode cX5_judge 53 = .ok (.iload_n 2, 1) := by decide +kernel
theorem dX5_judge_54 : decode cX5_judge 54 = .ok (.iconst 3, 1) := by decide +kernel
theorem dX5_judge_55 : decode cX5_judge 55 = .ok (.imul, 1) := by decide +kernel
theorem dX5_judge_56 : decode cX5_judge 56 = .ok (.iload_n 3, 1) := by decide +kernel
theorem dX5_judge_57 : decode cX5_judge 57 = .ok (.iadd, 1) := by decide +kernel
theorem dX5_judge_58 : decode cX5_judge 58 = .ok (.aload_n 0, 1) := by decide +kernel
theorem dX5_judge_59 : decode cX5_judge 59 = .ok (.aload_n 0, 1) := by decide +kernel
theorem dX5_judge_60 : decode cX5_judge 60 = .ok (.getfield 21, 3) := by decide +kernel
theorem dX5_judge_63 : decode cX5_judge 63 = .ok (.iload_n 3, 1) := by decide +kernel
theorem dX5_judge_64 : decode cX5_judge 64 = .ok (.iaload, 1) := by decide +kernel
theorem dX5_judge_65 : decode cX5_judge 65 = .ok (.invokevirtual 99, 3) := by decide +kernel
theorem dX5_judge_68 : decode cX5_judge 68 = .ok (.iastore, 1) := by decide +kernel
theorem dX5_judge_69 : decode cX5_judge 69 = .ok (.iinc 3 1, 3) := by decide +kernel
theorem dX5_judge_72 : decode cX5_judge 72 = .ok (.goto (-33), 3) := by decide +kernel
theorem dX5_judge_75 : decode cX5_judge 75 = .ok (.aload_n 0, 1) := by decide +kernel
theorem dX5_judge_76 : decode cX5_judge 76 = .ok (.dup, 1) := by decide +kernel
theorem dX5_judge_77 : decode cX5_judge 77 = .ok (.getfield 69, 3) := by decide +kernel
theorem dX5_judge_80 : decode cX5_judge 80 = .ok (.iconst 1, 1) := by decide +kernel
theorem dX5_judge_81 : decode cX5_judge 81 = .ok (.isub, 1) := by decide +kernel
theorem dX5_judge_82 : decode cX5_judge 82 = .ok (.putfield 69, 3) := by decide +kernel
theorem dX5_judge_85 : decode cX5_judge 85 = .ok (.return_, 1) := by decide +kernel
theorem dX5_freeAt_0 : decode cX5_freeAt 0 = .ok (.iload_n 1, 1) := by decide +kernel
theorem dX5_freeAt_1 : decode cX5_freeAt 1 = .ok (.ifCond .lt 26, 3) := by decide +kernel
theorem dX5_freeAt_4 : decode cX5_freeAt 4 = .ok (.iload_n 1, 1) := by decide +kernel
theorem dX5_freeAt_5 : decode cX5_freeAt 5 = .ok (.aload_n 0, 1) := by decide +kernel
theorem dX5_freeAt_6 : decode cX5_freeAt 6 = .ok (.getfield 79, 3) := by decide +kernel
theorem dX5_freeAt_9 : decode cX5_freeAt 9 = .ok (.if_icmp .ge 18, 3) := by decide +kernel
theorem dX5_freeAt_12 : decode cX5_freeAt 12 = .ok (.iload_n 1, 1) := by decide +kernel
theorem dX5_freeAt_13 : decode cX5_freeAt 13 = .ok (.bipush 15, 2) := by decide +kernel
theorem dX5_freeAt_15 : decode cX5_freeAt 15 = .ok (.if_icmp .ge 12, 3) := by decide +kernel
theorem dX5_freeAt_18 : decode cX5_freeAt 18 = .ok (.aload_n 0, 1) := by decide +kernel
theorem dX5_freeAt_19 : decode cX5_freeAt 19 = .ok (.getfield 9, 3) := by decide +kernel
theorem dX5_freeAt_22 : decode cX5_freeAt 22 = .ok (.iload_n 1, 1) := by decide +kernel
theorem dX5_freeAt_23 : decode cX5_freeAt 23 = .ok (.iaload, 1) := by decide +kernel
theorem dX5_freeAt_24 : decode cX5_freeAt 24 = .ok (.goto 5, 3) := by decide +kernel
theorem dX5_freeAt_27 : decode cX5_freeAt 27 = .ok (.bipush (-4), 2) := by decide +kernel
theorem dX5_freeAt_29 : decode cX5_freeAt 29 = .ok (.ireturn, 1) := by decide +kernel
theorem dX5_heaviest_0 : decode cX5_heaviest 0 = .ok (.iload_n 1, 1) := by decide +kernel
theorem dX5_heaviest_1 : decode cX5_heaviest 1 = .ok (.bipush 8, 2) := by decide +kernel
theorem dX5_heaviest_3 : decode cX5_heaviest 3 = .ok (.imul, 1) := by decide +kernel
theorem dX5_heaviest_4 : decode cX5_heaviest 4 = .ok (.istore_n 2, 1) := by decide +kernel
theorem dX5_heaviest_5 : decode cX5_heaviest 5 = .ok (.iload_n 2, 1) := by decide +kernel
theorem dX5_heaviest_6 : decode cX5_heaviest 6 = .ok (.ifCond .lt 17, 3) := by decide +kernel
theorem dX5_heaviest_9 : decode cX5_heaviest 9 = .ok (.iload_n 2, 1) := by decide +kernel
theorem dX5_heaviest_10 : decode cX5_heaviest 10 = .ok (.aload_n 0, 1) := by decide +kernel
theorem dX5_heaviest_11 : decode cX5_heaviest 11 = .ok (.getfield 56, 3) := by decide +kernel
theorem dX5_heaviest_14 : decode cX5_heaviest 14 = .ok (.iadd, 1) := by decide +kernel
theorem dX5_heaviest_15 : decode cX5_heaviest 15 = .ok (.aload_n 0, 1) := by decide +kernel
theorem dX5_heaviest_16 : decode cX5_heaviest 16 = .ok (.getfield 18, 3) := by decide +kernel
theorem dX5_heaviest_19 : decode cX5_heaviest 19 = .ok (.arraylength, 1) := by decide +kernel
theorem dX5_heaviest_20 : decode cX5_heaviest 20 = .ok (.if_icmp .le 6, 3) := by decide +kernel
theorem dX5_heaviest_23 : decode cX5_heaviest 23 = .ok (.bipush (-4), 2) := by decide +kernel
theorem dX5_heaviest_25 : decode cX5_heaviest 25 = .ok (.ireturn, 1) := by decide +kernel
theorem dX5_heaviest_26 : decode cX5_heaviest 26 = .ok (.bipush (-4), 2) := by decide +kernel
theorem dX5_heaviest_28 : decode cX5_heaviest 28 = .ok (.istore_n 3, 1) := by decide +kernel
theorem dX5_heaviest_29 : decode cX5_heaviest 29 = .ok (.iconst 0, 1) := by decide +kernel
theorem dX5_heaviest_30 : decode cX5_heaviest 30 = .ok (.istore 4, 2) := by decide +kernel
theorem dX5_heaviest_32 : decode cX5_heaviest 32 = .ok (.iconst 0, 1) := by decide +kernel
theorem dX5_heaviest_33 : decode cX5_heaviest 33 = .ok (.istore 5, 2) := by decide +kernel
theorem dX5_heaviest_35 : decode cX5_heaviest 35 = .ok (.iload 5, 2) := by decide +kernel
theorem dX5_heaviest_37 : decode cX5_heaviest 37 = .ok (.aload_n 0, 1) := by decide +kernel
theorem dX5_heaviest_38 : decode cX5_heaviest 38 = .ok (.getfield 56, 3) := by decide +kernel
theorem dX5_heaviest_41 : decode cX5_heaviest 41 = .ok (.if_icmp .ge 37, 3) := by decide +kernel
theorem dX5_heaviest_44 : decode cX5_heaviest 44 = .ok (.aload_n 0, 1) := by decide +kernel
theorem dX5_heaviest_45 : decode cX5_heaviest 45 = .ok (.getfield 18, 3) := by decide +kernel
theorem dX5_heaviest_48 : decode cX5_heaviest 48 = .ok (.iload_n 2, 1) := by decide +kernel
theorem dX5_heaviest_49 : decode cX5_heaviest 49 = .ok (.iload 5, 2) := by decide +kernel
theorem dX5_heaviest_51 : decode cX5_heaviest 51 = .ok (.iadd, 1) := by decide +kernel
theorem dX5_heaviest_52 : decode cX5_heaviest 52 = .ok (.iaload, 1) := by decide +kernel
theorem dX5_heaviest_53 : decode cX5_heaviest 53 = .ok (.iload 4, 2) := by decide +kernel
theorem dX5_heaviest_55 : decode cX5_heaviest 55 = .ok (.if_icmp .le 17, 3) := by decide +kernel
theorem dX5_heaviest_58 : decode cX5_heaviest 58 = .ok (.aload_n 0, 1) := by decide +kernel
theorem dX5_heaviest_59 : decode cX5_heaviest 59 = .ok (.getfield 18, 3) := by decide +kernel
theorem dX5_heaviest_62 : decode cX5_heaviest 62 = .ok (.iload_n 2, 1) := by decide +kernel
theorem dX5_heaviest_63 : decode cX5_heaviest 63 = .ok (.iload 5, 2) := by decide +kernel
theorem dX5_heaviest_65 : decode cX5_heaviest 65 = .ok (.iadd, 1) := by decide +kernel
theorem dX5_heaviest_66 : decode cX5_heaviest 66 = .ok (.iaload, 1) := by decide +kernel
theorem dX5_heaviest_67 : decode cX5_heaviest 67 = .ok (.istore 4, 2) := by decide +kernel
theorem dX5_heaviest_69 : decode cX5_heaviest 69 = .ok (.iload 5, 2) := by decide +kernel
theorem dX5_heaviest_71 : decode cX5_heaviest 71 = .ok (.istore_n 3, 1) := by decide +kernel
theorem dX5_heaviest_72 : decode cX5_heaviest 72 = .ok (.iinc 5 1, 3) := by decide +kernel
theorem dX5_heaviest_75 : decode cX5_heaviest 75 = .ok (.goto (-40), 3) := by decide +kernel
theorem dX5_heaviest_78 : decode cX5_heaviest 78 = .ok (.iload_n 3, 1) := by decide +kernel
theorem dX5_heaviest_79 : decode cX5_heaviest 79 = .ok (.ireturn, 1) := by decide +kernel
theorem dX6_init_0 : decode cX6_init 0 = .ok (.aload_n 0, 1) := by decide +kernel
theorem dX6_init_1 : decode cX6_init 1 = .ok (.invokespecial 3, 3) := by decide +kernel
theorem dX6_init_4 : decode cX6_init 4 = .ok (.aload_n 0, 1) := by decide +kernel
theorem dX6_init_5 : decode cX6_init 5 = .ok (.bipush 6, 2) := by decide +kernel
theorem dX6_init_7 : decode cX6_init 7 = .ok (.newarray .int, 2) := by decide +kernel
theorem dX6_init_9 : decode cX6_init 9 = .ok (.putfield 9, 3) := by decide +kernel
theorem dX6_init_12 : decode cX6_init 12 = .ok (.aload_n 0, 1) := by decide +kernel
theorem dX6_init_13 : decode cX6_init 13 = .ok (.bipush 6, 2) := by decide +kernel
theorem dX6_init_15 : decode cX6_init 15 = .ok (.newarray .int, 2) := by decide +kernel
theorem dX6_init_17 : decode cX6_init 17 = .ok (.putfield 15, 3) := by decide +kernel
theorem dX6_init_20 : decode cX6_init 20 = .ok (.return_, 1) := by decide +kernel
theorem dX6_size_0 : decode cX6_size 0 = .ok (.aload_n 0, 1) := by decide +kernel
theorem dX6_size_1 : decode cX6_size 1 = .ok (.getfield 18, 3) := by decide +kernel
theorem dX6_size_4 : decode cX6_size 4 = .ok (.ireturn, 1) := by decide +kernel
theorem dX6_add_0 : decode cX6_add 0 = .ok (.aload_n 0, 1) := by decide +kernel
theorem dX6_add_1 : decode cX6_add 1 = .ok (.getfield 18, 3) := by decide +kernel
theorem dX6_add_4 : decode cX6_add 4 = .ok (.ifCond .lt 12, 3) := by decide +kernel
theorem dX6_add_7 : decode cX6_add 7 = .ok (.aload_n 0, 1) := by decide +kernel
theorem dX6_add_8 : decode cX6_add 8 = .ok (.getfield 18, 3) := by decide +kernel
theorem dX6_add_11 : decode cX6_add 11 = .ok (.bipush 6, 2) := by decide +kernel
theorem dX6_add_13 : decode cX6_add 13 = .ok (.if_icmp .lt 6, 3) := by decide +kernel
theorem dX6_add_16 : decode cX6_add 16 = .ok (.bipush (-3), 2) := by decide +kernel
theorem dX6_add_18 : decode cX6_add 18 = .ok (.ireturn, 1) := by decide +kernel
theorem dX6_add_19 : decode cX6_add 19 = .ok (.aload_n 0, 1) := by decide +kernel
theorem dX6_add_20 : decode cX6_add 20 = .ok (.getfield 9, 3) := by decide +kernel
theorem dX6_add_23 : decode cX6_add 23 = .ok (.aload_n 0, 1) := by decide +kernel
theorem dX6_add_24 : decode cX6_add 24 = .ok (.getfield 18, 3) := by decide +kernel
theorem dX6_add_27 : decode cX6_add 27 = .ok (.iload_n 1, 1) := by decide +kernel
theorem dX6_add_28 : decode cX6_add 28 = .ok (.iastore, 1) := by decide +kernel
theorem dX6_add_29 : decode cX6_add 29 = .ok (.aload_n 0, 1) := by decide +kernel
theorem dX6_add_30 : decode cX6_add 30 = .ok (.getfield 15, 3) := by decide +kernel
theorem dX6_add_33 : decode cX6_add 33 = .ok (.aload_n 0, 1) := by decide +kernel
theorem dX6_add_34 : decode cX6_add 34 = .ok (.getfield 18, 3) := by decide +kernel
theorem dX6_add_37 : decode cX6_add 37 = .ok (.iload_n 2, 1) := by decide +kernel
theorem dX6_add_38 : decode cX6_add 38 = .ok (.iastore, 1) := by decide +kernel
theorem dX6_add_39 : decode cX6_add 39 = .ok (.aload_n 0, 1) := by decide +kernel
theorem dX6_add_40 : decode cX6_add 40 = .ok (.dup, 1) := by decide +kernel
theorem dX6_add_41 : decode cX6_add 41 = .ok (.getfield 18, 3) := by decide +kernel
theorem dX6_add_44 : decode cX6_add 44 = .ok (.iconst 1, 1) := by decide +kernel
theorem dX6_add_45 : decode cX6_add 45 = .ok (.iadd, 1) := by decide +kernel
theorem dX6_add_46 : decode cX6_add 46 = .ok (.putfield 18, 3) := by decide +kernel
theorem dX6_add_49 : decode cX6_add 49 = .ok (.aload_n 0, 1) := by decide +kernel
theorem dX6_add_50 : decode cX6_add 50 = .ok (.getfield 18, 3) := by decide +kernel
theorem dX6_add_53 : decode cX6_add 53 = .ok (.ireturn, 1) := by decide +kernel
theorem dX6_clear_0 : decode cX6_clear 0 = .ok (.aload_n 0, 1) := by decide +kernel
theorem dX6_clear_1 : decode cX6_clear 1 = .ok (.getfield 18, 3) := by decide +kernel
theorem dX6_clear_4 : decode cX6_clear 4 = .ok (.istore_n 1, 1) := by decide +kernel
theorem dX6_clear_5 : decode cX6_clear 5 = .ok (.aload_n 0, 1) := by decide +kernel
theorem dX6_clear_6 : decode cX6_clear 6 = .ok (.iconst 0, 1) := by decide +kernel
theorem dX6_clear_7 : decode cX6_clear 7 = .ok (.putfield 18, 3) := by decide +kernel
theorem dX6_clear_10 : decode cX6_clear 10 = .ok (.iload_n 1, 1) := by decide +kernel
theorem dX6_clear_11 : decode cX6_clear 11 = .ok (.ireturn, 1) := by decide +kernel
theorem dX6_holdsBy_0 : decode cX6_holdsBy 0 = .ok (.iconst 0, 1) := by decide +kernel
theorem dX6_holdsBy_1 : decode cX6_holdsBy 1 = .ok (.istore 4, 2) := by decide +kernel
theorem dX6_holdsBy_3 : decode cX6_holdsBy 3 = .ok (.iload 4, 2) := by decide +kernel
theorem dX6_holdsBy_5 : decode cX6_holdsBy 5 = .ok (.aload_n 0, 1) := by decide +kernel
theorem dX6_holdsBy_6 : decode cX6_holdsBy 6 = .ok (.getfield 18, 3) := by decide +kernel
theorem dX6_holdsBy_9 : decode cX6_holdsBy 9 = .ok (.if_icmp .ge 57, 3) := by decide +kernel
theorem dX6_holdsBy_12 : decode cX6_holdsBy 12 = .ok (.iload 4, 2) := by decide +kernel
theorem dX6_holdsBy_14 : decode cX6_holdsBy 14 = .ok (.bipush 6, 2) := by decide +kernel
theorem dX6_holdsBy_16 : decode cX6_holdsBy 16 = .ok (.if_icmp .ge 50, 3) := by decide +kernel
theorem dX6_holdsBy_19 : decode cX6_holdsBy 19 = .ok (.aload_n 3, 1) := by decide +kernel
theorem dX6_holdsBy_20 : decode cX6_holdsBy 20 = .ok (.aload_n 0, 1) := by decide +kernel
theorem dX6_holdsBy_21 : decode cX6_holdsBy 21 = .ok (.getfield 9, 3) := by decide +kernel
theorem dX6_holdsBy_24 : decode cX6_holdsBy 24 = .ok (.iload 4, 2) := by decide +kernel
theorem dX6_holdsBy_26 : decode cX6_holdsBy 26 = .ok (.iaload, 1) := by decide +kernel
theorem dX6_holdsBy_27 : decode cX6_holdsBy 27 = .ok (.invokevirtual 22, 3) := by decide +kernel
theorem dX6_holdsBy_30 : decode cX6_holdsBy 30 = .ok (.ifCond .eq 28, 3) := by decide +kernel
theorem dX6_holdsBy_33 : decode cX6_holdsBy 33 = .ok (.aload_n 2, 1) := by decide +kernel
theorem dX6_holdsBy_34 : decode cX6_holdsBy 34 = .ok (.aload_n 3, 1) := by decide +kernel
theorem dX6_holdsBy_35 : decode cX6_holdsBy 35 = .ok (.aload_n 0, 1) := by decide +kernel
theorem dX6_holdsBy_36 : decode cX6_holdsBy 36 = .ok (.getfield 9, 3) := by decide +kernel
theorem dX6_holdsBy_39 : decode cX6_holdsBy 39 = .ok (.iload 4, 2) := by decide +kernel
theorem dX6_holdsBy_41 : decode cX6_holdsBy 41 = .ok (.iaload, 1) := by decide +kernel
theorem dX6_holdsBy_42 : decode cX6_holdsBy 42 = .ok (.bipush 31, 2) := by decide +kernel
theorem dX6_holdsBy_44 : decode cX6_holdsBy 44 = .ok (.iload_n 1, 1) := by decide +kernel
theorem dX6_holdsBy_45 : decode cX6_holdsBy 45 = .ok (.invokevirtual 28, 3) := by decide +kernel
theorem dX6_holdsBy_48 : decode cX6_holdsBy 48 = .ok (.aload_n 0, 1) := by decide +kernel
theorem dX6_holdsBy_49 : decode cX6_holdsBy 49 = .ok (.getfield 15, 3) := by decide +kernel
theorem dX6_holdsBy_52 : decode cX6_holdsBy 52 = .ok (.iload 4, 2) := by decide +kernel
theorem dX6_holdsBy_54 : decode cX6_holdsBy 54 = .ok (.iaload, 1) := by decide +kernel
theorem dX6_holdsBy_55 : decode cX6_holdsBy 55 = .ok (.if_icmp .eq 5, 3) := by decide +kernel
theorem dX6_holdsBy_58 : decode cX6_holdsBy 58 = .ok (.iconst 0, 1) := by decide +kernel
theorem dX6_holdsBy_59 : decode cX6_holdsBy 59 = .ok (.ireturn, 1) := by decide +kernel
theorem dX6_holdsBy_60 : decode cX6_holdsBy 60 = .ok (.iinc 4 1, 3) := by decide +kernel
theorem dX6_holdsBy_63 : decode cX6_holdsBy 63 = .ok (.goto (-60), 3) := by decide +kernel
theorem dX6_holdsBy_66 : decode cX6_holdsBy 66 = .ok (.iconst 1, 1) := by decide +kernel
theorem dX6_holdsBy_67 : decode cX6_holdsBy 67 = .ok (.ireturn, 1) := by decide +kernel
theorem dX7_init_0 : decode cX7_init 0 = .ok (.aload_n 0, 1) := by decide +kernel
theorem dX7_init_1 : decode cX7_init 1 = .ok (.invokespecial 3, 3) := by decide +kernel
theorem dX7_init_4 : decode cX7_init 4 = .ok (.aload_n 0, 1) := by decide +kernel
theorem dX7_init_5 : decode cX7_init 5 = .ok (.iload_n 1, 1) := by decide +kernel
theorem dX7_init_6 : decode cX7_init 6 = .ok (.ifCond .le 7, 3) := by decide +kernel
theorem dX7_init_9 : decode cX7_init 9 = .ok (.iload_n 1, 1) := by decide +kernel
theorem dX7_init_10 : decode cX7_init 10 = .ok (.goto 4, 3) := by decide +kernel
theorem dX7_init_13 : decode cX7_init 13 = .ok (.iconst 1, 1) := by decide +kernel
theorem dX7_init_14 : decode cX7_init 14 = .ok (.putfield 9, 3) := by decide +kernel
theorem dX7_init_17 : decode cX7_init 17 = .ok (.aload_n 0, 1) := by decide +kernel
theorem dX7_init_18 : decode cX7_init 18 = .ok (.aload_n 0, 1) := by decide +kernel
theorem dX7_init_19 : decode cX7_init 19 = .ok (.getfield 9, 3) := by decide +kernel
theorem dX7_init_22 : decode cX7_init 22 = .ok (.bipush 55, 2) := by decide +kernel
theorem dX7_init_24 : decode cX7_init 24 = .ok (.imul, 1) := by decide +kernel
theorem dX7_init_25 : decode cX7_init 25 = .ok (.newarray .int, 2) := by decide +kernel
theorem dX7_init_27 : decode cX7_init 27 = .ok (.putfield 15, 3) := by decide +kernel
theorem dX7_init_30 : decode cX7_init 30 = .ok (.return_, 1) := by decide +kernel
theorem dX7_size_0 : decode cX7_size 0 = .ok (.aload_n 0, 1) := by decide +kernel
theorem dX7_size_1 : decode cX7_size 1 = .ok (.getfield 19, 3) := by decide +kernel
theorem dX7_size_4 : decode cX7_size 4 = .ok (.ireturn, 1) := by decide +kernel
theorem dX7_clear_0 : decode cX7_clear 0 = .ok (.aload_n 0, 1) := by decide +kernel
theorem dX7_clear_1 : decode cX7_clear 1 = .ok (.iconst 0, 1) := by decide +kernel
theorem dX7_clear_2 : decode cX7_clear 2 = .ok (.putfield 19, 3) := by decide +kernel
theorem dX7_clear_5 : decode cX7_clear 5 = .ok (.return_, 1) := by decide +kernel
theorem dX7_put_0 : decode cX7_put 0 = .ok (.aload_n 0, 1) := by decide +kernel
theorem dX7_put_1 : decode cX7_put 1 = .ok (.getfield 19, 3) := by decide +kernel
theorem dX7_put_4 : decode cX7_put 4 = .ok (.aload_n 0, 1) := by decide +kernel
theorem dX7_put_5 : decode cX7_put 5 = .ok (.getfield 9, 3) := by decide +kernel
theorem dX7_put_8 : decode cX7_put 8 = .ok (.if_icmp .lt 36, 3) := by decide +kernel
theorem dX7_put_11 : decode cX7_put 11 = .ok (.aload_n 0, 1) := by decide +kernel
theorem dX7_put_12 : decode cX7_put 12 = .ok (.getfield 15, 3) := by decide +kernel
theorem dX7_put_15 : decode cX7_put 15 = .ok (.bipush 55, 2) := by decide +kernel
theorem dX7_put_17 : decode cX7_put 17 = .ok (.aload_n 0, 1) := by decide +kernel
theorem dX7_put_18 : decode cX7_put 18 = .ok (.getfield 15, 3) := by decide +kernel
theorem dX7_put_21 : decode cX7_put 21 = .ok (.iconst 0, 1) := by decide +kernel
theorem dX7_put_22 : decode cX7_put 22 = .ok (.aload_n 0, 1) := by decide +kernel
theorem dX7_put_23 : decode cX7_put 23 = .ok (.getfield 9, 3) := by decide +kernel
theorem dX7_put_26 : decode cX7_put 26 = .ok (.iconst 1, 1) := by decide +kernel
theorem dX7_put_27 : decode cX7_put 27 = .ok (.isub, 1) := by decide +kernel
theorem dX7_put_28 : decode cX7_put 28 = .ok (.bipush 55, 2) := by decide +kernel
theorem dX7_put_30 : decode cX7_put 30 = .ok (.imul, 1) := by decide +kernel
theorem dX7_put_31 : decode cX7_put 31 = .ok (.invokestatic 22, 3) := by decide +kernel
theorem dX7_put_34 : decode cX7_put 34 = .ok (.aload_n 0, 1) := by decide +kernel
theorem dX7_put_35 : decode cX7_put 35 = .ok (.aload_n 0, 1) := by decide +kernel
theorem dX7_put_36 : decode cX7_put 36 = .ok (.getfield 9, 3) := by decide +kernel
theorem dX7_put_39 : decode cX7_put 39 = .ok (.iconst 1, 1) := by decide +kernel
theorem dX7_put_40 : decode cX7_put 40 = .ok (.isub, 1) := by decide +kernel
theorem dX7_put_41 : decode cX7_put 41 = .ok (.putfield 19, 3) := by decide +kernel
theorem dX7_put_44 : decode cX7_put 44 = .ok (.aload_n 0, 1) := by decide +kernel
theorem dX7_put_45 : decode cX7_put 45 = .ok (.getfield 19, 3) := by decide +kernel
theorem dX7_put_48 : decode cX7_put 48 = .ok (.ifCond .lt 34, 3) := by decide +kernel
theorem dX7_put_51 : decode cX7_put 51 = .ok (.aload_n 1, 1) := by decide +kernel
theorem dX7_put_52 : decode cX7_put 52 = .ok (.getfield 28, 3) := by decide +kernel
theorem dX7_put_55 : decode cX7_put 55 = .ok (.iconst 0, 1) := by decide +kernel
theorem dX7_put_56 : decode cX7_put 56 = .ok (.aload_n 0, 1) := by decide +kernel
theorem dX7_put_57 : decode cX7_put 57 = .ok (.getfield 15, 3) := by decide +kernel
theorem dX7_put_60 : decode cX7_put 60 = .ok (.aload_n 0, 1) := by decide +kernel
theorem dX7_put_61 : decode cX7_put 61 = .ok (.getfield 19, 3) := by decide +kernel
theorem dX7_put_64 : decode cX7_put 64 = .ok (.bipush 55, 2) := by decide +kernel
theorem dX7_put_66 : decode cX7_put 66 = .ok (.imul, 1) := by decide +kernel
theorem dX7_put_67 : decode cX7_put 67 = .ok (.bipush 55, 2) := by decide +kernel
theorem dX7_put_69 : decode cX7_put 69 = .ok (.invokestatic 22, 3) := by decide +kernel
theorem dX7_put_72 : decode cX7_put 72 = .ok (.aload_n 0, 1) := by decide +kernel
theorem dX7_put_73 : decode cX7_put 73 = .ok (.dup, 1) := by decide +kernel
theorem dX7_put_74 : decode cX7_put 74 = .ok (.getfield 19, 3) := by decide +kernel
theorem dX7_put_77 : decode cX7_put 77 = .ok (.iconst 1, 1) := by decide +kernel
theorem dX7_put_78 : decode cX7_put 78 = .ok (.iadd, 1) := by decide +kernel
theorem dX7_put_79 : decode cX7_put 79 = .ok (.putfield 19, 3) := by decide +kernel
theorem dX7_put_82 : decode cX7_put 82 = .ok (.return_, 1) := by decide +kernel
theorem dX7_takeInto_0 : decode cX7_takeInto 0 = .ok (.aload_n 0, 1) := by decide +kernel
theorem dX7_takeInto_1 : decode cX7_takeInto 1 = .ok (.getfield 19, 3) := by decide +kernel
theorem dX7_takeInto_4 : decode cX7_takeInto 4 = .ok (.iconst 1, 1) := by decide +kernel
theorem dX7_takeInto_5 : decode cX7_takeInto 5 = .ok (.if_icmp .lt 14, 3) := by decide +kernel
theorem dX7_takeInto_8 : decode cX7_takeInto 8 = .ok (.aload_n 0, 1) := by decide +kernel
theorem dX7_takeInto_9 : decode cX7_takeInto 9 = .ok (.getfield 19, 3) := by decide +kernel
theorem dX7_takeInto_12 : decode cX7_takeInto 12 = .ok (.aload_n 0, 1) := by decide +kernel
theorem dX7_takeInto_13 : decode cX7_takeInto 13 = .ok (.getfield 9, 3) := by decide +kernel
theorem dX7_takeInto_16 : decode cX7_takeInto 16 = .ok (.if_icmp .le 5, 3) := by decide +kernel
theorem dX7_takeInto_19 : decode cX7_takeInto 19 = .ok (.iconst 0, 1) := by decide +kernel
theorem dX7_takeInto_20 : decode cX7_takeInto 20 = .ok (.ireturn, 1) := by decide +kernel
theorem dX7_takeInto_21 : decode cX7_takeInto 21 = .ok (.aload_n 0, 1) := by decide +kernel
theorem dX7_takeInto_22 : decode cX7_takeInto 22 = .ok (.dup, 1) := by decide +kernel
theorem dX7_takeInto_23 : decode cX7_takeInto 23 = .ok (.getfield 19, 3) := by decide +kernel
theorem dX7_takeInto_26 : decode cX7_takeInto 26 = .ok (.iconst 1, 1) := by decide +kernel
theorem dX7_takeInto_27 : decode cX7_takeInto 27 = .ok (.isub, 1) := by decide +kernel
theorem dX7_takeInto_28 : decode cX7_takeInto 28 = .ok (.putfield 19, 3) := by decide +kernel
theorem dX7_takeInto_31 : decode cX7_takeInto 31 = .ok (.aload_n 0, 1) := by decide +kernel
theorem dX7_takeInto_32 : decode cX7_takeInto 32 = .ok (.getfield 15, 3) := by decide +kernel
theorem dX7_takeInto_35 : decode cX7_takeInto 35 = .ok (.aload_n 0, 1) := by decide +kernel
theorem dX7_takeInto_36 : decode cX7_takeInto 36 = .ok (.getfield 19, 3) := by decide +kernel
theorem dX7_takeInto_39 : decode cX7_takeInto 39 = .ok (.bipush 55, 2) := by decide +kernel
theorem dX7_takeInto_41 : decode cX7_takeInto 41 = .ok (.imul, 1) := by decide +kernel
theorem dX7_takeInto_42 : decode cX7_takeInto 42 = .ok (.aload_n 1, 1) := by decide +kernel
theorem dX7_takeInto_43 : decode cX7_takeInto 43 = .ok (.getfield 28, 3) := by decide +kernel
theorem dX7_takeInto_46 : decode cX7_takeInto 46 = .ok (.iconst 0, 1) := by decide +kernel
theorem dX7_takeInto_47 : decode cX7_takeInto 47 = .ok (.bipush 55, 2) := by decide +kernel
theorem dX7_takeInto_49 : decode cX7_takeInto 49 = .ok (.invokestatic 22, 3) := by decide +kernel
theorem dX7_takeInto_52 : decode cX7_takeInto 52 = .ok (.iconst 1, 1) := by decide +kernel
theorem dX7_takeInto_53 : decode cX7_takeInto 53 = .ok (.ireturn, 1) := by decide +kernel
theorem dX8_init_0 : decode cX8_init 0 = .ok (.aload_n 0, 1) := by decide +kernel
theorem dX8_init_1 : decode cX8_init 1 = .ok (.invokespecial 3, 3) := by decide +kernel
theorem dX8_init_4 : decode cX8_init 4 = .ok (.aload_n 0, 1) := by decide +kernel
theorem dX8_init_5 : decode cX8_init 5 = .ok (.sipush 200, 3) := by decide +kernel
theorem dX8_init_8 : decode cX8_init 8 = .ok (.newarray .int, 2) := by decide +kernel
theorem dX8_init_10 : decode cX8_init 10 = .ok (.putfield 9, 3) := by decide +kernel
theorem dX8_init_13 : decode cX8_init 13 = .ok (.aload_n 0, 1) := by decide +kernel
theorem dX8_init_14 : decode cX8_init 14 = .ok (.new 13, 3) := by decide +kernel
theorem dX8_init_17 : decode cX8_init 17 = .ok (.dup, 1) := by decide +kernel
theorem dX8_init_18 : decode cX8_init 18 = .ok (.invokespecial 15, 3) := by decide +kernel
theorem dX8_init_21 : decode cX8_init 21 = .ok (.putfield 16, 3) := by decide +kernel
theorem dX8_init_24 : decode cX8_init 24 = .ok (.aload_n 0, 1) := by decide +kernel
theorem dX8_init_25 : decode cX8_init 25 = .ok (.new 13, 3) := by decide +kernel
theorem dX8_init_28 : decode cX8_init 28 = .ok (.dup, 1) := by decide +kernel
theorem dX8_init_29 : decode cX8_init 29 = .ok (.invokespecial 15, 3) := by decide +kernel
theorem dX8_init_32 : decode cX8_init 32 = .ok (.putfield 20, 3) := by decide +kernel
theorem dX8_init_35 : decode cX8_init 35 = .ok (.aload_n 0, 1) := by decide +kernel
theorem dX8_init_36 : decode cX8_init 36 = .ok (.new 23, 3) := by decide +kernel
theorem dX8_init_39 : decode cX8_init 39 = .ok (.dup, 1) := by decide +kernel
theorem dX8_init_40 : decode cX8_init 40 = .ok (.invokespecial 25, 3) := by decide +kernel
theorem dX8_init_43 : decode cX8_init 43 = .ok (.putfield 26, 3) := by decide +kernel
theorem dX8_init_46 : decode cX8_init 46 = .ok (.aload_n 0, 1) := by decide +kernel
theorem dX8_init_47 : decode cX8_init 47 = .ok (.new 23, 3) := by decide +kernel
theorem dX8_init_50 : decode cX8_init 50 = .ok (.dup, 1) := by decide +kernel
theorem dX8_init_51 : decode cX8_init 51 = .ok (.invokespecial 25, 3) := by decide +kernel
theorem dX8_init_54 : decode cX8_init 54 = .ok (.putfield 30, 3) := by decide +kernel
theorem dX8_init_57 : decode cX8_init 57 = .ok (.aload_n 0, 1) := by decide +kernel
theorem dX8_init_58 : decode cX8_init 58 = .ok (.new 33, 3) := by decide +kernel
theorem dX8_init_61 : decode cX8_init 61 = .ok (.dup, 1) := by decide +kernel
theorem dX8_init_62 : decode cX8_init 62 = .ok (.bipush 8, 2) := by decide +kernel
theorem dX8_init_64 : decode cX8_init 64 = .ok (.invokespecial 35, 3) := by decide +kernel
theorem dX8_init_67 : decode cX8_init 67 = .ok (.putfield 38, 3) := by decide +kernel
theorem dX8_init_70 : decode cX8_init 70 = .ok (.aload_n 0, 1) := by decide +kernel
theorem dX8_init_71 : decode cX8_init 71 = .ok (.new 33, 3) := by decide +kernel
theorem dX8_init_74 : decode cX8_init 74 = .ok (.dup, 1) := by decide +kernel
theorem dX8_init_75 : decode cX8_init 75 = .ok (.iconst 2, 1) := by decide +kernel
theorem dX8_init_76 : decode cX8_init 76 = .ok (.invokespecial 35, 3) := by decide +kernel
theorem dX8_init_79 : decode cX8_init 79 = .ok (.putfield 42, 3) := by decide +kernel
theorem dX8_init_82 : decode cX8_init 82 = .ok (.aload_n 0, 1) := by decide +kernel
theorem dX8_init_83 : decode cX8_init 83 = .ok (.new 45, 3) := by decide +kernel
theorem dX8_init_86 : decode cX8_init 86 = .ok (.dup, 1) := by decide +kernel
theorem dX8_init_87 : decode cX8_init 87 = .ok (.invokespecial 47, 3) := by decide +kernel
theorem dX8_init_90 : decode cX8_init 90 = .ok (.putfield 48, 3) := by decide +kernel
theorem dX8_init_93 : decode cX8_init 93 = .ok (.aload_n 0, 1) := by decide +kernel
theorem dX8_init_94 : decode cX8_init 94 = .ok (.new 52, 3) := by decide +kernel
theorem dX8_init_97 : decode cX8_init 97 = .ok (.dup, 1) := by decide +kernel
theorem dX8_init_98 : decode cX8_init 98 = .ok (.invokespecial 54, 3) := by decide +kernel
theorem dX8_init_101 : decode cX8_init 101 = .ok (.putfield 55, 3) := by decide +kernel
theorem dX8_init_104 : decode cX8_init 104 = .ok (.aload_n 0, 1) := by decide +kernel
theorem dX8_init_105 : decode cX8_init 105 = .ok (.new 59, 3) := by decide +kernel
theorem dX8_init_108 : decode cX8_init 108 = .ok (.dup, 1) := by decide +kernel
theorem dX8_init_109 : decode cX8_init 109 = .ok (.invokespecial 61, 3) := by decide +kernel
theorem dX8_init_112 : decode cX8_init 112 = .ok (.putfield 62, 3) := by decide +kernel
theorem dX8_init_115 : decode cX8_init 115 = .ok (.aload_n 0, 1) := by decide +kernel
theorem dX8_init_116 : decode cX8_init 116 = .ok (.new 66, 3) := by decide +kernel
theorem dX8_init_119 : decode cX8_init 119 = .ok (.dup, 1) := by decide +kernel
theorem dX8_init_120 : decode cX8_init 120 = .ok (.invokespecial 68, 3) := by decide +kernel
theorem dX8_init_123 : decode cX8_init 123 = .ok (.putfield 69, 3) := by decide +kernel
theorem dX8_init_126 : decode cX8_init 126 = .ok (.aload_n 0, 1) := by decide +kernel
theorem dX8_init_127 : decode cX8_init 127 = .ok (.new 73, 3) := by decide +kernel
theorem dX8_init_130 : decode cX8_init 130 = .ok (.dup, 1) := by decide +kernel
theorem dX8_init_131 : decode cX8_init 131 = .ok (.invokespecial 75, 3) := by decide +kernel
theorem dX8_init_134 : decode cX8_init 134 = .ok (.putfield 76, 3) := by decide +kernel
theorem dX8_init_137 : decode cX8_init 137 = .ok (.iconst 0, 1) := by decide +kernel
theorem dX8_init_138 : decode cX8_init 138 = .ok (.istore_n 1, 1) := by decide +kernel
theorem dX8_init_139 : decode cX8_init 139 = .ok (.iload_n 1, 1) := by decide +kernel
theorem dX8_init_140 : decode cX8_init 140 = .ok (.ldc 80, 2) := by decide +kernel
theorem dX8_init_142 : decode cX8_init 142 = .ok (.invokevirtual 82, 3) := by decide +kernel
theorem dX8_init_145 : decode cX8_init 145 = .ok (.if_icmp .ge 28, 3) := by decide +kernel
theorem dX8_init_148 : decode cX8_init 148 = .ok (.iload_n 1, 1) := by decide +kernel
theorem dX8_init_149 : decode cX8_init 149 = .ok (.sipush 200, 3) := by decide +kernel
theorem dX8_init_152 : decode cX8_init 152 = .ok (.if_icmp .ge 21, 3) := by decide +kernel
theorem dX8_init_155 : decode cX8_init 155 = .ok (.aload_n 0, 1) := by decide +kernel
theorem dX8_init_156 : decode cX8_init 156 = .ok (.getfield 9, 3) := by decide +kernel
theorem dX8_init_159 : decode cX8_init 159 = .ok (.iload_n 1, 1) := by decide +kernel
theorem dX8_init_160 : decode cX8_init 160 = .ok (.ldc 80, 2) := by decide +kernel
theorem dX8_init_162 : decode cX8_init 162 = .ok (.iload_n 1, 1) := by decide +kernel
theorem dX8_init_163 : decode cX8_init 163 = .ok (.invokevirtual 88, 3) := by decide +kernel
theorem dX8_init_166 : decode cX8_init 166 = .ok (.iastore, 1) := by decide +kernel
theorem dX8_init_167 : decode cX8_init 167 = .ok (.iinc 1 1, 3) := by decide +kernel
theorem dX8_init_170 : decode cX8_init 170 = .ok (.goto (-31), 3) := by decide +kernel
theorem dX8_init_173 : decode cX8_init 173 = .ok (.aload_n 0, 1) := by decide +kernel
theorem dX8_init_174 : decode cX8_init 174 = .ok (.ldc 80, 2) := by decide +kernel
theorem dX8_init_176 : decode cX8_init 176 = .ok (.invokevirtual 82, 3) := by decide +kernel
theorem dX8_init_179 : decode cX8_init 179 = .ok (.sipush 200, 3) := by decide +kernel
theorem dX8_init_182 : decode cX8_init 182 = .ok (.invokestatic 92, 3) := by decide +kernel
theorem dX8_init_185 : decode cX8_init 185 = .ok (.putfield 98, 3) := by decide +kernel
theorem dX8_init_188 : decode cX8_init 188 = .ok (.aload_n 0, 1) := by decide +kernel
theorem dX8_init_189 : decode cX8_init 189 = .ok (.invokevirtual 101, 3) := by decide +kernel
theorem dX8_init_192 : decode cX8_init 192 = .ok (.pop, 1) := by decide +kernel
theorem dX8_init_193 : decode cX8_init 193 = .ok (.aload_n 0, 1) := by decide +kernel
theorem dX8_init_194 : decode cX8_init 194 = .ok (.iconst 0, 1) := by decide +kernel
theorem dX8_init_195 : decode cX8_init 195 = .ok (.putfield 98, 3) := by decide +kernel
theorem dX8_init_198 : decode cX8_init 198 = .ok (.return_, 1) := by decide +kernel
theorem dX8_write_0 : decode cX8_write 0 = .ok (.iload_n 1, 1) := by decide +kernel
theorem dX8_write_1 : decode cX8_write 1 = .ok (.bipush 32, 2) := by decide +kernel
theorem dX8_write_3 : decode cX8_write 3 = .ok (.if_icmp .lt 9, 3) := by decide +kernel
theorem dX8_write_6 : decode cX8_write 6 = .ok (.iload_n 1, 1) := by decide +kernel
theorem dX8_write_7 : decode cX8_write 7 = .ok (.bipush 126, 2) := by decide +kernel
theorem dX8_write_9 : decode cX8_write 9 = .ok (.if_icmp .le 5, 3) := by decide +kernel
theorem dX8_write_12 : decode cX8_write 12 = .ok (.iconst (-1), 1) := by decide +kernel
theorem dX8_write_13 : decode cX8_write 13 = .ok (.ireturn, 1) := by decide +kernel
theorem dX8_write_14 : decode cX8_write 14 = .ok (.aload_n 0, 1) := by decide +kernel
theorem dX8_write_15 : decode cX8_write 15 = .ok (.getfield 98, 3) := by decide +kernel
theorem dX8_write_18 : decode cX8_write 18 = .ok (.ifCond .lt 13, 3) := by decide +kernel
theorem dX8_write_21 : decode cX8_write 21 = .ok (.aload_n 0, 1) := by decide +kernel
theorem dX8_write_22 : decode cX8_write 22 = .ok (.getfield 98, 3) := by decide +kernel
theorem dX8_write_25 : decode cX8_write 25 = .ok (.sipush 200, 3) := by decide +kernel
theorem dX8_write_28 : decode cX8_write 28 = .ok (.if_icmp .lt 6, 3) := by decide +kernel
theorem dX8_write_31 : decode cX8_write 31 = .ok (.bipush (-3), 2) := by decide +kernel
theorem dX8_write_33 : decode cX8_write 33 = .ok (.ireturn, 1) := by decide +kernel
theorem dX8_write_34 : decode cX8_write 34 = .ok (.aload_n 0, 1) := by decide +kernel
theorem dX8_write_35 : decode cX8_write 35 = .ok (.getfield 9, 3) := by decide +kernel
theorem dX8_write_38 : decode cX8_write 38 = .ok (.aload_n 0, 1) := by decide +kernel
theorem dX8_write_39 : decode cX8_write 39 = .ok (.getfield 98, 3) := by decide +kernel
theorem dX8_write_42 : decode cX8_write 42 = .ok (.iload_n 1, 1) := by decide +kernel
theorem dX8_write_43 : decode cX8_write 43 = .ok (.iastore, 1) := by decide +kernel
theorem dX8_write_44 : decode cX8_write 44 = .ok (.aload_n 0, 1) := by decide +kernel
theorem dX8_write_45 : decode cX8_write 45 = .ok (.dup, 1) := by decide +kernel
theorem dX8_write_46 : decode cX8_write 46 = .ok (.getfield 98, 3) := by decide +kernel
theorem dX8_write_49 : decode cX8_write 49 = .ok (.iconst 1, 1) := by decide +kernel
theorem dX8_write_50 : decode cX8_write 50 = .ok (.iadd, 1) := by decide +kernel
theorem dX8_write_51 : decode cX8_write 51 = .ok (.putfield 98, 3) := by decide +kernel
theorem dX8_write_54 : decode cX8_write 54 = .ok (.aload_n 0, 1) := by decide +kernel
theorem dX8_write_55 : decode cX8_write 55 = .ok (.getfield 98, 3) := by decide +kernel
theorem dX8_write_58 : decode cX8_write 58 = .ok (.ireturn, 1) := by decide +kernel
theorem dX8_wipe_0 : decode cX8_wipe 0 = .ok (.aload_n 0, 1) := by decide +kernel
theorem dX8_wipe_1 : decode cX8_wipe 1 = .ok (.getfield 98, 3) := by decide +kernel
theorem dX8_wipe_4 : decode cX8_wipe 4 = .ok (.istore_n 1, 1) := by decide +kernel
theorem dX8_wipe_5 : decode cX8_wipe 5 = .ok (.aload_n 0, 1) := by decide +kernel
theorem dX8_wipe_6 : decode cX8_wipe 6 = .ok (.iconst 0, 1) := by decide +kernel
theorem dX8_wipe_7 : decode cX8_wipe 7 = .ok (.putfield 98, 3) := by decide +kernel
theorem dX8_wipe_10 : decode cX8_wipe 10 = .ok (.iload_n 1, 1) := by decide +kernel
theorem dX8_wipe_11 : decode cX8_wipe 11 = .ok (.ireturn, 1) := by decide +kernel
theorem dX8_fault_0 : decode cX8_fault 0 = .ok (.aload_n 0, 1) := by decide +kernel
theorem dX8_fault_1 : decode cX8_fault 1 = .ok (.getfield 55, 3) := by decide +kernel
theorem dX8_fault_4 : decode cX8_fault 4 = .ok (.aload_n 0, 1) := by decide +kernel
theorem dX8_fault_5 : decode cX8_fault 5 = .ok (.getfield 9, 3) := by decide +kernel
theorem dX8_fault_8 : decode cX8_fault 8 = .ok (.aload_n 0, 1) := by decide +kernel
theorem dX8_fault_9 : decode cX8_fault 9 = .ok (.getfield 98, 3) := by decide +kernel
theorem dX8_fault_12 : decode cX8_fault 12 = .ok (.aload_n 0, 1) := by decide +kernel
theorem dX8_fault_13 : decode cX8_fault 13 = .ok (.getfield 20, 3) := by decide +kernel
theorem dX8_fault_16 : decode cX8_fault 16 = .ok (.aload_n 0, 1) := by decide +kernel
theorem dX8_fault_17 : decode cX8_fault 17 = .ok (.getfield 30, 3) := by decide +kernel
theorem dX8_fault_20 : decode cX8_fault 20 = .ok (.invokevirtual 104, 3) := by decide +kernel
theorem dX8_fault_23 : decode cX8_fault 23 = .ok (.ireturn, 1) := by decide +kernel
theorem dX8_lay_0 : decode cX8_lay 0 = .ok (.aload_n 0, 1) := by decide +kernel
theorem dX8_lay_1 : decode cX8_lay 1 = .ok (.getfield 55, 3) := by decide +kernel
theorem dX8_lay_4 : decode cX8_lay 4 = .ok (.aload_n 0, 1) := by decide +kernel
theorem dX8_lay_5 : decode cX8_lay 5 = .ok (.getfield 9, 3) := by decide +kernel
theorem dX8_lay_8 : decode cX8_lay 8 = .ok (.aload_n 0, 1) := by decide +kernel
theorem dX8_lay_9 : decode cX8_lay 9 = .ok (.getfield 98, 3) := by decide +kernel
theorem dX8_lay_12 : decode cX8_lay 12 = .ok (.aload_n 0, 1) := by decide +kernel
theorem dX8_lay_13 : decode cX8_lay 13 = .ok (.getfield 20, 3) := by decide +kernel
theorem dX8_lay_16 : decode cX8_lay 16 = .ok (.aload_n 0, 1) := by decide +kernel
theorem dX8_lay_17 : decode cX8_lay 17 = .ok (.getfield 30, 3) := by decide +kernel
theorem dX8_lay_20 : decode cX8_lay 20 = .ok (.invokevirtual 104, 3) := by decide +kernel
theorem dX8_lay_23 : decode cX8_lay 23 = .ok (.istore_n 1, 1) := by decide +kernel
theorem dX8_lay_24 : decode cX8_lay 24 = .ok (.iload_n 1, 1) := by decide +kernel
theorem dX8_lay_25 : decode cX8_lay 25 = .ok (.bipush (-4), 2) := by decide +kernel
theorem dX8_lay_27 : decode cX8_lay 27 = .ok (.if_icmp .ne 25, 3) := by decide +kernel
theorem dX8_lay_30 : decode cX8_lay 30 = .ok (.aload_n 0, 1) := by decide +kernel
theorem dX8_lay_31 : decode cX8_lay 31 = .ok (.getfield 20, 3) := by decide +kernel
theorem dX8_lay_34 : decode cX8_lay 34 = .ok (.invokevirtual 108, 3) := by decide +kernel
theorem dX8_lay_37 : decode cX8_lay 37 = .ok (.iconst 1, 1) := by decide +kernel
theorem dX8_lay_38 : decode cX8_lay 38 = .ok (.if_icmp .lt 14, 3) := by decide +kernel
theorem dX8_lay_41 : decode cX8_lay 41 = .ok (.aload_n 0, 1) := by decide +kernel
theorem dX8_lay_42 : decode cX8_lay 42 = .ok (.getfield 20, 3) := by decide +kernel
theorem dX8_lay_45 : decode cX8_lay 45 = .ok (.invokevirtual 111, 3) := by decide +kernel
theorem dX8_lay_48 : decode cX8_lay 48 = .ok (.iconst 1, 1) := by decide +kernel
theorem dX8_lay_49 : decode cX8_lay 49 = .ok (.if_icmp .ge 6, 3) := by decide +kernel
theorem dX8_lay_52 : decode cX8_lay 52 = .ok (.bipush (-2), 2) := by decide +kernel
theorem dX8_lay_54 : decode cX8_lay 54 = .ok (.ireturn, 1) := by decide +kernel
theorem dX8_lay_55 : decode cX8_lay 55 = .ok (.aload_n 0, 1) := by decide +kernel
theorem dX8_lay_56 : decode cX8_lay 56 = .ok (.getfield 16, 3) := by decide +kernel
theorem dX8_lay_59 : decode cX8_lay 59 = .ok (.astore_n 2, 1) := by decide +kernel
theorem dX8_lay_60 : decode cX8_lay 60 = .ok (.aload_n 0, 1) := by decide +kernel
theorem dX8_lay_61 : decode cX8_lay 61 = .ok (.aload_n 0, 1) := by decide +kernel
theorem dX8_lay_62 : decode cX8_lay 62 = .ok (.getfield 20, 3) := by decide +kernel
theorem dX8_lay_65 : decode cX8_lay 65 = .ok (.putfield 16, 3) := by decide +kernel
theorem dX8_lay_68 : decode cX8_lay 68 = .ok (.aload_n 0, 1) := by decide +kernel
theorem dX8_lay_69 : decode cX8_lay 69 = .ok (.aload_n 2, 1) := by decide +kernel
theorem dX8_lay_70 : decode cX8_lay 70 = .ok (.putfield 20, 3) := by decide +kernel
theorem dX8_lay_73 : decode cX8_lay 73 = .ok (.aload_n 0, 1) := by decide +kernel
theorem dX8_lay_74 : decode cX8_lay 74 = .ok (.getfield 26, 3) := by decide +kernel
theorem dX8_lay_77 : decode cX8_lay 77 = .ok (.aload_n 0, 1) := by decide +kernel
theorem dX8_lay_78 : decode cX8_lay 78 = .ok (.getfield 30, 3) := by decide +kernel
theorem dX8_lay_81 : decode cX8_lay 81 = .ok (.invokevirtual 114, 3) := by decide +kernel
theorem dX8_lay_84 : decode cX8_lay 84 = .ok (.aload_n 0, 1) := by decide +kernel
theorem dX8_lay_85 : decode cX8_lay 85 = .ok (.getfield 38, 3) := by decide +kernel
theorem dX8_lay_88 : decode cX8_lay 88 = .ok (.invokevirtual 118, 3) := by decide +kernel
theorem dX8_lay_91 : decode cX8_lay 91 = .ok (.aload_n 0, 1) := by decide +kernel
theorem dX8_lay_92 : decode cX8_lay 92 = .ok (.getfield 42, 3) := by decide +kernel
theorem dX8_lay_95 : decode cX8_lay 95 = .ok (.invokevirtual 118, 3) := by decide +kernel
theorem dX8_lay_98 : decode cX8_lay 98 = .ok (.aload_n 0, 1) := by decide +kernel
theorem dX8_lay_99 : decode cX8_lay 99 = .ok (.getfield 48, 3) := by decide +kernel
theorem dX8_lay_102 : decode cX8_lay 102 = .ok (.invokevirtual 121, 3) := by decide +kernel
theorem dX8_lay_105 : decode cX8_lay 105 = .ok (.pop, 1) := by decide +kernel
theorem dX8_lay_106 : decode cX8_lay 106 = .ok (.aload_n 0, 1) := by decide +kernel
theorem dX8_lay_107 : decode cX8_lay 107 = .ok (.getfield 16, 3) := by decide +kernel
theorem dX8_lay_110 : decode cX8_lay 110 = .ok (.invokevirtual 111, 3) := by decide +kernel
theorem dX8_lay_113 : decode cX8_lay 113 = .ok (.ireturn, 1) := by decide +kernel
theorem dX8_word_0 : decode cX8_word 0 = .ok (.aload_n 0, 1) := by decide +kernel
theorem dX8_word_1 : decode cX8_word 1 = .ok (.iload_n 1, 1) := by decide +kernel
theorem dX8_word_2 : decode cX8_word 2 = .ok (.invokevirtual 123, 3) := by decide +kernel
theorem dX8_word_5 : decode cX8_word 5 = .ok (.ifCond .ne 5, 3) := by decide +kernel
theorem dX8_word_8 : decode cX8_word 8 = .ok (.iconst (-1), 1) := by decide +kernel
theorem dX8_word_9 : decode cX8_word 9 = .ok (.ireturn, 1) := by decide +kernel
theorem dX8_word_10 : decode cX8_word 10 = .ok (.iload_n 2, 1) := by decide +kernel
theorem dX8_word_11 : decode cX8_word 11 = .ok (.tableswitch 65 0 3 #[29, 38, 47, 56], 29) := by decide +kernel
theorem dX8_word_40 : decode cX8_word 40 = .ok (.aload_n 0, 1) := by decide +kernel
theorem dX8_word_41 : decode cX8_word 41 = .ok (.getfield 16, 3) := by decide +kernel
theorem dX8_word_44 : decode cX8_word 44 = .ok (.iload_n 1, 1) := by decide +kernel
theorem dX8_word_45 : decode cX8_word 45 = .ok (.invokevirtual 127, 3) := by decide +kernel
theorem dX8_word_48 : decode cX8_word 48 = .ok (.ireturn, 1) := by decide +kernel
theorem dX8_word_49 : decode cX8_word 49 = .ok (.aload_n 0, 1) := by decide +kernel
theorem dX8_word_50 : decode cX8_word 50 = .ok (.getfield 16, 3) := by decide +kernel
theorem dX8_word_53 : decode cX8_word 53 = .ok (.iload_n 1, 1) := by decide +kernel
theorem dX8_word_54 : decode cX8_word 54 = .ok (.invokevirtual 131, 3) := by decide +kernel
theorem dX8_word_57 : decode cX8_word 57 = .ok (.ireturn, 1) := by decide +kernel
theorem dX8_word_58 : decode cX8_word 58 = .ok (.aload_n 0, 1) := by decide +kernel
theorem dX8_word_59 : decode cX8_word 59 = .ok (.getfield 16, 3) := by decide +kernel
theorem dX8_word_62 : decode cX8_word 62 = .ok (.iload_n 1, 1) := by decide +kernel
theorem dX8_word_63 : decode cX8_word 63 = .ok (.invokevirtual 134, 3) := by decide +kernel
theorem dX8_word_66 : decode cX8_word 66 = .ok (.ireturn, 1) := by decide +kernel
theorem dX8_word_67 : decode cX8_word 67 = .ok (.aload_n 0, 1) := by decide +kernel
theorem dX8_word_68 : decode cX8_word 68 = .ok (.getfield 16, 3) := by decide +kernel
theorem dX8_word_71 : decode cX8_word 71 = .ok (.iload_n 1, 1) := by decide +kernel
theorem dX8_word_72 : decode cX8_word 72 = .ok (.invokevirtual 137, 3) := by decide +kernel
theorem dX8_word_75 : decode cX8_word 75 = .ok (.ireturn, 1) := by decide +kernel
theorem dX8_word_76 : decode cX8_word 76 = .ok (.iconst (-1), 1) := by decide +kernel
theorem dX8_word_77 : decode cX8_word 77 = .ok (.ireturn, 1) := by decide +kernel
theorem dX8_forbidden_0 : decode cX8_forbidden 0 = .ok (.aload_n 0, 1) := by decide +kernel
theorem dX8_forbidden_1 : decode cX8_forbidden 1 = .ok (.iload_n 1, 1) := by decide +kernel
theorem dX8_forbidden_2 : decode cX8_forbidden 2 = .ok (.invokevirtual 140, 3) := by decide +kernel
theorem dX8_forbidden_5 : decode cX8_forbidden 5 = .ok (.ifCond .ne 5, 3) := by decide +kernel
theorem dX8_forbidden_8 : decode cX8_forbidden 8 = .ok (.iconst (-1), 1) := by decide +kernel
theorem dX8_forbidden_9 : decode cX8_forbidden 9 = .ok (.ireturn, 1) := by decide +kernel
theorem dX8_forbidden_10 : decode cX8_forbidden 10 = .ok (.aload_n 0, 1) := by decide +kernel
theorem dX8_forbidden_11 : decode cX8_forbidden 11 = .ok (.getfield 16, 3) := by decide +kernel
theorem dX8_forbidden_14 : decode cX8_forbidden 14 = .ok (.iload_n 1, 1) := by decide +kernel
theorem dX8_forbidden_15 : decode cX8_forbidden 15 = .ok (.invokevirtual 143, 3) := by decide +kernel
theorem dX8_forbidden_18 : decode cX8_forbidden 18 = .ok (.ifCond .eq 7, 3) := by decide +kernel
theorem dX8_forbidden_21 : decode cX8_forbidden 21 = .ok (.iconst 1, 1) := by decide +kernel
theorem dX8_forbidden_22 : decode cX8_forbidden 22 = .ok (.goto 4, 3) := by decide +kernel
theorem dX8_forbidden_25 : decode cX8_forbidden 25 = .ok (.iconst 0, 1) := by decide +kernel
theorem dX8_forbidden_26 : decode cX8_forbidden 26 = .ok (.ireturn, 1) := by decide +kernel
theorem dX8_actor_0 : decode cX8_actor 0 = .ok (.aload_n 0, 1) := by decide +kernel
theorem dX8_actor_1 : decode cX8_actor 1 = .ok (.iload_n 1, 1) := by decide +kernel
theorem dX8_actor_2 : decode cX8_actor 2 = .ok (.invokevirtual 146, 3) := by decide +kernel
theorem dX8_actor_5 : decode cX8_actor 5 = .ok (.ifCond .eq 24, 3) := by decide +kernel
theorem dX8_actor_8 : decode cX8_actor 8 = .ok (.iload_n 2, 1) := by decide +kernel
theorem dX8_actor_9 : decode cX8_actor 9 = .ok (.ifCond .lt 20, 3) := by decide +kernel
theorem dX8_actor_12 : decode cX8_actor 12 = .ok (.iload_n 2, 1) := by decide +kernel
theorem dX8_actor_13 : decode cX8_actor 13 = .ok (.iconst 5, 1) := by decide +kernel
theorem dX8_actor_14 : decode cX8_actor 14 = .ok (.if_icmp .gt 15, 3) := by decide +kernel
theorem dX8_actor_17 : decode cX8_actor 17 = .ok (.aload_n 0, 1) := by decide +kernel
theorem dX8_actor_18 : decode cX8_actor 18 = .ok (.getfield 26, 3) := by decide +kernel
theorem dX8_actor_21 : decode cX8_actor 21 = .ok (.iload_n 1, 1) := by decide +kernel
theorem dX8_actor_22 : decode cX8_actor 22 = .ok (.iload_n 2, 1) := by decide +kernel
theorem dX8_actor_23 : decode cX8_actor 23 = .ok (.invokevirtual 149, 3) := by decide +kernel
theorem dX8_actor_26 : decode cX8_actor 26 = .ok (.goto 4, 3) := by decide +kernel
theorem dX8_actor_29 : decode cX8_actor 29 = .ok (.iconst (-1), 1) := by decide +kernel
theorem dX8_actor_30 : decode cX8_actor 30 = .ok (.ireturn, 1) := by decide +kernel
theorem dX8_shown_0 : decode cX8_shown 0 = .ok (.aload_n 0, 1) := by decide +kernel
theorem dX8_shown_1 : decode cX8_shown 1 = .ok (.iload_n 1, 1) := by decide +kernel
theorem dX8_shown_2 : decode cX8_shown 2 = .ok (.invokevirtual 146, 3) := by decide +kernel
theorem dX8_shown_5 : decode cX8_shown 5 = .ok (.ifCond .eq 7, 3) := by decide +kernel
theorem dX8_shown_8 : decode cX8_shown 8 = .ok (.iload_n 2, 1) := by decide +kernel
theorem dX8_shown_9 : decode cX8_shown 9 = .ok (.ifCond .ge 5, 3) := by decide +kernel
theorem dX8_shown_12 : decode cX8_shown 12 = .ok (.iconst (-1), 1) := by decide +kernel
theorem dX8_shown_13 : decode cX8_shown 13 = .ok (.ireturn, 1) := by decide +kernel
theorem dX8_shown_14 : decode cX8_shown 14 = .ok (.iload_n 2, 1) := by decide +kernel
theorem dX8_shown_15 : decode cX8_shown 15 = .ok (.aload_n 0, 1) := by decide +kernel
theorem dX8_shown_16 : decode cX8_shown 16 = .ok (.getfield 26, 3) := by decide +kernel
theorem dX8_shown_19 : decode cX8_shown 19 = .ok (.iload_n 1, 1) := by decide +kernel
theorem dX8_shown_20 : decode cX8_shown 20 = .ok (.iconst 3, 1) := by decide +kernel
theorem dX8_shown_21 : decode cX8_shown 21 = .ok (.invokevirtual 149, 3) := by decide +kernel
theorem dX8_shown_24 : decode cX8_shown 24 = .ok (.if_icmp .ge 15, 3) := by decide +kernel
theorem dX8_shown_27 : decode cX8_shown 27 = .ok (.aload_n 0, 1) := by decide +kernel
theorem dX8_shown_28 : decode cX8_shown 28 = .ok (.getfield 26, 3) := by decide +kernel
theorem dX8_shown_31 : decode cX8_shown 31 = .ok (.iload_n 1, 1) := by decide +kernel
theorem dX8_shown_32 : decode cX8_shown 32 = .ok (.iload_n 2, 1) := by decide +kernel
theorem dX8_shown_33 : decode cX8_shown 33 = .ok (.invokevirtual 152, 3) := by decide +kernel
theorem dX8_shown_36 : decode cX8_shown 36 = .ok (.goto 5, 3) := by decide +kernel
theorem dX8_shown_39 : decode cX8_shown 39 = .ok (.bipush (-4), 2) := by decide +kernel
theorem dX8_shown_41 : decode cX8_shown 41 = .ok (.ireturn, 1) := by decide +kernel
theorem dX8_show_0 : decode cX8_show 0 = .ok (.aload_n 0, 1) := by decide +kernel
theorem dX8_show_1 : decode cX8_show 1 = .ok (.iload_n 1, 1) := by decide +kernel
theorem dX8_show_2 : decode cX8_show 2 = .ok (.invokevirtual 146, 3) := by decide +kernel
theorem dX8_show_5 : decode cX8_show 5 = .ok (.ifCond .eq 11, 3) := by decide +kernel
theorem dX8_show_8 : decode cX8_show 8 = .ok (.aload_n 0, 1) := by decide +kernel
theorem dX8_show_9 : decode cX8_show 9 = .ok (.iload_n 2, 1) := by decide +kernel
theorem dX8_show_10 : decode cX8_show 10 = .ok (.invokevirtual 140, 3) := by decide +kernel
theorem dX8_show_13 : decode cX8_show 13 = .ok (.ifCond .ne 5, 3) := by decide +kernel
theorem dX8_show_16 : decode cX8_show 16 = .ok (.iconst (-1), 1) := by decide +kernel
theorem dX8_show_17 : decode cX8_show 17 = .ok (.ireturn, 1) := by decide +kernel
theorem dX8_show_18 : decode cX8_show 18 = .ok (.aload_n 0, 1) := by decide +kernel
theorem dX8_show_19 : decode cX8_show 19 = .ok (.getfield 26, 3) := by decide +kernel
theorem dX8_show_22 : decode cX8_show 22 = .ok (.iload_n 1, 1) := by decide +kernel
theorem dX8_show_23 : decode cX8_show 23 = .ok (.invokevirtual 155, 3) := by decide +kernel
theorem dX8_show_26 : decode cX8_show 26 = .ok (.ifCond .ne 6, 3) := by decide +kernel
theorem dX8_show_29 : decode cX8_show 29 = .ok (.bipush (-2), 2) := by decide +kernel
theorem dX8_show_31 : decode cX8_show 31 = .ok (.ireturn, 1) := by decide +kernel
theorem dX8_show_32 : decode cX8_show 32 = .ok (.aload_n 0, 1) := by decide +kernel
theorem dX8_show_33 : decode cX8_show 33 = .ok (.getfield 38, 3) := by decide +kernel
theorem dX8_show_36 : decode cX8_show 36 = .ok (.aload_n 0, 1) := by decide +kernel
theorem dX8_show_37 : decode cX8_show 37 = .ok (.getfield 26, 3) := by decide +kernel
theorem dX8_show_40 : decode cX8_show 40 = .ok (.invokevirtual 158, 3) := by decide +kernel
theorem dX8_show_43 : decode cX8_show 43 = .ok (.aload_n 0, 1) := by decide +kernel
theorem dX8_show_44 : decode cX8_show 44 = .ok (.aload_n 0, 1) := by decide +kernel
theorem dX8_show_45 : decode cX8_show 45 = .ok (.getfield 26, 3) := by decide +kernel
theorem dX8_show_48 : decode cX8_show 48 = .ok (.iload_n 1, 1) := by decide +kernel
theorem dX8_show_49 : decode cX8_show 49 = .ok (.iload_n 2, 1) := by decide +kernel
theorem dX8_show_50 : decode cX8_show 50 = .ok (.invokevirtual 161, 3) := by decide +kernel
theorem dX8_show_53 : decode cX8_show 53 = .ok (.ireturn, 1) := by decide +kernel
theorem dX8_guess_0 : decode cX8_guess 0 = .ok (.aload_n 0, 1) := by decide +kernel
theorem dX8_guess_1 : decode cX8_guess 1 = .ok (.iload_n 1, 1) := by decide +kernel
theorem dX8_guess_2 : decode cX8_guess 2 = .ok (.invokevirtual 146, 3) := by decide +kernel
theorem dX8_guess_5 : decode cX8_guess 5 = .ok (.ifCond .ne 5, 3) := by decide +kernel
theorem dX8_guess_8 : decode cX8_guess 8 = .ok (.iconst (-1), 1) := by decide +kernel
theorem dX8_guess_9 : decode cX8_guess 9 = .ok (.ireturn, 1) := by decide +kernel
theorem dX8_guess_10 : decode cX8_guess 10 = .ok (.aload_n 0, 1) := by decide +kernel
theorem dX8_guess_11 : decode cX8_guess 11 = .ok (.getfield 26, 3) := by decide +kernel
theorem dX8_guess_14 : decode cX8_guess 14 = .ok (.iload_n 1, 1) := by decide +kernel
theorem dX8_guess_15 : decode cX8_guess 15 = .ok (.invokevirtual 165, 3) := by decide +kernel
theorem dX8_guess_18 : decode cX8_guess 18 = .ok (.ifCond .ne 6, 3) := by decide +kernel
theorem dX8_guess_21 : decode cX8_guess 21 = .ok (.bipush (-2), 2) := by decide +kernel
theorem dX8_guess_23 : decode cX8_guess 23 = .ok (.ireturn, 1) := by decide +kernel
theorem dX8_guess_24 : decode cX8_guess 24 = .ok (.aload_n 0, 1) := by decide +kernel
theorem dX8_guess_25 : decode cX8_guess 25 = .ok (.getfield 38, 3) := by decide +kernel
theorem dX8_guess_28 : decode cX8_guess 28 = .ok (.aload_n 0, 1) := by decide +kernel
theorem dX8_guess_29 : decode cX8_guess 29 = .ok (.getfield 26, 3) := by decide +kernel
theorem dX8_guess_32 : decode cX8_guess 32 = .ok (.invokevirtual 158, 3) := by decide +kernel
theorem dX8_guess_35 : decode cX8_guess 35 = .ok (.aload_n 0, 1) := by decide +kernel
theorem dX8_guess_36 : decode cX8_guess 36 = .ok (.aload_n 0, 1) := by decide +kernel
theorem dX8_guess_37 : decode cX8_guess 37 = .ok (.getfield 26, 3) := by decide +kernel
theorem dX8_guess_40 : decode cX8_guess 40 = .ok (.iload_n 1, 1) := by decide +kernel
theorem dX8_guess_41 : decode cX8_guess 41 = .ok (.invokevirtual 168, 3) := by decide +kernel
theorem dX8_guess_44 : decode cX8_guess 44 = .ok (.ireturn, 1) := by decide +kernel
theorem dX8_change_0 : decode cX8_change 0 = .ok (.aload_n 0, 1) := by decide +kernel
theorem dX8_change_1 : decode cX8_change 1 = .ok (.iload_n 1, 1) := by decide +kernel
theorem dX8_change_2 : decode cX8_change 2 = .ok (.invokevirtual 146, 3) := by decide +kernel
theorem dX8_change_5 : decode cX8_change 5 = .ok (.ifCond .eq 16, 3) := by decide +kernel
theorem dX8_change_8 : decode cX8_change 8 = .ok (.aload_n 0, 1) := by decide +kernel
theorem dX8_change_9 : decode cX8_change 9 = .ok (.iload_n 2, 1) := by decide +kernel
theorem dX8_change_10 : decode cX8_change 10 = .ok (.invokevirtual 146, 3) := by decide +kernel
theorem dX8_change_13 : decode cX8_change 13 = .ok (.ifCond .eq 8, 3) := by decide +kernel
theorem dX8_change_16 : decode cX8_change 16 = .ok (.iload_n 1, 1) := by decide +kernel
theorem dX8_change_17 : decode cX8_change 17 = .ok (.iload_n 2, 1) := by decide +kernel
theorem dX8_change_18 : decode cX8_change 18 = .ok (.if_icmp .ne 5, 3) := by decide +kernel
theorem dX8_change_21 : decode cX8_change 21 = .ok (.iconst (-1), 1) := by decide +kernel
theorem dX8_change_22 : decode cX8_change 22 = .ok (.ireturn, 1) := by decide +kernel
theorem dX8_change_23 : decode cX8_change 23 = .ok (.aload_n 0, 1) := by decide +kernel
theorem dX8_change_24 : decode cX8_change 24 = .ok (.getfield 26, 3) := by decide +kernel
theorem dX8_change_27 : decode cX8_change 27 = .ok (.iload_n 1, 1) := by decide +kernel
theorem dX8_change_28 : decode cX8_change 28 = .ok (.invokevirtual 172, 3) := by decide +kernel
theorem dX8_change_31 : decode cX8_change 31 = .ok (.ifCond .eq 14, 3) := by decide +kernel
theorem dX8_change_34 : decode cX8_change 34 = .ok (.aload_n 0, 1) := by decide +kernel
theorem dX8_change_35 : decode cX8_change 35 = .ok (.getfield 26, 3) := by decide +kernel
theorem dX8_change_38 : decode cX8_change 38 = .ok (.iload_n 2, 1) := by decide +kernel
theorem dX8_change_39 : decode cX8_change 39 = .ok (.invokevirtual 172, 3) := by decide +kernel
theorem dX8_change_42 : decode cX8_change 42 = .ok (.ifCond .ne 6, 3) := by decide +kernel
theorem dX8_change_45 : decode cX8_change 45 = .ok (.bipush (-2), 2) := by decide +kernel
theorem dX8_change_47 : decode cX8_change 47 = .ok (.ireturn, 1) := by decide +kernel
theorem dX8_change_48 : decode cX8_change 48 = .ok (.aload_n 0, 1) := by decide +kernel
theorem dX8_change_49 : decode cX8_change 49 = .ok (.getfield 38, 3) := by decide +kernel
theorem dX8_change_52 : decode cX8_change 52 = .ok (.aload_n 0, 1) := by decide +kernel
theorem dX8_change_53 : decode cX8_change 53 = .ok (.getfield 26, 3) := by decide +kernel
theorem dX8_change_56 : decode cX8_change 56 = .ok (.invokevirtual 158, 3) := by decide +kernel
theorem dX8_change_59 : decode cX8_change 59 = .ok (.aload_n 0, 1) := by decide +kernel
theorem dX8_change_60 : decode cX8_change 60 = .ok (.getfield 26, 3) := by decide +kernel
theorem dX8_change_63 : decode cX8_change 63 = .ok (.iload_n 1, 1) := by decide +kernel
theorem dX8_change_64 : decode cX8_change 64 = .ok (.iconst 1, 1) := by decide +kernel
theorem dX8_change_65 : decode cX8_change 65 = .ok (.invokevirtual 149, 3) := by decide +kernel
theorem dX8_change_68 : decode cX8_change 68 = .ok (.istore_n 3, 1) := by decide +kernel
theorem dX8_change_69 : decode cX8_change 69 = .ok (.aload_n 0, 1) := by decide +kernel
theorem dX8_change_70 : decode cX8_change 70 = .ok (.getfield 26, 3) := by decide +kernel
theorem dX8_change_73 : decode cX8_change 73 = .ok (.iload_n 1, 1) := by decide +kernel
theorem dX8_change_74 : decode cX8_change 74 = .ok (.iconst 1, 1) := by decide +kernel
theorem dX8_change_75 : decode cX8_change 75 = .ok (.aload_n 0, 1) := by decide +kernel
theorem dX8_change_76 : decode cX8_change 76 = .ok (.getfield 26, 3) := by decide +kernel
theorem dX8_change_79 : decode cX8_change 79 = .ok (.iload_n 2, 1) := by decide +kernel
theorem dX8_change_80 : decode cX8_change 80 = .ok (.iconst 1, 1) := by decide +kernel
theorem dX8_change_81 : decode cX8_change 81 = .ok (.invokevirtual 149, 3) := by decide +kernel
theorem dX8_change_84 : decode cX8_change 84 = .ok (.invokevirtual 175, 3) := by decide +kernel
theorem dX8_change_87 : decode cX8_change 87 = .ok (.aload_n 0, 1) := by decide +kernel
theorem dX8_change_88 : decode cX8_change 88 = .ok (.getfield 26, 3) := by decide +kernel
theorem dX8_change_91 : decode cX8_change 91 = .ok (.iload_n 2, 1) := by decide +kernel
theorem dX8_change_92 : decode cX8_change 92 = .ok (.iconst 1, 1) := by decide +kernel
theorem dX8_change_93 : decode cX8_change 93 = .ok (.iload_n 3, 1) := by decide +kernel
theorem dX8_change_94 : decode cX8_change 94 = .ok (.invokevirtual 175, 3) := by decide +kernel
theorem dX8_change_97 : decode cX8_change 97 = .ok (.aload_n 0, 1) := by decide +kernel
theorem dX8_change_98 : decode cX8_change 98 = .ok (.getfield 26, 3) := by decide +kernel
theorem dX8_change_101 : decode cX8_change 101 = .ok (.iload_n 1, 1) := by decide +kernel
theorem dX8_change_102 : decode cX8_change 102 = .ok (.iconst 1, 1) := by decide +kernel
theorem dX8_change_103 : decode cX8_change 103 = .ok (.invokevirtual 149, 3) := by decide +kernel
theorem dX8_change_106 : decode cX8_change 106 = .ok (.ireturn, 1) := by decide +kernel
theorem dX8_undo_0 : decode cX8_undo 0 = .ok (.aload_n 0, 1) := by decide +kernel
theorem dX8_undo_1 : decode cX8_undo 1 = .ok (.getfield 38, 3) := by decide +kernel
theorem dX8_undo_4 : decode cX8_undo 4 = .ok (.aload_n 0, 1) := by decide +kernel
theorem dX8_undo_5 : decode cX8_undo 5 = .ok (.getfield 26, 3) := by decide +kernel
theorem dX8_undo_8 : decode cX8_undo 8 = .ok (.invokevirtual 179, 3) := by decide +kernel
theorem dX8_undo_11 : decode cX8_undo 11 = .ok (.ifCond .eq 13, 3) := by decide +kernel
theorem dX8_undo_14 : decode cX8_undo 14 = .ok (.aload_n 0, 1) := by decide +kernel
theorem dX8_undo_15 : decode cX8_undo 15 = .ok (.getfield 38, 3) := by decide +kernel
theorem dX8_undo_18 : decode cX8_undo 18 = .ok (.invokevirtual 183, 3) := by decide +kernel
theorem dX8_undo_21 : decode cX8_undo 21 = .ok (.goto 5, 3) := by decide +kernel
theorem dX8_undo_24 : decode cX8_undo 24 = .ok (.bipush (-2), 2) := by decide +kernel
theorem dX8_undo_26 : decode cX8_undo 26 = .ok (.ireturn, 1) := by decide +kernel
theorem dX8_weight_0 : decode cX8_weight 0 = .ok (.aload_n 0, 1) := by decide +kernel
theorem dX8_weight_1 : decode cX8_weight 1 = .ok (.iload_n 1, 1) := by decide +kernel
theorem dX8_weight_2 : decode cX8_weight 2 = .ok (.invokevirtual 146, 3) := by decide +kernel
theorem dX8_weight_5 : decode cX8_weight 5 = .ok (.ifCond .eq 36, 3) := by decide +kernel
theorem dX8_weight_8 : decode cX8_weight 8 = .ok (.aload_n 0, 1) := by decide +kernel
theorem dX8_weight_9 : decode cX8_weight 9 = .ok (.iload_n 2, 1) := by decide +kernel
theorem dX8_weight_10 : decode cX8_weight 10 = .ok (.invokevirtual 123, 3) := by decide +kernel
theorem dX8_weight_13 : decode cX8_weight 13 = .ok (.ifCond .eq 28, 3) := by decide +kernel
theorem dX8_weight_16 : decode cX8_weight 16 = .ok (.aload_n 0, 1) := by decide +kernel
theorem dX8_weight_17 : decode cX8_weight 17 = .ok (.getfield 16, 3) := by decide +kernel
theorem dX8_weight_20 : decode cX8_weight 20 = .ok (.aload_n 0, 1) := by decide +kernel
theorem dX8_weight_21 : decode cX8_weight 21 = .ok (.getfield 26, 3) := by decide +kernel
theorem dX8_weight_24 : decode cX8_weight 24 = .ok (.iload_n 1, 1) := by decide +kernel
theorem dX8_weight_25 : decode cX8_weight 25 = .ok (.iload_n 2, 1) := by decide +kernel
theorem dX8_weight_26 : decode cX8_weight 26 = .ok (.bipush 31, 2) := by decide +kernel
theorem dX8_weight_28 : decode cX8_weight 28 = .ok (.aload_n 0, 1) := by decide +kernel
theorem dX8_weight_29 : decode cX8_weight 29 = .ok (.getfield 16, 3) := by decide +kernel
theorem dX8_weight_32 : decode cX8_weight 32 = .ok (.invokevirtual 186, 3) := by decide +kernel
theorem dX8_weight_35 : decode cX8_weight 35 = .ok (.invokevirtual 189, 3) := by decide +kernel
theorem dX8_weight_38 : decode cX8_weight 38 = .ok (.goto 4, 3) := by decide +kernel
theorem dX8_weight_41 : decode cX8_weight 41 = .ok (.iconst (-1), 1) := by decide +kernel
theorem dX8_weight_42 : decode cX8_weight 42 = .ok (.ireturn, 1) := by decide +kernel
theorem dX8_likely_0 : decode cX8_likely 0 = .ok (.aload_n 0, 1) := by decide +kernel
theorem dX8_likely_1 : decode cX8_likely 1 = .ok (.iload_n 1, 1) := by decide +kernel
theorem dX8_likely_2 : decode cX8_likely 2 = .ok (.invokevirtual 146, 3) := by decide +kernel
theorem dX8_likely_5 : decode cX8_likely 5 = .ok (.ifCond .eq 20, 3) := by decide +kernel
theorem dX8_likely_8 : decode cX8_likely 8 = .ok (.aload_n 0, 1) := by decide +kernel
theorem dX8_likely_9 : decode cX8_likely 9 = .ok (.iload_n 2, 1) := by decide +kernel
theorem dX8_likely_10 : decode cX8_likely 10 = .ok (.invokevirtual 123, 3) := by decide +kernel
theorem dX8_likely_13 : decode cX8_likely 13 = .ok (.ifCond .eq 12, 3) := by decide +kernel
theorem dX8_likely_16 : decode cX8_likely 16 = .ok (.iload_n 3, 1) := by decide +kernel
theorem dX8_likely_17 : decode cX8_likely 17 = .ok (.ifCond .lt 8, 3) := by decide +kernel
theorem dX8_likely_20 : decode cX8_likely 20 = .ok (.iload_n 3, 1) := by decide +kernel
theorem dX8_likely_21 : decode cX8_likely 21 = .ok (.iconst 1, 1) := by decide +kernel
theorem dX8_likely_22 : decode cX8_likely 22 = .ok (.if_icmp .le 5, 3) := by decide +kernel
theorem dX8_likely_25 : decode cX8_likely 25 = .ok (.iconst (-1), 1) := by decide +kernel
theorem dX8_likely_26 : decode cX8_likely 26 = .ok (.ireturn, 1) := by decide +kernel
theorem dX8_likely_27 : decode cX8_likely 27 = .ok (.iconst 0, 1) := by decide +kernel
theorem dX8_likely_28 : decode cX8_likely 28 = .ok (.istore 4, 2) := by decide +kernel
theorem dX8_likely_30 : decode cX8_likely 30 = .ok (.iconst 0, 1) := by decide +kernel
theorem dX8_likely_31 : decode cX8_likely 31 = .ok (.istore 5, 2) := by decide +kernel
theorem dX8_likely_33 : decode cX8_likely 33 = .ok (.iload 5, 2) := by decide +kernel
theorem dX8_likely_35 : decode cX8_likely 35 = .ok (.aload_n 0, 1) := by decide +kernel
theorem dX8_likely_36 : decode cX8_likely 36 = .ok (.getfield 16, 3) := by decide +kernel
theorem dX8_likely_39 : decode cX8_likely 39 = .ok (.invokevirtual 108, 3) := by decide +kernel
theorem dX8_likely_42 : decode cX8_likely 42 = .ok (.if_icmp .ge 37, 3) := by decide +kernel
theorem dX8_likely_45 : decode cX8_likely 45 = .ok (.iload 4, 2) := by decide +kernel
theorem dX8_likely_47 : decode cX8_likely 47 = .ok (.aload_n 0, 1) := by decide +kernel
theorem dX8_likely_48 : decode cX8_likely 48 = .ok (.getfield 16, 3) := by decide +kernel
theorem dX8_likely_51 : decode cX8_likely 51 = .ok (.aload_n 0, 1) := by decide +kernel
theorem dX8_likely_52 : decode cX8_likely 52 = .ok (.getfield 26, 3) := by decide +kernel
theorem dX8_likely_55 : decode cX8_likely 55 = .ok (.iload_n 1, 1) := by decide +kernel
theorem dX8_likely_56 : decode cX8_likely 56 = .ok (.iload 5, 2) := by decide +kernel
theorem dX8_likely_58 : decode cX8_likely 58 = .ok (.bipush 31, 2) := by decide +kernel
theorem dX8_likely_60 : decode cX8_likely 60 = .ok (.aload_n 0, 1) := by decide +kernel
theorem dX8_likely_61 : decode cX8_likely 61 = .ok (.getfield 16, 3) := by decide +kernel
theorem dX8_likely_64 : decode cX8_likely 64 = .ok (.invokevirtual 186, 3) := by decide +kernel
theorem dX8_likely_67 : decode cX8_likely 67 = .ok (.invokevirtual 189, 3) := by decide +kernel
theorem dX8_likely_70 : decode cX8_likely 70 = .ok (.iadd, 1) := by decide +kernel
theorem dX8_likely_71 : decode cX8_likely 71 = .ok (.istore 4, 2) := by decide +kernel
theorem dX8_likely_73 : decode cX8_likely 73 = .ok (.iinc 5 1, 3) := by decide +kernel
