theorem dX0_init_0 : decode cX0_init 0 = .ok (.aload_n 0, 1) := by decide +kernel
theorem dX0_init_1 : decode cX0_init 1 = .ok (.invokespecial 3, 3) := by decide +kernel
theorem dX0_init_4 : decode cX0_init 4 = .ok (.aload_n 0, 1) := by decide +kernel
theorem dX0_init_5 : decode cX0_init 5 = .ok (.bipush 50, 2) := by decide +kernel
theorem dX0_init_7 : decode cX0_init 7 = .ok (.newarray .int, 2) := by decide +kernel
theorem dX0_init_9 : decode cX0_init 9 = .ok (.putfield 9, 3) := by decide +kernel
theorem dX0_init_12 : decode cX0_init 12 = .ok (.aload_n 0, 1) := by decide +kernel
theorem dX0_init_13 : decode cX0_init 13 = .ok (.bipush 50, 2) := by decide +kernel
theorem dX0_init_15 : decode cX0_init 15 = .ok (.newarray .int, 2) := by decide +kernel
theorem dX0_init_17 : decode cX0_init 17 = .ok (.putfield 15, 3) := by decide +kernel
theorem dX0_init_20 : decode cX0_init 20 = .ok (.aload_n 0, 1) := by decide +kernel
theorem dX0_init_21 : decode cX0_init 21 = .ok (.iconst 4, 1) := by decide +kernel
theorem dX0_init_22 : decode cX0_init 22 = .ok (.bipush 50, 2) := by decide +kernel
theorem dX0_init_24 : decode cX0_init 24 = .ok (.multianewarray 18 2, 4) := by decide +kernel
theorem dX0_init_28 : decode cX0_init 28 = .ok (.putfield 20, 3) := by decide +kernel
theorem dX0_init_31 : decode cX0_init 31 = .ok (.aload_n 0, 1) := by decide +kernel
theorem dX0_init_32 : decode cX0_init 32 = .ok (.bipush 8, 2) := by decide +kernel
theorem dX0_init_34 : decode cX0_init 34 = .ok (.anewarray 23, 3) := by decide +kernel
theorem dX0_init_37 : decode cX0_init 37 = .ok (.putfield 25, 3) := by decide +kernel
theorem dX0_init_40 : decode cX0_init 40 = .ok (.aload_n 0, 1) := by decide +kernel
theorem dX0_init_41 : decode cX0_init 41 = .ok (.iload_n 1, 1) := by decide +kernel
theorem dX0_init_42 : decode cX0_init 42 = .ok (.putfield 29, 3) := by decide +kernel
theorem dX0_init_45 : decode cX0_init 45 = .ok (.aload_n 0, 1) := by decide +kernel
theorem dX0_init_46 : decode cX0_init 46 = .ok (.aload_n 2, 1) := by decide +kernel
theorem dX0_init_47 : decode cX0_init 47 = .ok (.putfield 33, 3) := by decide +kernel
theorem dX0_init_50 : decode cX0_init 50 = .ok (.aload_n 0, 1) := by decide +kernel
theorem dX0_init_51 : decode cX0_init 51 = .ok (.iload_n 3, 1) := by decide +kernel
theorem dX0_init_52 : decode cX0_init 52 = .ok (.putfield 37, 3) := by decide +kernel
theorem dX0_init_55 : decode cX0_init 55 = .ok (.iconst 0, 1) := by decide +kernel
theorem dX0_init_56 : decode cX0_init 56 = .ok (.istore 5, 2) := by decide +kernel
theorem dX0_init_58 : decode cX0_init 58 = .ok (.iload 5, 2) := by decide +kernel
theorem dX0_init_60 : decode cX0_init 60 = .ok (.bipush 50, 2) := by decide +kernel
theorem dX0_init_62 : decode cX0_init 62 = .ok (.if_icmp .ge 17, 3) := by decide +kernel
theorem dX0_init_65 : decode cX0_init 65 = .ok (.aload_n 0, 1) := by decide +kernel
theorem dX0_init_66 : decode cX0_init 66 = .ok (.getfield 9, 3) := by decide +kernel
theorem dX0_init_69 : decode cX0_init 69 = .ok (.iload 5, 2) := by decide +kernel
theorem dX0_init_71 : decode cX0_init 71 = .ok (.iconst (-1), 1) := by decide +kernel
theorem dX0_init_72 : decode cX0_init 72 = .ok (.iastore, 1) := by decide +kernel
theorem dX0_init_73 : decode cX0_init 73 = .ok (.iinc 5 1, 3) := by decide +kernel
theorem dX0_init_76 : decode cX0_init 76 = .ok (.goto (-18), 3) := by decide +kernel
theorem dX0_init_79 : decode cX0_init 79 = .ok (.new 23, 3) := by decide +kernel
theorem dX0_init_82 : decode cX0_init 82 = .ok (.dup, 1) := by decide +kernel
theorem dX0_init_83 : decode cX0_init 83 = .ok (.iload_n 1, 1) := by decide +kernel
theorem dX0_init_84 : decode cX0_init 84 = .ok (.iconst 0, 1) := by decide +kernel
theorem dX0_init_85 : decode cX0_init 85 = .ok (.bipush 8, 2) := by decide +kernel
theorem dX0_init_87 : decode cX0_init 87 = .ok (.iload 4, 2) := by decide +kernel
theorem dX0_init_89 : decode cX0_init 89 = .ok (.iconst 0, 1) := by decide +kernel
theorem dX0_init_90 : decode cX0_init 90 = .ok (.invokespecial 40, 3) := by decide +kernel
theorem dX0_init_93 : decode cX0_init 93 = .ok (.astore 5, 2) := by decide +kernel
theorem dX0_init_95 : decode cX0_init 95 = .ok (.iconst 0, 1) := by decide +kernel
theorem dX0_init_96 : decode cX0_init 96 = .ok (.istore 6, 2) := by decide +kernel
theorem dX0_init_98 : decode cX0_init 98 = .ok (.iload 6, 2) := by decide +kernel
theorem dX0_init_100 : decode cX0_init 100 = .ok (.bipush 8, 2) := by decide +kernel
theorem dX0_init_102 : decode cX0_init 102 = .ok (.if_icmp .ge 18, 3) := by decide +kernel
theorem dX0_init_105 : decode cX0_init 105 = .ok (.aload_n 0, 1) := by decide +kernel
theorem dX0_init_106 : decode cX0_init 106 = .ok (.getfield 25, 3) := by decide +kernel
theorem dX0_init_109 : decode cX0_init 109 = .ok (.iload 6, 2) := by decide +kernel
theorem dX0_init_111 : decode cX0_init 111 = .ok (.aload 5, 2) := by decide +kernel
theorem dX0_init_113 : decode cX0_init 113 = .ok (.aastore, 1) := by decide +kernel
theorem dX0_init_114 : decode cX0_init 114 = .ok (.iinc 6 1, 3) := by decide +kernel
theorem dX0_init_117 : decode cX0_init 117 = .ok (.goto (-19), 3) := by decide +kernel
theorem dX0_init_120 : decode cX0_init 120 = .ok (.return_, 1) := by decide +kernel
theorem dX0_isName_0 : decode cX0_isName 0 = .ok (.iload_n 0, 1) := by decide +kernel
theorem dX0_isName_1 : decode cX0_isName 1 = .ok (.ifCond .lt 13, 3) := by decide +kernel
theorem dX0_isName_4 : decode cX0_isName 4 = .ok (.iload_n 0, 1) := by decide +kernel
theorem dX0_isName_5 : decode cX0_isName 5 = .ok (.bipush 50, 2) := by decide +kernel
theorem dX0_isName_7 : decode cX0_isName 7 = .ok (.if_icmp .ge 7, 3) := by decide +kernel
theorem dX0_isName_10 : decode cX0_isName 10 = .ok (.iconst 1, 1) := by decide +kernel
theorem dX0_isName_11 : decode cX0_isName 11 = .ok (.goto 4, 3) := by decide +kernel
theorem dX0_isName_14 : decode cX0_isName 14 = .ok (.iconst 0, 1) := by decide +kernel
theorem dX0_isName_15 : decode cX0_isName 15 = .ok (.ireturn, 1) := by decide +kernel
theorem dX0_meaningOf_0 : decode cX0_meaningOf 0 = .ok (.iload_n 1, 1) := by decide +kernel
theorem dX0_meaningOf_1 : decode cX0_meaningOf 1 = .ok (.invokestatic 43, 3) := by decide +kernel
theorem dX0_meaningOf_4 : decode cX0_meaningOf 4 = .ok (.ifCond .eq 12, 3) := by decide +kernel
theorem dX0_meaningOf_7 : decode cX0_meaningOf 7 = .ok (.aload_n 0, 1) := by decide +kernel
theorem dX0_meaningOf_8 : decode cX0_meaningOf 8 = .ok (.getfield 9, 3) := by decide +kernel
theorem dX0_meaningOf_11 : decode cX0_meaningOf 11 = .ok (.iload_n 1, 1) := by decide +kernel
theorem dX0_meaningOf_12 : decode cX0_meaningOf 12 = .ok (.iaload, 1) := by decide +kernel
theorem dX0_meaningOf_13 : decode cX0_meaningOf 13 = .ok (.goto 4, 3) := by decide +kernel
theorem dX0_meaningOf_16 : decode cX0_meaningOf 16 = .ok (.iconst (-1), 1) := by decide +kernel
theorem dX0_meaningOf_17 : decode cX0_meaningOf 17 = .ok (.ireturn, 1) := by decide +kernel
theorem dX0_ageOf_0 : decode cX0_ageOf 0 = .ok (.iload_n 1, 1) := by decide +kernel
theorem dX0_ageOf_1 : decode cX0_ageOf 1 = .ok (.invokestatic 43, 3) := by decide +kernel
theorem dX0_ageOf_4 : decode cX0_ageOf 4 = .ok (.ifCond .eq 12, 3) := by decide +kernel
theorem dX0_ageOf_7 : decode cX0_ageOf 7 = .ok (.aload_n 0, 1) := by decide +kernel
theorem dX0_ageOf_8 : decode cX0_ageOf 8 = .ok (.getfield 15, 3) := by decide +kernel
theorem dX0_ageOf_11 : decode cX0_ageOf 11 = .ok (.iload_n 1, 1) := by decide +kernel
theorem dX0_ageOf_12 : decode cX0_ageOf 12 = .ok (.iaload, 1) := by decide +kernel
theorem dX0_ageOf_13 : decode cX0_ageOf 13 = .ok (.goto 4, 3) := by decide +kernel
theorem dX0_ageOf_16 : decode cX0_ageOf 16 = .ok (.iconst 0, 1) := by decide +kernel
theorem dX0_ageOf_17 : decode cX0_ageOf 17 = .ok (.ireturn, 1) := by decide +kernel
theorem dX0_setMeaning_0 : decode cX0_setMeaning 0 = .ok (.iload_n 1, 1) := by decide +kernel
theorem dX0_setMeaning_1 : decode cX0_setMeaning 1 = .ok (.invokestatic 43, 3) := by decide +kernel
theorem dX0_setMeaning_4 : decode cX0_setMeaning 4 = .ok (.ifCond .eq 17, 3) := by decide +kernel
theorem dX0_setMeaning_7 : decode cX0_setMeaning 7 = .ok (.aload_n 0, 1) := by decide +kernel
theorem dX0_setMeaning_8 : decode cX0_setMeaning 8 = .ok (.getfield 9, 3) := by decide +kernel
theorem dX0_setMeaning_11 : decode cX0_setMeaning 11 = .ok (.iload_n 1, 1) := by decide +kernel
theorem dX0_setMeaning_12 : decode cX0_setMeaning 12 = .ok (.iload_n 2, 1) := by decide +kernel
theorem dX0_setMeaning_13 : decode cX0_setMeaning 13 = .ok (.iastore, 1) := by decide +kernel
theorem dX0_setMeaning_14 : decode cX0_setMeaning 14 = .ok (.aload_n 0, 1) := by decide +kernel
theorem dX0_setMeaning_15 : decode cX0_setMeaning 15 = .ok (.getfield 15, 3) := by decide +kernel
theorem dX0_setMeaning_18 : decode cX0_setMeaning 18 = .ok (.iload_n 1, 1) := by decide +kernel
theorem dX0_setMeaning_19 : decode cX0_setMeaning 19 = .ok (.iload_n 3, 1) := by decide +kernel
theorem dX0_setMeaning_20 : decode cX0_setMeaning 20 = .ok (.iastore, 1) := by decide +kernel
theorem dX0_setMeaning_21 : decode cX0_setMeaning 21 = .ok (.return_, 1) := by decide +kernel
theorem dX0_countTaken_0 : decode cX0_countTaken 0 = .ok (.iconst 0, 1) := by decide +kernel
theorem dX0_countTaken_1 : decode cX0_countTaken 1 = .ok (.istore_n 1, 1) := by decide +kernel
theorem dX0_countTaken_2 : decode cX0_countTaken 2 = .ok (.iconst 0, 1) := by decide +kernel
theorem dX0_countTaken_3 : decode cX0_countTaken 3 = .ok (.istore_n 2, 1) := by decide +kernel
theorem dX0_countTaken_4 : decode cX0_countTaken 4 = .ok (.iload_n 2, 1) := by decide +kernel
theorem dX0_countTaken_5 : decode cX0_countTaken 5 = .ok (.bipush 50, 2) := by decide +kernel
theorem dX0_countTaken_7 : decode cX0_countTaken 7 = .ok (.if_icmp .ge 22, 3) := by decide +kernel
theorem dX0_countTaken_10 : decode cX0_countTaken 10 = .ok (.aload_n 0, 1) := by decide +kernel
theorem dX0_countTaken_11 : decode cX0_countTaken 11 = .ok (.getfield 9, 3) := by decide +kernel
theorem dX0_countTaken_14 : decode cX0_countTaken 14 = .ok (.iload_n 2, 1) := by decide +kernel
theorem dX0_countTaken_15 : decode cX0_countTaken 15 = .ok (.iaload, 1) := by decide +kernel
theorem dX0_countTaken_16 : decode cX0_countTaken 16 = .ok (.iconst (-1), 1) := by decide +kernel
theorem dX0_countTaken_17 : decode cX0_countTaken 17 = .ok (.if_icmp .eq 6, 3) := by decide +kernel
theorem dX0_countTaken_20 : decode cX0_countTaken 20 = .ok (.iinc 1 1, 3) := by decide +kernel
theorem dX0_countTaken_23 : decode cX0_countTaken 23 = .ok (.iinc 2 1, 3) := by decide +kernel
theorem dX0_countTaken_26 : decode cX0_countTaken 26 = .ok (.goto (-22), 3) := by decide +kernel
theorem dX0_countTaken_29 : decode cX0_countTaken 29 = .ok (.iload_n 1, 1) := by decide +kernel
theorem dX0_countTaken_30 : decode cX0_countTaken 30 = .ok (.ireturn, 1) := by decide +kernel
theorem dX0_countLinksTo_0 : decode cX0_countLinksTo 0 = .ok (.iconst 0, 1) := by decide +kernel
theorem dX0_countLinksTo_1 : decode cX0_countLinksTo 1 = .ok (.istore_n 2, 1) := by decide +kernel
theorem dX0_countLinksTo_2 : decode cX0_countLinksTo 2 = .ok (.iconst 0, 1) := by decide +kernel
theorem dX0_countLinksTo_3 : decode cX0_countLinksTo 3 = .ok (.istore_n 3, 1) := by decide +kernel
theorem dX0_countLinksTo_4 : decode cX0_countLinksTo 4 = .ok (.iload_n 3, 1) := by decide +kernel
theorem dX0_countLinksTo_5 : decode cX0_countLinksTo 5 = .ok (.bipush 50, 2) := by decide +kernel
theorem dX0_countLinksTo_7 : decode cX0_countLinksTo 7 = .ok (.if_icmp .ge 22, 3) := by decide +kernel
theorem dX0_countLinksTo_10 : decode cX0_countLinksTo 10 = .ok (.aload_n 0, 1) := by decide +kernel
theorem dX0_countLinksTo_11 : decode cX0_countLinksTo 11 = .ok (.getfield 9, 3) := by decide +kernel
theorem dX0_countLinksTo_14 : decode cX0_countLinksTo 14 = .ok (.iload_n 3, 1) := by decide +kernel
theorem dX0_countLinksTo_15 : decode cX0_countLinksTo 15 = .ok (.iaload, 1) := by decide +kernel
theorem dX0_countLinksTo_16 : decode cX0_countLinksTo 16 = .ok (.iload_n 1, 1) := by decide +kernel
theorem dX0_countLinksTo_17 : decode cX0_countLinksTo 17 = .ok (.if_icmp .ne 6, 3) := by decide +kernel
theorem dX0_countLinksTo_20 : decode cX0_countLinksTo 20 = .ok (.iinc 2 1, 3) := by decide +kernel
theorem dX0_countLinksTo_23 : decode cX0_countLinksTo 23 = .ok (.iinc 3 1, 3) := by decide +kernel
theorem dX0_countLinksTo_26 : decode cX0_countLinksTo 26 = .ok (.goto (-22), 3) := by decide +kernel
theorem dX0_countLinksTo_29 : decode cX0_countLinksTo 29 = .ok (.iload_n 2, 1) := by decide +kernel
theorem dX0_countLinksTo_30 : decode cX0_countLinksTo 30 = .ok (.ireturn, 1) := by decide +kernel
theorem dX0_oldestLink_0 : decode cX0_oldestLink 0 = .ok (.bipush 50, 2) := by decide +kernel
theorem dX0_oldestLink_2 : decode cX0_oldestLink 2 = .ok (.istore_n 2, 1) := by decide +kernel
theorem dX0_oldestLink_3 : decode cX0_oldestLink 3 = .ok (.iconst 0, 1) := by decide +kernel
theorem dX0_oldestLink_4 : decode cX0_oldestLink 4 = .ok (.istore_n 3, 1) := by decide +kernel
theorem dX0_oldestLink_5 : decode cX0_oldestLink 5 = .ok (.iload_n 3, 1) := by decide +kernel
theorem dX0_oldestLink_6 : decode cX0_oldestLink 6 = .ok (.bipush 50, 2) := by decide +kernel
theorem dX0_oldestLink_8 : decode cX0_oldestLink 8 = .ok (.if_icmp .ge 42, 3) := by decide +kernel
theorem dX0_oldestLink_11 : decode cX0_oldestLink 11 = .ok (.aload_n 0, 1) := by decide +kernel
theorem dX0_oldestLink_12 : decode cX0_oldestLink 12 = .ok (.getfield 9, 3) := by decide +kernel
theorem dX0_oldestLink_15 : decode cX0_oldestLink 15 = .ok (.iload_n 3, 1) := by decide +kernel
theorem dX0_oldestLink_16 : decode cX0_oldestLink 16 = .ok (.iaload, 1) := by decide +kernel
theorem dX0_oldestLink_17 : decode cX0_oldestLink 17 = .ok (.iload_n 1, 1) := by decide +kernel
theorem dX0_oldestLink_18 : decode cX0_oldestLink 18 = .ok (.if_icmp .ne 26, 3) := by decide +kernel
theorem dX0_oldestLink_21 : decode cX0_oldestLink 21 = .ok (.iload_n 2, 1) := by decide +kernel
theorem dX0_oldestLink_22 : decode cX0_oldestLink 22 = .ok (.bipush 50, 2) := by decide +kernel
theorem dX0_oldestLink_24 : decode cX0_oldestLink 24 = .ok (.if_icmp .eq 18, 3) := by decide +kernel
theorem dX0_oldestLink_27 : decode cX0_oldestLink 27 = .ok (.aload_n 0, 1) := by decide +kernel
theorem dX0_oldestLink_28 : decode cX0_oldestLink 28 = .ok (.getfield 15, 3) := by decide +kernel
theorem dX0_oldestLink_31 : decode cX0_oldestLink 31 = .ok (.iload_n 3, 1) := by decide +kernel
theorem dX0_oldestLink_32 : decode cX0_oldestLink 32 = .ok (.iaload, 1) := by decide +kernel
theorem dX0_oldestLink_33 : decode cX0_oldestLink 33 = .ok (.aload_n 0, 1) := by decide +kernel
theorem dX0_oldestLink_34 : decode cX0_oldestLink 34 = .ok (.getfield 15, 3) := by decide +kernel
theorem dX0_oldestLink_37 : decode cX0_oldestLink 37 = .ok (.iload_n 2, 1) := by decide +kernel
theorem dX0_oldestLink_38 : decode cX0_oldestLink 38 = .ok (.iaload, 1) := by decide +kernel
theorem dX0_oldestLink_39 : decode cX0_oldestLink 39 = .ok (.if_icmp .ge 5, 3) := by decide +kernel
theorem dX0_oldestLink_42 : decode cX0_oldestLink 42 = .ok (.iload_n 3, 1) := by decide +kernel
theorem dX0_oldestLink_43 : decode cX0_oldestLink 43 = .ok (.istore_n 2, 1) := by decide +kernel
theorem dX0_oldestLink_44 : decode cX0_oldestLink 44 = .ok (.iinc 3 1, 3) := by decide +kernel
theorem dX0_oldestLink_47 : decode cX0_oldestLink 47 = .ok (.goto (-42), 3) := by decide +kernel
theorem dX0_oldestLink_50 : decode cX0_oldestLink 50 = .ok (.iload_n 2, 1) := by decide +kernel
theorem dX0_oldestLink_51 : decode cX0_oldestLink 51 = .ok (.ireturn, 1) := by decide +kernel
theorem dX0_isWithin_0 : decode cX0_isWithin 0 = .ok (.aload_n 0, 1) := by decide +kernel
theorem dX0_isWithin_1 : decode cX0_isWithin 1 = .ok (.astore_n 2, 1) := by decide +kernel
theorem dX0_isWithin_2 : decode cX0_isWithin 2 = .ok (.iconst 0, 1) := by decide +kernel
theorem dX0_isWithin_3 : decode cX0_isWithin 3 = .ok (.istore_n 3, 1) := by decide +kernel
theorem dX0_isWithin_4 : decode cX0_isWithin 4 = .ok (.aload_n 2, 1) := by decide +kernel
theorem dX0_isWithin_5 : decode cX0_isWithin 5 = .ok (.ifnull 27, 3) := by decide +kernel
theorem dX0_isWithin_8 : decode cX0_isWithin 8 = .ok (.iload_n 3, 1) := by decide +kernel
theorem dX0_isWithin_9 : decode cX0_isWithin 9 = .ok (.bipush 12, 2) := by decide +kernel
theorem dX0_isWithin_11 : decode cX0_isWithin 11 = .ok (.if_icmp .ge 21, 3) := by decide +kernel
theorem dX0_isWithin_14 : decode cX0_isWithin 14 = .ok (.aload_n 2, 1) := by decide +kernel
theorem dX0_isWithin_15 : decode cX0_isWithin 15 = .ok (.aload_n 1, 1) := by decide +kernel
theorem dX0_isWithin_16 : decode cX0_isWithin 16 = .ok (.if_acmp .ne 5, 3) := by decide +kernel
theorem dX0_isWithin_19 : decode cX0_isWithin 19 = .ok (.iconst 1, 1) := by decide +kernel
theorem dX0_isWithin_20 : decode cX0_isWithin 20 = .ok (.ireturn, 1) := by decide +kernel
theorem dX0_isWithin_21 : decode cX0_isWithin 21 = .ok (.aload_n 2, 1) := by decide +kernel
theorem dX0_isWithin_22 : decode cX0_isWithin 22 = .ok (.getfield 33, 3) := by decide +kernel
theorem dX0_isWithin_25 : decode cX0_isWithin 25 = .ok (.astore_n 2, 1) := by decide +kernel
theorem dX0_isWithin_26 : decode cX0_isWithin 26 = .ok (.iinc 3 1, 3) := by decide +kernel
theorem dX0_isWithin_29 : decode cX0_isWithin 29 = .ok (.goto (-25), 3) := by decide +kernel
theorem dX0_isWithin_32 : decode cX0_isWithin 32 = .ok (.iconst 0, 1) := by decide +kernel
theorem dX0_isWithin_33 : decode cX0_isWithin 33 = .ok (.ireturn, 1) := by decide +kernel
theorem dX0_isClient_0 : decode cX0_isClient 0 = .ok (.iload_n 0, 1) := by decide +kernel
theorem dX0_isClient_1 : decode cX0_isClient 1 = .ok (.ifCond .lt 12, 3) := by decide +kernel
theorem dX0_isClient_4 : decode cX0_isClient 4 = .ok (.iload_n 0, 1) := by decide +kernel
theorem dX0_isClient_5 : decode cX0_isClient 5 = .ok (.iconst 4, 1) := by decide +kernel
theorem dX0_isClient_6 : decode cX0_isClient 6 = .ok (.if_icmp .ge 7, 3) := by decide +kernel
theorem dX0_isClient_9 : decode cX0_isClient 9 = .ok (.iconst 1, 1) := by decide +kernel
theorem dX0_isClient_10 : decode cX0_isClient 10 = .ok (.goto 4, 3) := by decide +kernel
theorem dX0_isClient_13 : decode cX0_isClient 13 = .ok (.iconst 0, 1) := by decide +kernel
theorem dX0_isClient_14 : decode cX0_isClient 14 = .ok (.ireturn, 1) := by decide +kernel
theorem dX0_leaseRuns_0 : decode cX0_leaseRuns 0 = .ok (.iload_n 1, 1) := by decide +kernel
theorem dX0_leaseRuns_1 : decode cX0_leaseRuns 1 = .ok (.invokestatic 47, 3) := by decide +kernel
theorem dX0_leaseRuns_4 : decode cX0_leaseRuns 4 = .ok (.ifCond .eq 26, 3) := by decide +kernel
theorem dX0_leaseRuns_7 : decode cX0_leaseRuns 7 = .ok (.iload_n 2, 1) := by decide +kernel
theorem dX0_leaseRuns_8 : decode cX0_leaseRuns 8 = .ok (.invokestatic 43, 3) := by decide +kernel
theorem dX0_leaseRuns_11 : decode cX0_leaseRuns 11 = .ok (.ifCond .eq 19, 3) := by decide +kernel
theorem dX0_leaseRuns_14 : decode cX0_leaseRuns 14 = .ok (.aload_n 0, 1) := by decide +kernel
theorem dX0_leaseRuns_15 : decode cX0_leaseRuns 15 = .ok (.getfield 20, 3) := by decide +kernel
theorem dX0_leaseRuns_18 : decode cX0_leaseRuns 18 = .ok (.iload_n 1, 1) := by decide +kernel
theorem dX0_leaseRuns_19 : decode cX0_leaseRuns 19 = .ok (.aaload, 1) := by decide +kernel
theorem dX0_leaseRuns_20 : decode cX0_leaseRuns 20 = .ok (.iload_n 2, 1) := by decide +kernel
theorem dX0_leaseRuns_21 : decode cX0_leaseRuns 21 = .ok (.iaload, 1) := by decide +kernel
theorem dX0_leaseRuns_22 : decode cX0_leaseRuns 22 = .ok (.iload_n 3, 1) := by decide +kernel
theorem dX0_leaseRuns_23 : decode cX0_leaseRuns 23 = .ok (.if_icmp .le 7, 3) := by decide +kernel
theorem dX0_leaseRuns_26 : decode cX0_leaseRuns 26 = .ok (.iconst 1, 1) := by decide +kernel
theorem dX0_leaseRuns_27 : decode cX0_leaseRuns 27 = .ok (.goto 4, 3) := by decide +kernel
theorem dX0_leaseRuns_30 : decode cX0_leaseRuns 30 = .ok (.iconst 0, 1) := by decide +kernel
theorem dX0_leaseRuns_31 : decode cX0_leaseRuns 31 = .ok (.ireturn, 1) := by decide +kernel
theorem dX0_setLeaseEnd_0 : decode cX0_setLeaseEnd 0 = .ok (.iload_n 1, 1) := by decide +kernel
theorem dX0_setLeaseEnd_1 : decode cX0_setLeaseEnd 1 = .ok (.invokestatic 47, 3) := by decide +kernel
theorem dX0_setLeaseEnd_4 : decode cX0_setLeaseEnd 4 = .ok (.ifCond .eq 19, 3) := by decide +kernel
theorem dX0_setLeaseEnd_7 : decode cX0_setLeaseEnd 7 = .ok (.iload_n 2, 1) := by decide +kernel
theorem dX0_setLeaseEnd_8 : decode cX0_setLeaseEnd 8 = .ok (.invokestatic 43, 3) := by decide +kernel
theorem dX0_setLeaseEnd_11 : decode cX0_setLeaseEnd 11 = .ok (.ifCond .eq 12, 3) := by decide +kernel
theorem dX0_setLeaseEnd_14 : decode cX0_setLeaseEnd 14 = .ok (.aload_n 0, 1) := by decide +kernel
theorem dX0_setLeaseEnd_15 : decode cX0_setLeaseEnd 15 = .ok (.getfield 20, 3) := by decide +kernel
theorem dX0_setLeaseEnd_18 : decode cX0_setLeaseEnd 18 = .ok (.iload_n 1, 1) := by decide +kernel
theorem dX0_setLeaseEnd_19 : decode cX0_setLeaseEnd 19 = .ok (.aaload, 1) := by decide +kernel
theorem dX0_setLeaseEnd_20 : decode cX0_setLeaseEnd 20 = .ok (.iload_n 2, 1) := by decide +kernel
theorem dX0_setLeaseEnd_21 : decode cX0_setLeaseEnd 21 = .ok (.iload_n 3, 1) := by decide +kernel
theorem dX0_setLeaseEnd_22 : decode cX0_setLeaseEnd 22 = .ok (.iastore, 1) := by decide +kernel
theorem dX0_setLeaseEnd_23 : decode cX0_setLeaseEnd 23 = .ok (.return_, 1) := by decide +kernel
theorem dX0_fragmentAt_0 : decode cX0_fragmentAt 0 = .ok (.aload_n 0, 1) := by decide +kernel
theorem dX0_fragmentAt_1 : decode cX0_fragmentAt 1 = .ok (.getfield 25, 3) := by decide +kernel
theorem dX0_fragmentAt_4 : decode cX0_fragmentAt 4 = .ok (.iload_n 1, 1) := by decide +kernel
theorem dX0_fragmentAt_5 : decode cX0_fragmentAt 5 = .ok (.bipush 7, 2) := by decide +kernel
theorem dX0_fragmentAt_7 : decode cX0_fragmentAt 7 = .ok (.iand, 1) := by decide +kernel
theorem dX0_fragmentAt_8 : decode cX0_fragmentAt 8 = .ok (.aaload, 1) := by decide +kernel
theorem dX0_fragmentAt_9 : decode cX0_fragmentAt 9 = .ok (.areturn, 1) := by decide +kernel
theorem dX0_fragmentOfName_0 : decode cX0_fragmentOfName 0 = .ok (.aload_n 0, 1) := by decide +kernel
theorem dX0_fragmentOfName_1 : decode cX0_fragmentOfName 1 = .ok (.iconst 5, 1) := by decide +kernel
theorem dX0_fragmentOfName_2 : decode cX0_fragmentOfName 2 = .ok (.iload_n 1, 1) := by decide +kernel
theorem dX0_fragmentOfName_3 : decode cX0_fragmentOfName 3 = .ok (.imul, 1) := by decide +kernel
theorem dX0_fragmentOfName_4 : decode cX0_fragmentOfName 4 = .ok (.iconst 3, 1) := by decide +kernel
theorem dX0_fragmentOfName_5 : decode cX0_fragmentOfName 5 = .ok (.iadd, 1) := by decide +kernel
theorem dX0_fragmentOfName_6 : decode cX0_fragmentOfName 6 = .ok (.invokevirtual 54, 3) := by decide +kernel
theorem dX0_fragmentOfName_9 : decode cX0_fragmentOfName 9 = .ok (.areturn, 1) := by decide +kernel
theorem dX1_init_0 : decode cX1_init 0 = .ok (.aload_n 0, 1) := by decide +kernel
theorem dX1_init_1 : decode cX1_init 1 = .ok (.invokespecial 1, 3) := by decide +kernel
theorem dX1_init_4 : decode cX1_init 4 = .ok (.aload_n 0, 1) := by decide +kernel
theorem dX1_init_5 : decode cX1_init 5 = .ok (.iload_n 1, 1) := by decide +kernel
theorem dX1_init_6 : decode cX1_init 6 = .ok (.putfield 7, 3) := by decide +kernel
theorem dX1_init_9 : decode cX1_init 9 = .ok (.aload_n 0, 1) := by decide +kernel
theorem dX1_init_10 : decode cX1_init 10 = .ok (.iload_n 2, 1) := by decide +kernel
theorem dX1_init_11 : decode cX1_init 11 = .ok (.putfield 13, 3) := by decide +kernel
theorem dX1_init_14 : decode cX1_init 14 = .ok (.aload_n 0, 1) := by decide +kernel
theorem dX1_init_15 : decode cX1_init 15 = .ok (.iload_n 3, 1) := by decide +kernel
theorem dX1_init_16 : decode cX1_init 16 = .ok (.putfield 16, 3) := by decide +kernel
theorem dX1_init_19 : decode cX1_init 19 = .ok (.aload_n 0, 1) := by decide +kernel
theorem dX1_init_20 : decode cX1_init 20 = .ok (.iload 4, 2) := by decide +kernel
theorem dX1_init_22 : decode cX1_init 22 = .ok (.putfield 19, 3) := by decide +kernel
theorem dX1_init_25 : decode cX1_init 25 = .ok (.aload_n 0, 1) := by decide +kernel
theorem dX1_init_26 : decode cX1_init 26 = .ok (.iload 5, 2) := by decide +kernel
theorem dX1_init_28 : decode cX1_init 28 = .ok (.putfield 22, 3) := by decide +kernel
theorem dX1_init_31 : decode cX1_init 31 = .ok (.return_, 1) := by decide +kernel
theorem dX2_init_0 : decode cX2_init 0 = .ok (.aload_n 0, 1) := by decide +kernel
theorem dX2_init_1 : decode cX2_init 1 = .ok (.invokespecial 1, 3) := by decide +kernel
theorem dX2_init_4 : decode cX2_init 4 = .ok (.aload_n 0, 1) := by decide +kernel
theorem dX2_init_5 : decode cX2_init 5 = .ok (.bipush 12, 2) := by decide +kernel
theorem dX2_init_7 : decode cX2_init 7 = .ok (.anewarray 9, 3) := by decide +kernel
theorem dX2_init_10 : decode cX2_init 10 = .ok (.putfield 11, 3) := by decide +kernel
theorem dX2_init_13 : decode cX2_init 13 = .ok (.aload_n 0, 1) := by decide +kernel
theorem dX2_init_14 : decode cX2_init 14 = .ok (.iconst 4, 1) := by decide +kernel
theorem dX2_init_15 : decode cX2_init 15 = .ok (.newarray .int, 2) := by decide +kernel
theorem dX2_init_17 : decode cX2_init 17 = .ok (.putfield 15, 3) := by decide +kernel
theorem dX2_init_20 : decode cX2_init 20 = .ok (.aload_n 0, 1) := by decide +kernel
theorem dX2_init_21 : decode cX2_init 21 = .ok (.iconst 4, 1) := by decide +kernel
theorem dX2_init_22 : decode cX2_init 22 = .ok (.newarray .int, 2) := by decide +kernel
theorem dX2_init_24 : decode cX2_init 24 = .ok (.putfield 19, 3) := by decide +kernel
theorem dX2_init_27 : decode cX2_init 27 = .ok (.aload_n 0, 1) := by decide +kernel
theorem dX2_init_28 : decode cX2_init 28 = .ok (.getfield 11, 3) := by decide +kernel
theorem dX2_init_31 : decode cX2_init 31 = .ok (.iconst 0, 1) := by decide +kernel
theorem dX2_init_32 : decode cX2_init 32 = .ok (.new 9, 3) := by decide +kernel
theorem dX2_init_35 : decode cX2_init 35 = .ok (.dup, 1) := by decide +kernel
theorem dX2_init_36 : decode cX2_init 36 = .ok (.iconst 0, 1) := by decide +kernel
theorem dX2_init_37 : decode cX2_init 37 = .ok (.aconst_null, 1) := by decide +kernel
theorem dX2_init_38 : decode cX2_init 38 = .ok (.iconst 0, 1) := by decide +kernel
theorem dX2_init_39 : decode cX2_init 39 = .ok (.iconst 0, 1) := by decide +kernel
theorem dX2_init_40 : decode cX2_init 40 = .ok (.invokespecial 22, 3) := by decide +kernel
theorem dX2_init_43 : decode cX2_init 43 = .ok (.aastore, 1) := by decide +kernel
theorem dX2_init_44 : decode cX2_init 44 = .ok (.aload_n 0, 1) := by decide +kernel
theorem dX2_init_45 : decode cX2_init 45 = .ok (.iconst 1, 1) := by decide +kernel
theorem dX2_init_46 : decode cX2_init 46 = .ok (.putfield 25, 3) := by decide +kernel
theorem dX2_init_49 : decode cX2_init 49 = .ok (.return_, 1) := by decide +kernel
theorem dX2_lookup_0 : decode cX2_lookup 0 = .ok (.iload_n 1, 1) := by decide +kernel
theorem dX2_lookup_1 : decode cX2_lookup 1 = .ok (.invokestatic 29, 3) := by decide +kernel
theorem dX2_lookup_4 : decode cX2_lookup 4 = .ok (.iload_n 3, 1) := by decide +kernel
theorem dX2_lookup_5 : decode cX2_lookup 5 = .ok (.invokestatic 33, 3) := by decide +kernel
theorem dX2_lookup_8 : decode cX2_lookup 8 = .ok (.aload_n 0, 1) := by decide +kernel
theorem dX2_lookup_9 : decode cX2_lookup 9 = .ok (.iload_n 2, 1) := by decide +kernel
theorem dX2_lookup_10 : decode cX2_lookup 10 = .ok (.invokevirtual 36, 3) := by decide +kernel
theorem dX2_lookup_13 : decode cX2_lookup 13 = .ok (.astore 4, 2) := by decide +kernel
theorem dX2_lookup_15 : decode cX2_lookup 15 = .ok (.aload 4, 2) := by decide +kernel
theorem dX2_lookup_17 : decode cX2_lookup 17 = .ok (.iload_n 1, 1) := by decide +kernel
theorem dX2_lookup_18 : decode cX2_lookup 18 = .ok (.iload_n 3, 1) := by decide +kernel
theorem dX2_lookup_19 : decode cX2_lookup 19 = .ok (.aload_n 0, 1) := by decide +kernel
theorem dX2_lookup_20 : decode cX2_lookup 20 = .ok (.getfield 40, 3) := by decide +kernel
theorem dX2_lookup_23 : decode cX2_lookup 23 = .ok (.invokevirtual 43, 3) := by decide +kernel
theorem dX2_lookup_26 : decode cX2_lookup 26 = .ok (.ifCond .eq 16, 3) := by decide +kernel
theorem dX2_lookup_29 : decode cX2_lookup 29 = .ok (.aload_n 0, 1) := by decide +kernel
theorem dX2_lookup_30 : decode cX2_lookup 30 = .ok (.getfield 19, 3) := by decide +kernel
theorem dX2_lookup_33 : decode cX2_lookup 33 = .ok (.iload_n 1, 1) := by decide +kernel
theorem dX2_lookup_34 : decode cX2_lookup 34 = .ok (.dup2, 1) := by decide +kernel
theorem dX2_lookup_35 : decode cX2_lookup 35 = .ok (.iaload, 1) := by decide +kernel
theorem dX2_lookup_36 : decode cX2_lookup 36 = .ok (.iconst 1, 1) := by decide +kernel
theorem dX2_lookup_37 : decode cX2_lookup 37 = .ok (.iadd, 1) := by decide +kernel
theorem dX2_lookup_38 : decode cX2_lookup 38 = .ok (.iastore, 1) := by decide +kernel
theorem dX2_lookup_39 : decode cX2_lookup 39 = .ok (.goto 32, 3) := by decide +kernel
theorem dX2_lookup_42 : decode cX2_lookup 42 = .ok (.aload 4, 2) := by decide +kernel
theorem dX2_lookup_44 : decode cX2_lookup 44 = .ok (.iload_n 3, 1) := by decide +kernel
theorem dX2_lookup_45 : decode cX2_lookup 45 = .ok (.invokevirtual 47, 3) := by decide +kernel
theorem dX2_lookup_48 : decode cX2_lookup 48 = .ok (.dup, 1) := by decide +kernel
theorem dX2_lookup_49 : decode cX2_lookup 49 = .ok (.getfield 51, 3) := by decide +kernel
theorem dX2_lookup_52 : decode cX2_lookup 52 = .ok (.iconst 1, 1) := by decide +kernel
theorem dX2_lookup_53 : decode cX2_lookup 53 = .ok (.iadd, 1) := by decide +kernel
theorem dX2_lookup_54 : decode cX2_lookup 54 = .ok (.putfield 51, 3) := by decide +kernel
theorem dX2_lookup_57 : decode cX2_lookup 57 = .ok (.aload 4, 2) := by decide +kernel
theorem dX2_lookup_59 : decode cX2_lookup 59 = .ok (.iload_n 1, 1) := by decide +kernel
theorem dX2_lookup_60 : decode cX2_lookup 60 = .ok (.iload_n 3, 1) := by decide +kernel
theorem dX2_lookup_61 : decode cX2_lookup 61 = .ok (.aload_n 0, 1) := by decide +kernel
theorem dX2_lookup_62 : decode cX2_lookup 62 = .ok (.getfield 40, 3) := by decide +kernel
theorem dX2_lookup_65 : decode cX2_lookup 65 = .ok (.bipush 10, 2) := by decide +kernel
theorem dX2_lookup_67 : decode cX2_lookup 67 = .ok (.iadd, 1) := by decide +kernel
theorem dX2_lookup_68 : decode cX2_lookup 68 = .ok (.invokevirtual 56, 3) := by decide +kernel
theorem dX2_lookup_71 : decode cX2_lookup 71 = .ok (.aload 4, 2) := by decide +kernel
theorem dX2_lookup_73 : decode cX2_lookup 73 = .ok (.iload_n 3, 1) := by decide +kernel
theorem dX2_lookup_74 : decode cX2_lookup 74 = .ok (.invokevirtual 60, 3) := by decide +kernel
theorem dX2_lookup_77 : decode cX2_lookup 77 = .ok (.ireturn, 1) := by decide +kernel
theorem dX2_makeDirectory_0 : decode cX2_makeDirectory 0 = .ok (.iload_n 1, 1) := by decide +kernel
theorem dX2_makeDirectory_1 : decode cX2_makeDirectory 1 = .ok (.invokestatic 29, 3) := by decide +kernel
theorem dX2_makeDirectory_4 : decode cX2_makeDirectory 4 = .ok (.iload_n 3, 1) := by decide +kernel
theorem dX2_makeDirectory_5 : decode cX2_makeDirectory 5 = .ok (.invokestatic 33, 3) := by decide +kernel
theorem dX2_makeDirectory_8 : decode cX2_makeDirectory 8 = .ok (.aload_n 0, 1) := by decide +kernel
theorem dX2_makeDirectory_9 : decode cX2_makeDirectory 9 = .ok (.iload_n 2, 1) := by decide +kernel
theorem dX2_makeDirectory_10 : decode cX2_makeDirectory 10 = .ok (.invokevirtual 36, 3) := by decide +kernel
theorem dX2_makeDirectory_13 : decode cX2_makeDirectory 13 = .ok (.astore 4, 2) := by decide +kernel
theorem dX2_makeDirectory_15 : decode cX2_makeDirectory 15 = .ok (.aload_n 0, 1) := by decide +kernel
theorem dX2_makeDirectory_16 : decode cX2_makeDirectory 16 = .ok (.aload 4, 2) := by decide +kernel
theorem dX2_makeDirectory_18 : decode cX2_makeDirectory 18 = .ok (.iload_n 3, 1) := by decide +kernel
theorem dX2_makeDirectory_19 : decode cX2_makeDirectory 19 = .ok (.invokevirtual 64, 3) := by decide +kernel
theorem dX2_makeDirectory_22 : decode cX2_makeDirectory 22 = .ok (.aload_n 0, 1) := by decide +kernel
theorem dX2_makeDirectory_23 : decode cX2_makeDirectory 23 = .ok (.getfield 25, 3) := by decide +kernel
theorem dX2_makeDirectory_26 : decode cX2_makeDirectory 26 = .ok (.istore 5, 2) := by decide +kernel
theorem dX2_makeDirectory_28 : decode cX2_makeDirectory 28 = .ok (.iload 5, 2) := by decide +kernel
theorem dX2_makeDirectory_30 : decode cX2_makeDirectory 30 = .ok (.bipush 12, 2) := by decide +kernel
theorem dX2_makeDirectory_32 : decode cX2_makeDirectory 32 = .ok (.if_icmp .lt 13, 3) := by decide +kernel
theorem dX2_makeDirectory_35 : decode cX2_makeDirectory 35 = .ok (.new 68, 3) := by decide +kernel
theorem dX2_makeDirectory_38 : decode cX2_makeDirectory 38 = .ok (.dup, 1) := by decide +kernel
theorem dX2_makeDirectory_39 : decode cX2_makeDirectory 39 = .ok (.ldc 70, 2) := by decide +kernel
theorem dX2_makeDirectory_41 : decode cX2_makeDirectory 41 = .ok (.invokespecial 72, 3) := by decide +kernel
theorem dX2_makeDirectory_44 : decode cX2_makeDirectory 44 = .ok (.athrow, 1) := by decide +kernel
theorem dX2_makeDirectory_45 : decode cX2_makeDirectory 45 = .ok (.aload_n 0, 1) := by decide +kernel
theorem dX2_makeDirectory_46 : decode cX2_makeDirectory 46 = .ok (.getfield 11, 3) := by decide +kernel
theorem dX2_makeDirectory_49 : decode cX2_makeDirectory 49 = .ok (.iload 5, 2) := by decide +kernel
theorem dX2_makeDirectory_51 : decode cX2_makeDirectory 51 = .ok (.new 9, 3) := by decide +kernel
theorem dX2_makeDirectory_54 : decode cX2_makeDirectory 54 = .ok (.dup, 1) := by decide +kernel
theorem dX2_makeDirectory_55 : decode cX2_makeDirectory 55 = .ok (.iload 5, 2) := by decide +kernel
theorem dX2_makeDirectory_57 : decode cX2_makeDirectory 57 = .ok (.aload 4, 2) := by decide +kernel
theorem dX2_makeDirectory_59 : decode cX2_makeDirectory 59 = .ok (.iload_n 3, 1) := by decide +kernel
theorem dX2_makeDirectory_60 : decode cX2_makeDirectory 60 = .ok (.iconst (-1), 1) := by decide +kernel
theorem dX2_makeDirectory_61 : decode cX2_makeDirectory 61 = .ok (.invokespecial 22, 3) := by decide +kernel
theorem dX2_makeDirectory_64 : decode cX2_makeDirectory 64 = .ok (.aastore, 1) := by decide +kernel
theorem dX2_makeDirectory_65 : decode cX2_makeDirectory 65 = .ok (.aload_n 0, 1) := by decide +kernel
theorem dX2_makeDirectory_66 : decode cX2_makeDirectory 66 = .ok (.dup, 1) := by decide +kernel
theorem dX2_makeDirectory_67 : decode cX2_makeDirectory 67 = .ok (.getfield 25, 3) := by decide +kernel
theorem dX2_makeDirectory_70 : decode cX2_makeDirectory 70 = .ok (.iconst 1, 1) := by decide +kernel
theorem dX2_makeDirectory_71 : decode cX2_makeDirectory 71 = .ok (.iadd, 1) := by decide +kernel
theorem dX2_makeDirectory_72 : decode cX2_makeDirectory 72 = .ok (.putfield 25, 3) := by decide +kernel
theorem dX2_makeDirectory_75 : decode cX2_makeDirectory 75 = .ok (.aload_n 0, 1) := by decide +kernel
theorem dX2_makeDirectory_76 : decode cX2_makeDirectory 76 = .ok (.iload_n 1, 1) := by decide +kernel
theorem dX2_makeDirectory_77 : decode cX2_makeDirectory 77 = .ok (.aload 4, 2) := by decide +kernel
theorem dX2_makeDirectory_79 : decode cX2_makeDirectory 79 = .ok (.iload_n 3, 1) := by decide +kernel
theorem dX2_makeDirectory_80 : decode cX2_makeDirectory 80 = .ok (.bipush (-2), 2) := by decide +kernel
theorem dX2_makeDirectory_82 : decode cX2_makeDirectory 82 = .ok (.iload 5, 2) := by decide +kernel
theorem dX2_makeDirectory_84 : decode cX2_makeDirectory 84 = .ok (.isub, 1) := by decide +kernel
theorem dX2_makeDirectory_85 : decode cX2_makeDirectory 85 = .ok (.iconst 0, 1) := by decide +kernel
theorem dX2_makeDirectory_86 : decode cX2_makeDirectory 86 = .ok (.invokevirtual 75, 3) := by decide +kernel
theorem dX2_makeDirectory_89 : decode cX2_makeDirectory 89 = .ok (.iload 5, 2) := by decide +kernel
theorem dX2_makeDirectory_91 : decode cX2_makeDirectory 91 = .ok (.ireturn, 1) := by decide +kernel
theorem dX2_makeFile_0 : decode cX2_makeFile 0 = .ok (.iload_n 1, 1) := by decide +kernel
theorem dX2_makeFile_1 : decode cX2_makeFile 1 = .ok (.invokestatic 29, 3) := by decide +kernel
theorem dX2_makeFile_4 : decode cX2_makeFile 4 = .ok (.iload_n 3, 1) := by decide +kernel
theorem dX2_makeFile_5 : decode cX2_makeFile 5 = .ok (.invokestatic 33, 3) := by decide +kernel
theorem dX2_makeFile_8 : decode cX2_makeFile 8 = .ok (.aload_n 0, 1) := by decide +kernel
theorem dX2_makeFile_9 : decode cX2_makeFile 9 = .ok (.iload_n 2, 1) := by decide +kernel
theorem dX2_makeFile_10 : decode cX2_makeFile 10 = .ok (.invokevirtual 36, 3) := by decide +kernel
theorem dX2_makeFile_13 : decode cX2_makeFile 13 = .ok (.astore 4, 2) := by decide +kernel
theorem dX2_makeFile_15 : decode cX2_makeFile 15 = .ok (.aload_n 0, 1) := by decide +kernel
theorem dX2_makeFile_16 : decode cX2_makeFile 16 = .ok (.aload 4, 2) := by decide +kernel
theorem dX2_makeFile_18 : decode cX2_makeFile 18 = .ok (.iload_n 3, 1) := by decide +kernel
theorem dX2_makeFile_19 : decode cX2_makeFile 19 = .ok (.invokevirtual 64, 3) := by decide +kernel
theorem dX2_makeFile_22 : decode cX2_makeFile 22 = .ok (.aload_n 0, 1) := by decide +kernel
theorem dX2_makeFile_23 : decode cX2_makeFile 23 = .ok (.getfield 79, 3) := by decide +kernel
theorem dX2_makeFile_26 : decode cX2_makeFile 26 = .ok (.bipush 30, 2) := by decide +kernel
theorem dX2_makeFile_28 : decode cX2_makeFile 28 = .ok (.if_icmp .lt 13, 3) := by decide +kernel
theorem dX2_makeFile_31 : decode cX2_makeFile 31 = .ok (.new 68, 3) := by decide +kernel
theorem dX2_makeFile_34 : decode cX2_makeFile 34 = .ok (.dup, 1) := by decide +kernel
theorem dX2_makeFile_35 : decode cX2_makeFile 35 = .ok (.ldc 82, 2) := by decide +kernel
theorem dX2_makeFile_37 : decode cX2_makeFile 37 = .ok (.invokespecial 72, 3) := by decide +kernel
theorem dX2_makeFile_40 : decode cX2_makeFile 40 = .ok (.athrow, 1) := by decide +kernel
theorem dX2_makeFile_41 : decode cX2_makeFile 41 = .ok (.aload_n 0, 1) := by decide +kernel
theorem dX2_makeFile_42 : decode cX2_makeFile 42 = .ok (.getfield 79, 3) := by decide +kernel
theorem dX2_makeFile_45 : decode cX2_makeFile 45 = .ok (.istore 5, 2) := by decide +kernel
theorem dX2_makeFile_47 : decode cX2_makeFile 47 = .ok (.aload_n 0, 1) := by decide +kernel
theorem dX2_makeFile_48 : decode cX2_makeFile 48 = .ok (.dup, 1) := by decide +kernel
theorem dX2_makeFile_49 : decode cX2_makeFile 49 = .ok (.getfield 79, 3) := by decide +kernel
theorem dX2_makeFile_52 : decode cX2_makeFile 52 = .ok (.iconst 1, 1) := by decide +kernel
theorem dX2_makeFile_53 : decode cX2_makeFile 53 = .ok (.iadd, 1) := by decide +kernel
theorem dX2_makeFile_54 : decode cX2_makeFile 54 = .ok (.putfield 79, 3) := by decide +kernel
theorem dX2_makeFile_57 : decode cX2_makeFile 57 = .ok (.aload_n 0, 1) := by decide +kernel
theorem dX2_makeFile_58 : decode cX2_makeFile 58 = .ok (.iload_n 1, 1) := by decide +kernel
theorem dX2_makeFile_59 : decode cX2_makeFile 59 = .ok (.aload 4, 2) := by decide +kernel
theorem dX2_makeFile_61 : decode cX2_makeFile 61 = .ok (.iload_n 3, 1) := by decide +kernel
theorem dX2_makeFile_62 : decode cX2_makeFile 62 = .ok (.iload 5, 2) := by decide +kernel
theorem dX2_makeFile_64 : decode cX2_makeFile 64 = .ok (.invokevirtual 84, 3) := by decide +kernel
theorem dX2_makeFile_67 : decode cX2_makeFile 67 = .ok (.iload 5, 2) := by decide +kernel
theorem dX2_makeFile_69 : decode cX2_makeFile 69 = .ok (.ireturn, 1) := by decide +kernel
theorem dX2_link_0 : decode cX2_link 0 = .ok (.iload_n 1, 1) := by decide +kernel
theorem dX2_link_1 : decode cX2_link 1 = .ok (.invokestatic 29, 3) := by decide +kernel
theorem dX2_link_4 : decode cX2_link 4 = .ok (.iload_n 3, 1) := by decide +kernel
theorem dX2_link_5 : decode cX2_link 5 = .ok (.invokestatic 33, 3) := by decide +kernel
theorem dX2_link_8 : decode cX2_link 8 = .ok (.aload_n 0, 1) := by decide +kernel
theorem dX2_link_9 : decode cX2_link 9 = .ok (.iload_n 2, 1) := by decide +kernel
theorem dX2_link_10 : decode cX2_link 10 = .ok (.invokevirtual 36, 3) := by decide +kernel
theorem dX2_link_13 : decode cX2_link 13 = .ok (.astore 5, 2) := by decide +kernel
theorem dX2_link_15 : decode cX2_link 15 = .ok (.aload_n 0, 1) := by decide +kernel
theorem dX2_link_16 : decode cX2_link 16 = .ok (.iload 4, 2) := by decide +kernel
theorem dX2_link_18 : decode cX2_link 18 = .ok (.invokevirtual 87, 3) := by decide +kernel
theorem dX2_link_21 : decode cX2_link 21 = .ok (.aload_n 0, 1) := by decide +kernel
theorem dX2_link_22 : decode cX2_link 22 = .ok (.iload 4, 2) := by decide +kernel
theorem dX2_link_24 : decode cX2_link 24 = .ok (.invokevirtual 90, 3) := by decide +kernel
theorem dX2_link_27 : decode cX2_link 27 = .ok (.istore 6, 2) := by decide +kernel
theorem dX2_link_29 : decode cX2_link 29 = .ok (.iload 6, 2) := by decide +kernel
theorem dX2_link_31 : decode cX2_link 31 = .ok (.ifCond .ne 13, 3) := by decide +kernel
theorem dX2_link_34 : decode cX2_link 34 = .ok (.new 93, 3) := by decide +kernel
theorem dX2_link_37 : decode cX2_link 37 = .ok (.dup, 1) := by decide +kernel
theorem dX2_link_38 : decode cX2_link 38 = .ok (.ldc 95, 2) := by decide +kernel
theorem dX2_link_40 : decode cX2_link 40 = .ok (.invokespecial 97, 3) := by decide +kernel
theorem dX2_link_43 : decode cX2_link 43 = .ok (.athrow, 1) := by decide +kernel
theorem dX2_link_44 : decode cX2_link 44 = .ok (.aload_n 0, 1) := by decide +kernel
theorem dX2_link_45 : decode cX2_link 45 = .ok (.aload 5, 2) := by decide +kernel
theorem dX2_link_47 : decode cX2_link 47 = .ok (.iload_n 3, 1) := by decide +kernel
theorem dX2_link_48 : decode cX2_link 48 = .ok (.invokevirtual 64, 3) := by decide +kernel
theorem dX2_link_51 : decode cX2_link 51 = .ok (.aload_n 0, 1) := by decide +kernel
theorem dX2_link_52 : decode cX2_link 52 = .ok (.iload_n 1, 1) := by decide +kernel
theorem dX2_link_53 : decode cX2_link 53 = .ok (.aload 5, 2) := by decide +kernel
theorem dX2_link_55 : decode cX2_link 55 = .ok (.iload_n 3, 1) := by decide +kernel
theorem dX2_link_56 : decode cX2_link 56 = .ok (.iload 4, 2) := by decide +kernel
theorem dX2_link_58 : decode cX2_link 58 = .ok (.invokevirtual 84, 3) := by decide +kernel
theorem dX2_link_61 : decode cX2_link 61 = .ok (.iload 6, 2) := by decide +kernel
theorem dX2_link_63 : decode cX2_link 63 = .ok (.iconst 1, 1) := by decide +kernel
theorem dX2_link_64 : decode cX2_link 64 = .ok (.iadd, 1) := by decide +kernel
theorem dX2_link_65 : decode cX2_link 65 = .ok (.ireturn, 1) := by decide +kernel
theorem dX2_remove_0 : decode cX2_remove 0 = .ok (.iload_n 1, 1) := by decide +kernel
theorem dX2_remove_1 : decode cX2_remove 1 = .ok (.invokestatic 29, 3) := by decide +kernel
theorem dX2_remove_4 : decode cX2_remove 4 = .ok (.iload_n 3, 1) := by decide +kernel
theorem dX2_remove_5 : decode cX2_remove 5 = .ok (.invokestatic 33, 3) := by decide +kernel
theorem dX2_remove_8 : decode cX2_remove 8 = .ok (.aload_n 0, 1) := by decide +kernel
theorem dX2_remove_9 : decode cX2_remove 9 = .ok (.iload_n 2, 1) := by decide +kernel
theorem dX2_remove_10 : decode cX2_remove 10 = .ok (.invokevirtual 36, 3) := by decide +kernel
theorem dX2_remove_13 : decode cX2_remove 13 = .ok (.astore 4, 2) := by decide +kernel
theorem dX2_remove_15 : decode cX2_remove 15 = .ok (.aload_n 0, 1) := by decide +kernel
theorem dX2_remove_16 : decode cX2_remove 16 = .ok (.aload 4, 2) := by decide +kernel
theorem dX2_remove_18 : decode cX2_remove 18 = .ok (.iload_n 3, 1) := by decide +kernel
theorem dX2_remove_19 : decode cX2_remove 19 = .ok (.invokevirtual 98, 3) := by decide +kernel
theorem dX2_remove_22 : decode cX2_remove 22 = .ok (.aload 4, 2) := by decide +kernel
theorem dX2_remove_24 : decode cX2_remove 24 = .ok (.iload_n 3, 1) := by decide +kernel
theorem dX2_remove_25 : decode cX2_remove 25 = .ok (.invokevirtual 60, 3) := by decide +kernel
theorem dX2_remove_28 : decode cX2_remove 28 = .ok (.istore 5, 2) := by decide +kernel
theorem dX2_remove_30 : decode cX2_remove 30 = .ok (.aload_n 0, 1) := by decide +kernel
theorem dX2_remove_31 : decode cX2_remove 31 = .ok (.iload 5, 2) := by decide +kernel
theorem dX2_remove_33 : decode cX2_remove 33 = .ok (.invokevirtual 101, 3) := by decide +kernel
theorem dX2_remove_36 : decode cX2_remove 36 = .ok (.astore 6, 2) := by decide +kernel
theorem dX2_remove_38 : decode cX2_remove 38 = .ok (.aload 6, 2) := by decide +kernel
theorem dX2_remove_40 : decode cX2_remove 40 = .ok (.ifnull 18, 3) := by decide +kernel
theorem dX2_remove_43 : decode cX2_remove 43 = .ok (.aload_n 0, 1) := by decide +kernel
theorem dX2_remove_44 : decode cX2_remove 44 = .ok (.aload 6, 2) := by decide +kernel
theorem dX2_remove_46 : decode cX2_remove 46 = .ok (.invokevirtual 104, 3) := by decide +kernel
theorem dX2_remove_49 : decode cX2_remove 49 = .ok (.aload_n 0, 1) := by decide +kernel
theorem dX2_remove_50 : decode cX2_remove 50 = .ok (.aload 6, 2) := by decide +kernel
theorem dX2_remove_52 : decode cX2_remove 52 = .ok (.getfield 108, 3) := by decide +kernel
theorem dX2_remove_55 : decode cX2_remove 55 = .ok (.invokevirtual 111, 3) := by decide +kernel
theorem dX2_remove_58 : decode cX2_remove 58 = .ok (.aload_n 0, 1) := by decide +kernel
theorem dX2_remove_59 : decode cX2_remove 59 = .ok (.iload_n 1, 1) := by decide +kernel
theorem dX2_remove_60 : decode cX2_remove 60 = .ok (.aload 4, 2) := by decide +kernel
theorem dX2_remove_62 : decode cX2_remove 62 = .ok (.iload_n 3, 1) := by decide +kernel
theorem dX2_remove_63 : decode cX2_remove 63 = .ok (.iconst (-1), 1) := by decide +kernel
theorem dX2_remove_64 : decode cX2_remove 64 = .ok (.iconst 0, 1) := by decide +kernel
theorem dX2_remove_65 : decode cX2_remove 65 = .ok (.invokevirtual 75, 3) := by decide +kernel
theorem dX2_remove_68 : decode cX2_remove 68 = .ok (.iload 5, 2) := by decide +kernel
theorem dX2_remove_70 : decode cX2_remove 70 = .ok (.ireturn, 1) := by decide +kernel
theorem dX2_rename_0 : decode cX2_rename 0 = .ok (.iload_n 1, 1) := by decide +kernel
theorem dX2_rename_1 : decode cX2_rename 1 = .ok (.invokestatic 29, 3) := by decide +kernel
theorem dX2_rename_4 : decode cX2_rename 4 = .ok (.iload_n 3, 1) := by decide +kernel
theorem dX2_rename_5 : decode cX2_rename 5 = .ok (.invokestatic 33, 3) := by decide +kernel
theorem dX2_rename_8 : decode cX2_rename 8 = .ok (.iload 5, 2) := by decide +kernel
theorem dX2_rename_10 : decode cX2_rename 10 = .ok (.invokestatic 33, 3) := by decide +kernel
theorem dX2_rename_13 : decode cX2_rename 13 = .ok (.aload_n 0, 1) := by decide +kernel
theorem dX2_rename_14 : decode cX2_rename 14 = .ok (.iload_n 2, 1) := by decide +kernel
theorem dX2_rename_15 : decode cX2_rename 15 = .ok (.invokevirtual 36, 3) := by decide +kernel
theorem dX2_rename_18 : decode cX2_rename 18 = .ok (.astore 6, 2) := by decide +kernel
theorem dX2_rename_20 : decode cX2_rename 20 = .ok (.aload_n 0, 1) := by decide +kernel
theorem dX2_rename_21 : decode cX2_rename 21 = .ok (.iload 4, 2) := by decide +kernel
theorem dX2_rename_23 : decode cX2_rename 23 = .ok (.invokevirtual 36, 3) := by decide +kernel
theorem dX2_rename_26 : decode cX2_rename 26 = .ok (.astore 7, 2) := by decide +kernel
theorem dX2_rename_28 : decode cX2_rename 28 = .ok (.aload_n 0, 1) := by decide +kernel
theorem dX2_rename_29 : decode cX2_rename 29 = .ok (.aload 6, 2) := by decide +kernel
theorem dX2_rename_31 : decode cX2_rename 31 = .ok (.iload_n 3, 1) := by decide +kernel
theorem dX2_rename_32 : decode cX2_rename 32 = .ok (.invokevirtual 98, 3) := by decide +kernel
theorem dX2_rename_35 : decode cX2_rename 35 = .ok (.aload_n 0, 1) := by decide +kernel
theorem dX2_rename_36 : decode cX2_rename 36 = .ok (.aload 7, 2) := by decide +kernel
theorem dX2_rename_38 : decode cX2_rename 38 = .ok (.iload 5, 2) := by decide +kernel
theorem dX2_rename_40 : decode cX2_rename 40 = .ok (.invokevirtual 64, 3) := by decide +kernel
theorem dX2_rename_43 : decode cX2_rename 43 = .ok (.aload 6, 2) := by decide +kernel
theorem dX2_rename_45 : decode cX2_rename 45 = .ok (.iload_n 3, 1) := by decide +kernel
theorem dX2_rename_46 : decode cX2_rename 46 = .ok (.invokevirtual 60, 3) := by decide +kernel
theorem dX2_rename_49 : decode cX2_rename 49 = .ok (.istore 8, 2) := by decide +kernel
theorem dX2_rename_51 : decode cX2_rename 51 = .ok (.aload_n 0, 1) := by decide +kernel
theorem dX2_rename_52 : decode cX2_rename 52 = .ok (.iload 8, 2) := by decide +kernel
theorem dX2_rename_54 : decode cX2_rename 54 = .ok (.invokevirtual 101, 3) := by decide +kernel
theorem dX2_rename_57 : decode cX2_rename 57 = .ok (.astore 9, 2) := by decide +kernel
theorem dX2_rename_59 : decode cX2_rename 59 = .ok (.aload 9, 2) := by decide +kernel
theorem dX2_rename_61 : decode cX2_rename 61 = .ok (.ifnull 23, 3) := by decide +kernel
theorem dX2_rename_64 : decode cX2_rename 64 = .ok (.aload 7, 2) := by decide +kernel
theorem dX2_rename_66 : decode cX2_rename 66 = .ok (.aload 9, 2) := by decide +kernel
theorem dX2_rename_68 : decode cX2_rename 68 = .ok (.invokevirtual 114, 3) := by decide +kernel
theorem dX2_rename_71 : decode cX2_rename 71 = .ok (.ifCond .eq 13, 3) := by decide +kernel
theorem dX2_rename_74 : decode cX2_rename 74 = .ok (.new 68, 3) := by decide +kernel
theorem dX2_rename_77 : decode cX2_rename 77 = .ok (.dup, 1) := by decide +kernel
theorem dX2_rename_78 : decode cX2_rename 78 = .ok (.ldc 118, 2) := by decide +kernel
theorem dX2_rename_80 : decode cX2_rename 80 = .ok (.invokespecial 72, 3) := by decide +kernel
theorem dX2_rename_83 : decode cX2_rename 83 = .ok (.athrow, 1) := by decide +kernel
theorem dX2_rename_84 : decode cX2_rename 84 = .ok (.aload 6, 2) := by decide +kernel
theorem dX2_rename_86 : decode cX2_rename 86 = .ok (.iload_n 3, 1) := by decide +kernel
theorem dX2_rename_87 : decode cX2_rename 87 = .ok (.invokevirtual 120, 3) := by decide +kernel
theorem dX2_rename_90 : decode cX2_rename 90 = .ok (.istore 10, 2) := by decide +kernel
theorem dX2_rename_92 : decode cX2_rename 92 = .ok (.aload_n 0, 1) := by decide +kernel
theorem dX2_rename_93 : decode cX2_rename 93 = .ok (.iload_n 1, 1) := by decide +kernel
theorem dX2_rename_94 : decode cX2_rename 94 = .ok (.aload 6, 2) := by decide +kernel
theorem dX2_rename_96 : decode cX2_rename 96 = .ok (.iload_n 3, 1) := by decide +kernel
theorem dX2_rename_97 : decode cX2_rename 97 = .ok (.iconst (-1), 1) := by decide +kernel
theorem dX2_rename_98 : decode cX2_rename 98 = .ok (.iconst 0, 1) := by decide +kernel
theorem dX2_rename_99 : decode cX2_rename 99 = .ok (.invokevirtual 75, 3) := by decide +kernel
theorem dX2_rename_102 : decode cX2_rename 102 = .ok (.aload_n 0, 1) := by decide +kernel
theorem dX2_rename_103 : decode cX2_rename 103 = .ok (.iload_n 1, 1) := by decide +kernel
theorem dX2_rename_104 : decode cX2_rename 104 = .ok (.aload 7, 2) := by decide +kernel
theorem dX2_rename_106 : decode cX2_rename 106 = .ok (.iload 5, 2) := by decide +kernel
theorem dX2_rename_108 : decode cX2_rename 108 = .ok (.iload 8, 2) := by decide +kernel
theorem dX2_rename_110 : decode cX2_rename 110 = .ok (.iload 10, 2) := by decide +kernel
theorem dX2_rename_112 : decode cX2_rename 112 = .ok (.invokevirtual 75, 3) := by decide +kernel
theorem dX2_rename_115 : decode cX2_rename 115 = .ok (.aload 9, 2) := by decide +kernel
theorem dX2_rename_117 : decode cX2_rename 117 = .ok (.ifnull 17, 3) := by decide +kernel
theorem dX2_rename_120 : decode cX2_rename 120 = .ok (.aload 9, 2) := by decide +kernel
theorem dX2_rename_122 : decode cX2_rename 122 = .ok (.aload 7, 2) := by decide +kernel
theorem dX2_rename_124 : decode cX2_rename 124 = .ok (.putfield 123, 3) := by decide +kernel
theorem dX2_rename_127 : decode cX2_rename 127 = .ok (.aload 9, 2) := by decide +kernel
theorem dX2_rename_129 : decode cX2_rename 129 = .ok (.iload 5, 2) := by decide +kernel
theorem dX2_rename_131 : decode cX2_rename 131 = .ok (.putfield 127, 3) := by decide +kernel
theorem dX2_rename_134 : decode cX2_rename 134 = .ok (.return_, 1) := by decide +kernel
theorem dX2_pass_0 : decode cX2_pass 0 = .ok (.iload_n 1, 1) := by decide +kernel
theorem dX2_pass_1 : decode cX2_pass 1 = .ok (.iconst 1, 1) := by decide +kernel
theorem dX2_pass_2 : decode cX2_pass 2 = .ok (.if_icmp .lt 9, 3) := by decide +kernel
theorem dX2_pass_5 : decode cX2_pass 5 = .ok (.iload_n 1, 1) := by decide +kernel
theorem dX2_pass_6 : decode cX2_pass 6 = .ok (.bipush 100, 2) := by decide +kernel
theorem dX2_pass_8 : decode cX2_pass 8 = .ok (.if_icmp .le 13, 3) := by decide +kernel
theorem dX2_pass_11 : decode cX2_pass 11 = .ok (.new 130, 3) := by decide +kernel
theorem dX2_pass_14 : decode cX2_pass 14 = .ok (.dup, 1) := by decide +kernel
theorem dX2_pass_15 : decode cX2_pass 15 = .ok (.ldc 132, 2) := by decide +kernel
theorem dX2_pass_17 : decode cX2_pass 17 = .ok (.invokespecial 134, 3) := by decide +kernel
theorem dX2_pass_20 : decode cX2_pass 20 = .ok (.athrow, 1) := by decide +kernel
theorem dX2_pass_21 : decode cX2_pass 21 = .ok (.aload_n 0, 1) := by decide +kernel
theorem dX2_pass_22 : decode cX2_pass 22 = .ok (.dup, 1) := by decide +kernel
theorem dX2_pass_23 : decode cX2_pass 23 = .ok (.getfield 40, 3) := by decide +kernel
theorem dX2_pass_26 : decode cX2_pass 26 = .ok (.iload_n 1, 1) := by decide +kernel
theorem dX2_pass_27 : decode cX2_pass 27 = .ok (.iadd, 1) := by decide +kernel
theorem dX2_pass_28 : decode cX2_pass 28 = .ok (.putfield 40, 3) := by decide +kernel
theorem dX2_pass_31 : decode cX2_pass 31 = .ok (.aload_n 0, 1) := by decide +kernel
theorem dX2_pass_32 : decode cX2_pass 32 = .ok (.getfield 40, 3) := by decide +kernel
theorem dX2_pass_35 : decode cX2_pass 35 = .ok (.ireturn, 1) := by decide +kernel
theorem dX2_links_0 : decode cX2_links 0 = .ok (.aload_n 0, 1) := by decide +kernel
theorem dX2_links_1 : decode cX2_links 1 = .ok (.iload_n 1, 1) := by decide +kernel
theorem dX2_links_2 : decode cX2_links 2 = .ok (.invokevirtual 87, 3) := by decide +kernel
theorem dX2_links_5 : decode cX2_links 5 = .ok (.aload_n 0, 1) := by decide +kernel
theorem dX2_links_6 : decode cX2_links 6 = .ok (.iload_n 1, 1) := by decide +kernel
theorem dX2_links_7 : decode cX2_links 7 = .ok (.invokevirtual 90, 3) := by decide +kernel
theorem dX2_links_10 : decode cX2_links 10 = .ok (.ireturn, 1) := by decide +kernel
theorem dX2_anchor_0 : decode cX2_anchor 0 = .ok (.aload_n 0, 1) := by decide +kernel
theorem dX2_anchor_1 : decode cX2_anchor 1 = .ok (.iload_n 1, 1) := by decide +kernel
theorem dX2_anchor_2 : decode cX2_anchor 2 = .ok (.invokevirtual 87, 3) := by decide +kernel
theorem dX2_anchor_5 : decode cX2_anchor 5 = .ok (.iconst (-1), 1) := by decide +kernel
theorem dX2_anchor_6 : decode cX2_anchor 6 = .ok (.istore_n 2, 1) := by decide +kernel
theorem dX2_anchor_7 : decode cX2_anchor 7 = .ok (.iconst 0, 1) := by decide +kernel
theorem dX2_anchor_8 : decode cX2_anchor 8 = .ok (.istore_n 3, 1) := by decide +kernel
theorem dX2_anchor_9 : decode cX2_anchor 9 = .ok (.iconst 0, 1) := by decide +kernel
theorem dX2_anchor_10 : decode cX2_anchor 10 = .ok (.istore 4, 2) := by decide +kernel
theorem dX2_anchor_12 : decode cX2_anchor 12 = .ok (.iload 4, 2) := by decide +kernel
theorem dX2_anchor_14 : decode cX2_anchor 14 = .ok (.aload_n 0, 1) := by decide +kernel
theorem dX2_anchor_15 : decode cX2_anchor 15 = .ok (.getfield 11, 3) := by decide +kernel
theorem dX2_anchor_18 : decode cX2_anchor 18 = .ok (.arraylength, 1) := by decide +kernel
theorem dX2_anchor_19 : decode cX2_anchor 19 = .ok (.if_icmp .ge 71, 3) := by decide +kernel
theorem dX2_anchor_22 : decode cX2_anchor 22 = .ok (.aload_n 0, 1) := by decide +kernel
theorem dX2_anchor_23 : decode cX2_anchor 23 = .ok (.getfield 11, 3) := by decide +kernel
theorem dX2_anchor_26 : decode cX2_anchor 26 = .ok (.iload 4, 2) := by decide +kernel
theorem dX2_anchor_28 : decode cX2_anchor 28 = .ok (.aaload, 1) := by decide +kernel
theorem dX2_anchor_29 : decode cX2_anchor 29 = .ok (.astore 5, 2) := by decide +kernel
theorem dX2_anchor_31 : decode cX2_anchor 31 = .ok (.aload 5, 2) := by decide +kernel
theorem dX2_anchor_33 : decode cX2_anchor 33 = .ok (.ifnull 51, 3) := by decide +kernel
theorem dX2_anchor_36 : decode cX2_anchor 36 = .ok (.aload 5, 2) := by decide +kernel
theorem dX2_anchor_38 : decode cX2_anchor 38 = .ok (.iload_n 1, 1) := by decide +kernel
theorem dX2_anchor_39 : decode cX2_anchor 39 = .ok (.invokevirtual 222, 3) := by decide +kernel
theorem dX2_anchor_42 : decode cX2_anchor 42 = .ok (.istore 6, 2) := by decide +kernel
theorem dX2_anchor_44 : decode cX2_anchor 44 = .ok (.iload 6, 2) := by decide +kernel
theorem dX2_anchor_46 : decode cX2_anchor 46 = .ok (.bipush 50, 2) := by decide +kernel
theorem dX2_anchor_48 : decode cX2_anchor 48 = .ok (.if_icmp .ge 36, 3) := by decide +kernel
theorem dX2_anchor_51 : decode cX2_anchor 51 = .ok (.iload_n 2, 1) := by decide +kernel
theorem dX2_anchor_52 : decode cX2_anchor 52 = .ok (.iconst (-1), 1) := by decide +kernel
theorem dX2_anchor_53 : decode cX2_anchor 53 = .ok (.if_icmp .eq 14, 3) := by decide +kernel
theorem dX2_anchor_56 : decode cX2_anchor 56 = .ok (.aload 5, 2) := by decide +kernel
theorem dX2_anchor_58 : decode cX2_anchor 58 = .ok (.iload 6, 2) := by decide +kernel
theorem dX2_anchor_60 : decode cX2_anchor 60 = .ok (.invokevirtual 120, 3) := by decide +kernel
theorem dX2_anchor_63 : decode cX2_anchor 63 = .ok (.iload_n 3, 1) := by decide +kernel
theorem dX2_anchor_64 : decode cX2_anchor 64 = .ok (.if_icmp .ge 20, 3) := by decide +kernel
theorem dX2_anchor_67 : decode cX2_anchor 67 = .ok (.bipush 100, 2) := by decide +kernel
theorem dX2_anchor_69 : decode cX2_anchor 69 = .ok (.iload 4, 2) := by decide +kernel
theorem dX2_anchor_71 : decode cX2_anchor 71 = .ok (.imul, 1) := by decide +kernel
theorem dX2_anchor_72 : decode cX2_anchor 72 = .ok (.iload 6, 2) := by decide +kernel
theorem dX2_anchor_74 : decode cX2_anchor 74 = .ok (.iadd, 1) := by decide +kernel
theorem dX2_anchor_75 : decode cX2_anchor 75 = .ok (.istore_n 2, 1) := by decide +kernel
theorem dX2_anchor_76 : decode cX2_anchor 76 = .ok (.aload 5, 2) := by decide +kernel
theorem dX2_anchor_78 : decode cX2_anchor 78 = .ok (.iload 6, 2) := by decide +kernel
theorem dX2_anchor_80 : decode cX2_anchor 80 = .ok (.invokevirtual 120, 3) := by decide +kernel
theorem dX2_anchor_83 : decode cX2_anchor 83 = .ok (.istore_n 3, 1) := by decide +kernel
theorem dX2_anchor_84 : decode cX2_anchor 84 = .ok (.iinc 4 1, 3) := by decide +kernel
theorem dX2_anchor_87 : decode cX2_anchor 87 = .ok (.goto (-75), 3) := by decide +kernel
theorem dX2_anchor_90 : decode cX2_anchor 90 = .ok (.iload_n 2, 1) := by decide +kernel
theorem dX2_anchor_91 : decode cX2_anchor 91 = .ok (.ireturn, 1) := by decide +kernel
theorem dX2_byTree_0 : decode cX2_byTree 0 = .ok (.iload_n 2, 1) := by decide +kernel
theorem dX2_byTree_1 : decode cX2_byTree 1 = .ok (.invokestatic 33, 3) := by decide +kernel
theorem dX2_byTree_4 : decode cX2_byTree 4 = .ok (.aload_n 0, 1) := by decide +kernel
theorem dX2_byTree_5 : decode cX2_byTree 5 = .ok (.iload_n 1, 1) := by decide +kernel
theorem dX2_byTree_6 : decode cX2_byTree 6 = .ok (.invokevirtual 36, 3) := by decide +kernel
theorem dX2_byTree_9 : decode cX2_byTree 9 = .ok (.iload_n 2, 1) := by decide +kernel
theorem dX2_byTree_10 : decode cX2_byTree 10 = .ok (.invokevirtual 60, 3) := by decide +kernel
theorem dX2_byTree_13 : decode cX2_byTree 13 = .ok (.ireturn, 1) := by decide +kernel
theorem dX2_size_0 : decode cX2_size 0 = .ok (.aload_n 0, 1) := by decide +kernel
theorem dX2_size_1 : decode cX2_size 1 = .ok (.iload_n 1, 1) := by decide +kernel
theorem dX2_size_2 : decode cX2_size 2 = .ok (.invokevirtual 36, 3) := by decide +kernel
theorem dX2_size_5 : decode cX2_size 5 = .ok (.invokevirtual 225, 3) := by decide +kernel
theorem dX2_size_8 : decode cX2_size 8 = .ok (.ireturn, 1) := by decide +kernel
theorem dX2_needClient_0 : decode cX2_needClient 0 = .ok (.iload_n 0, 1) := by decide +kernel
theorem dX2_needClient_1 : decode cX2_needClient 1 = .ok (.ifCond .lt 8, 3) := by decide +kernel
theorem dX2_needClient_4 : decode cX2_needClient 4 = .ok (.iload_n 0, 1) := by decide +kernel
theorem dX2_needClient_5 : decode cX2_needClient 5 = .ok (.iconst 4, 1) := by decide +kernel
theorem dX2_needClient_6 : decode cX2_needClient 6 = .ok (.if_icmp .lt 13, 3) := by decide +kernel
theorem dX2_needClient_9 : decode cX2_needClient 9 = .ok (.new 130, 3) := by decide +kernel
theorem dX2_needClient_12 : decode cX2_needClient 12 = .ok (.dup, 1) := by decide +kernel
theorem dX2_needClient_13 : decode cX2_needClient 13 = .ok (.ldc 228, 2) := by decide +kernel
theorem dX2_needClient_15 : decode cX2_needClient 15 = .ok (.invokespecial 134, 3) := by decide +kernel
theorem dX2_needClient_18 : decode cX2_needClient 18 = .ok (.athrow, 1) := by decide +kernel
theorem dX2_needClient_19 : decode cX2_needClient 19 = .ok (.return_, 1) := by decide +kernel
theorem dX2_needName_0 : decode cX2_needName 0 = .ok (.iload_n 0, 1) := by decide +kernel
theorem dX2_needName_1 : decode cX2_needName 1 = .ok (.ifCond .lt 9, 3) := by decide +kernel
theorem dX2_needName_4 : decode cX2_needName 4 = .ok (.iload_n 0, 1) := by decide +kernel
theorem dX2_needName_5 : decode cX2_needName 5 = .ok (.bipush 50, 2) := by decide +kernel
theorem dX2_needName_7 : decode cX2_needName 7 = .ok (.if_icmp .lt 13, 3) := by decide +kernel
theorem dX2_needName_10 : decode cX2_needName 10 = .ok (.new 130, 3) := by decide +kernel
theorem dX2_needName_13 : decode cX2_needName 13 = .ok (.dup, 1) := by decide +kernel
theorem dX2_needName_14 : decode cX2_needName 14 = .ok (.ldc 232, 2) := by decide +kernel
theorem dX2_needName_16 : decode cX2_needName 16 = .ok (.invokespecial 134, 3) := by decide +kernel
theorem dX2_needName_19 : decode cX2_needName 19 = .ok (.athrow, 1) := by decide +kernel
theorem dX2_needName_20 : decode cX2_needName 20 = .ok (.return_, 1) := by decide +kernel
theorem dX2_needDirectory_0 : decode cX2_needDirectory 0 = .ok (.aload_n 0, 1) := by decide +kernel
theorem dX2_needDirectory_1 : decode cX2_needDirectory 1 = .ok (.iload_n 1, 1) := by decide +kernel
theorem dX2_needDirectory_2 : decode cX2_needDirectory 2 = .ok (.invokevirtual 236, 3) := by decide +kernel
theorem dX2_needDirectory_5 : decode cX2_needDirectory 5 = .ok (.astore_n 2, 1) := by decide +kernel
theorem dX2_needDirectory_6 : decode cX2_needDirectory 6 = .ok (.aload_n 2, 1) := by decide +kernel
theorem dX2_needDirectory_7 : decode cX2_needDirectory 7 = .ok (.ifnonnull 13, 3) := by decide +kernel
theorem dX2_needDirectory_10 : decode cX2_needDirectory 10 = .ok (.new 93, 3) := by decide +kernel
theorem dX2_needDirectory_13 : decode cX2_needDirectory 13 = .ok (.dup, 1) := by decide +kernel
theorem dX2_needDirectory_14 : decode cX2_needDirectory 14 = .ok (.ldc 239, 2) := by decide +kernel
theorem dX2_needDirectory_16 : decode cX2_needDirectory 16 = .ok (.invokespecial 97, 3) := by decide +kernel
theorem dX2_needDirectory_19 : decode cX2_needDirectory 19 = .ok (.athrow, 1) := by decide +kernel
theorem dX2_needDirectory_20 : decode cX2_needDirectory 20 = .ok (.aload_n 2, 1) := by decide +kernel
theorem dX2_needDirectory_21 : decode cX2_needDirectory 21 = .ok (.areturn, 1) := by decide +kernel
theorem dX2_needFile_0 : decode cX2_needFile 0 = .ok (.iload_n 1, 1) := by decide +kernel
theorem dX2_needFile_1 : decode cX2_needFile 1 = .ok (.ifCond .lt 11, 3) := by decide +kernel
theorem dX2_needFile_4 : decode cX2_needFile 4 = .ok (.iload_n 1, 1) := by decide +kernel
theorem dX2_needFile_5 : decode cX2_needFile 5 = .ok (.aload_n 0, 1) := by decide +kernel
theorem dX2_needFile_6 : decode cX2_needFile 6 = .ok (.getfield 79, 3) := by decide +kernel
theorem dX2_needFile_9 : decode cX2_needFile 9 = .ok (.if_icmp .lt 13, 3) := by decide +kernel
theorem dX2_needFile_12 : decode cX2_needFile 12 = .ok (.new 93, 3) := by decide +kernel
theorem dX2_needFile_15 : decode cX2_needFile 15 = .ok (.dup, 1) := by decide +kernel
theorem dX2_needFile_16 : decode cX2_needFile 16 = .ok (.ldc 241, 2) := by decide +kernel
theorem dX2_needFile_18 : decode cX2_needFile 18 = .ok (.invokespecial 97, 3) := by decide +kernel
theorem dX2_needFile_21 : decode cX2_needFile 21 = .ok (.athrow, 1) := by decide +kernel
theorem dX2_needFile_22 : decode cX2_needFile 22 = .ok (.return_, 1) := by decide +kernel
theorem dX2_needFree_0 : decode cX2_needFree 0 = .ok (.aload_n 1, 1) := by decide +kernel
theorem dX2_needFree_1 : decode cX2_needFree 1 = .ok (.iload_n 2, 1) := by decide +kernel
theorem dX2_needFree_2 : decode cX2_needFree 2 = .ok (.invokevirtual 60, 3) := by decide +kernel
theorem dX2_needFree_5 : decode cX2_needFree 5 = .ok (.iconst (-1), 1) := by decide +kernel
theorem dX2_needFree_6 : decode cX2_needFree 6 = .ok (.if_icmp .ne 15, 3) := by decide +kernel
theorem dX2_needFree_9 : decode cX2_needFree 9 = .ok (.aload_n 0, 1) := by decide +kernel
theorem dX2_needFree_10 : decode cX2_needFree 10 = .ok (.aload_n 1, 1) := by decide +kernel
theorem dX2_needFree_11 : decode cX2_needFree 11 = .ok (.iload_n 2, 1) := by decide +kernel
theorem dX2_needFree_12 : decode cX2_needFree 12 = .ok (.invokevirtual 47, 3) := by decide +kernel
theorem dX2_needFree_15 : decode cX2_needFree 15 = .ok (.invokevirtual 148, 3) := by decide +kernel
theorem dX2_needFree_18 : decode cX2_needFree 18 = .ok (.ifCond .eq 13, 3) := by decide +kernel
theorem dX2_needFree_21 : decode cX2_needFree 21 = .ok (.new 68, 3) := by decide +kernel
theorem dX2_needFree_24 : decode cX2_needFree 24 = .ok (.dup, 1) := by decide +kernel
theorem dX2_needFree_25 : decode cX2_needFree 25 = .ok (.ldc 243, 2) := by decide +kernel
theorem dX2_needFree_27 : decode cX2_needFree 27 = .ok (.invokespecial 72, 3) := by decide +kernel
theorem dX2_needFree_30 : decode cX2_needFree 30 = .ok (.athrow, 1) := by decide +kernel
theorem dX2_needFree_31 : decode cX2_needFree 31 = .ok (.return_, 1) := by decide +kernel
theorem dX2_needTaken_0 : decode cX2_needTaken 0 = .ok (.aload_n 1, 1) := by decide +kernel
theorem dX2_needTaken_1 : decode cX2_needTaken 1 = .ok (.iload_n 2, 1) := by decide +kernel
theorem dX2_needTaken_2 : decode cX2_needTaken 2 = .ok (.invokevirtual 60, 3) := by decide +kernel
theorem dX2_needTaken_5 : decode cX2_needTaken 5 = .ok (.iconst (-1), 1) := by decide +kernel
theorem dX2_needTaken_6 : decode cX2_needTaken 6 = .ok (.if_icmp .eq 15, 3) := by decide +kernel
theorem dX2_needTaken_9 : decode cX2_needTaken 9 = .ok (.aload_n 0, 1) := by decide +kernel
theorem dX2_needTaken_10 : decode cX2_needTaken 10 = .ok (.aload_n 1, 1) := by decide +kernel
theorem dX2_needTaken_11 : decode cX2_needTaken 11 = .ok (.iload_n 2, 1) := by decide +kernel
theorem dX2_needTaken_12 : decode cX2_needTaken 12 = .ok (.invokevirtual 47, 3) := by decide +kernel
theorem dX2_needTaken_15 : decode cX2_needTaken 15 = .ok (.invokevirtual 148, 3) := by decide +kernel
theorem dX2_needTaken_18 : decode cX2_needTaken 18 = .ok (.ifCond .eq 13, 3) := by decide +kernel
theorem dX2_needTaken_21 : decode cX2_needTaken 21 = .ok (.new 68, 3) := by decide +kernel
theorem dX2_needTaken_24 : decode cX2_needTaken 24 = .ok (.dup, 1) := by decide +kernel
theorem dX2_needTaken_25 : decode cX2_needTaken 25 = .ok (.ldc 245, 2) := by decide +kernel
theorem dX2_needTaken_27 : decode cX2_needTaken 27 = .ok (.invokespecial 72, 3) := by decide +kernel
theorem dX2_needTaken_30 : decode cX2_needTaken 30 = .ok (.athrow, 1) := by decide +kernel
theorem dX2_needTaken_31 : decode cX2_needTaken 31 = .ok (.return_, 1) := by decide +kernel
theorem dX2_needRemovable_0 : decode cX2_needRemovable 0 = .ok (.aload_n 1, 1) := by decide +kernel
theorem dX2_needRemovable_1 : decode cX2_needRemovable 1 = .ok (.invokevirtual 225, 3) := by decide +kernel
theorem dX2_needRemovable_4 : decode cX2_needRemovable 4 = .ok (.ifCond .le 13, 3) := by decide +kernel
theorem dX2_needRemovable_7 : decode cX2_needRemovable 7 = .ok (.new 68, 3) := by decide +kernel
theorem dX2_needRemovable_10 : decode cX2_needRemovable 10 = .ok (.dup, 1) := by decide +kernel
theorem dX2_needRemovable_11 : decode cX2_needRemovable 11 = .ok (.ldc 247, 2) := by decide +kernel
theorem dX2_needRemovable_13 : decode cX2_needRemovable 13 = .ok (.invokespecial 72, 3) := by decide +kernel
theorem dX2_needRemovable_16 : decode cX2_needRemovable 16 = .ok (.athrow, 1) := by decide +kernel
theorem dX2_needRemovable_17 : decode cX2_needRemovable 17 = .ok (.aload_n 0, 1) := by decide +kernel
theorem dX2_needRemovable_18 : decode cX2_needRemovable 18 = .ok (.getfield 197, 3) := by decide +kernel
theorem dX2_needRemovable_21 : decode cX2_needRemovable 21 = .ok (.ifnull 27, 3) := by decide +kernel
theorem dX2_needRemovable_24 : decode cX2_needRemovable 24 = .ok (.aload_n 0, 1) := by decide +kernel
theorem dX2_needRemovable_25 : decode cX2_needRemovable 25 = .ok (.getfield 197, 3) := by decide +kernel
theorem dX2_needRemovable_28 : decode cX2_needRemovable 28 = .ok (.getfield 219, 3) := by decide +kernel
theorem dX2_needRemovable_31 : decode cX2_needRemovable 31 = .ok (.aload_n 1, 1) := by decide +kernel
theorem dX2_needRemovable_32 : decode cX2_needRemovable 32 = .ok (.getfield 108, 3) := by decide +kernel
theorem dX2_needRemovable_35 : decode cX2_needRemovable 35 = .ok (.if_icmp .ne 13, 3) := by decide +kernel
theorem dX2_needRemovable_38 : decode cX2_needRemovable 38 = .ok (.new 68, 3) := by decide +kernel
theorem dX2_needRemovable_41 : decode cX2_needRemovable 41 = .ok (.dup, 1) := by decide +kernel
theorem dX2_needRemovable_42 : decode cX2_needRemovable 42 = .ok (.ldc 249, 2) := by decide +kernel
theorem dX2_needRemovable_44 : decode cX2_needRemovable 44 = .ok (.invokespecial 72, 3) := by decide +kernel
theorem dX2_needRemovable_47 : decode cX2_needRemovable 47 = .ok (.athrow, 1) := by decide +kernel
theorem dX2_needRemovable_48 : decode cX2_needRemovable 48 = .ok (.return_, 1) := by decide +kernel
theorem dX2_directoryNumbered_0 : decode cX2_directoryNumbered 0 = .ok (.iload_n 1, 1) := by decide +kernel
theorem dX2_directoryNumbered_1 : decode cX2_directoryNumbered 1 = .ok (.ifCond .lt 12, 3) := by decide +kernel
theorem dX2_directoryNumbered_4 : decode cX2_directoryNumbered 4 = .ok (.iload_n 1, 1) := by decide +kernel
theorem dX2_directoryNumbered_5 : decode cX2_directoryNumbered 5 = .ok (.aload_n 0, 1) := by decide +kernel
theorem dX2_directoryNumbered_6 : decode cX2_directoryNumbered 6 = .ok (.getfield 11, 3) := by decide +kernel
theorem dX2_directoryNumbered_9 : decode cX2_directoryNumbered 9 = .ok (.arraylength, 1) := by decide +kernel
theorem dX2_directoryNumbered_10 : decode cX2_directoryNumbered 10 = .ok (.if_icmp .lt 5, 3) := by decide +kernel
theorem dX2_directoryNumbered_13 : decode cX2_directoryNumbered 13 = .ok (.aconst_null, 1) := by decide +kernel
theorem dX2_directoryNumbered_14 : decode cX2_directoryNumbered 14 = .ok (.areturn, 1) := by decide +kernel
theorem dX2_directoryNumbered_15 : decode cX2_directoryNumbered 15 = .ok (.aload_n 0, 1) := by decide +kernel
theorem dX2_directoryNumbered_16 : decode cX2_directoryNumbered 16 = .ok (.getfield 11, 3) := by decide +kernel
theorem dX2_directoryNumbered_19 : decode cX2_directoryNumbered 19 = .ok (.iload_n 1, 1) := by decide +kernel
theorem dX2_directoryNumbered_20 : decode cX2_directoryNumbered 20 = .ok (.aaload, 1) := by decide +kernel
theorem dX2_directoryNumbered_21 : decode cX2_directoryNumbered 21 = .ok (.areturn, 1) := by decide +kernel
theorem dX2_directoryMeant_0 : decode cX2_directoryMeant 0 = .ok (.iload_n 1, 1) := by decide +kernel
theorem dX2_directoryMeant_1 : decode cX2_directoryMeant 1 = .ok (.bipush (-2), 2) := by decide +kernel
theorem dX2_directoryMeant_3 : decode cX2_directoryMeant 3 = .ok (.if_icmp .gt 14, 3) := by decide +kernel
theorem dX2_directoryMeant_6 : decode cX2_directoryMeant 6 = .ok (.aload_n 0, 1) := by decide +kernel
theorem dX2_directoryMeant_7 : decode cX2_directoryMeant 7 = .ok (.bipush (-2), 2) := by decide +kernel
theorem dX2_directoryMeant_9 : decode cX2_directoryMeant 9 = .ok (.iload_n 1, 1) := by decide +kernel
theorem dX2_directoryMeant_10 : decode cX2_directoryMeant 10 = .ok (.isub, 1) := by decide +kernel
theorem dX2_directoryMeant_11 : decode cX2_directoryMeant 11 = .ok (.invokevirtual 236, 3) := by decide +kernel
theorem dX2_directoryMeant_14 : decode cX2_directoryMeant 14 = .ok (.goto 4, 3) := by decide +kernel
theorem dX2_directoryMeant_17 : decode cX2_directoryMeant 17 = .ok (.aconst_null, 1) := by decide +kernel
theorem dX2_directoryMeant_18 : decode cX2_directoryMeant 18 = .ok (.areturn, 1) := by decide +kernel
theorem dX2_dropDirectory_0 : decode cX2_dropDirectory 0 = .ok (.iload_n 1, 1) := by decide +kernel
theorem dX2_dropDirectory_1 : decode cX2_dropDirectory 1 = .ok (.ifCond .lt 19, 3) := by decide +kernel
theorem dX2_dropDirectory_4 : decode cX2_dropDirectory 4 = .ok (.iload_n 1, 1) := by decide +kernel
theorem dX2_dropDirectory_5 : decode cX2_dropDirectory 5 = .ok (.aload_n 0, 1) := by decide +kernel
theorem dX2_dropDirectory_6 : decode cX2_dropDirectory 6 = .ok (.getfield 11, 3) := by decide +kernel
theorem dX2_dropDirectory_9 : decode cX2_dropDirectory 9 = .ok (.arraylength, 1) := by decide +kernel
theorem dX2_dropDirectory_10 : decode cX2_dropDirectory 10 = .ok (.if_icmp .ge 10, 3) := by decide +kernel
theorem dX2_dropDirectory_13 : decode cX2_dropDirectory 13 = .ok (.aload_n 0, 1) := by decide +kernel
theorem dX2_dropDirectory_14 : decode cX2_dropDirectory 14 = .ok (.getfield 11, 3) := by decide +kernel
theorem dX2_dropDirectory_17 : decode cX2_dropDirectory 17 = .ok (.iload_n 1, 1) := by decide +kernel
theorem dX2_dropDirectory_18 : decode cX2_dropDirectory 18 = .ok (.aconst_null, 1) := by decide +kernel
theorem dX2_dropDirectory_19 : decode cX2_dropDirectory 19 = .ok (.aastore, 1) := by decide +kernel
theorem dX2_dropDirectory_20 : decode cX2_dropDirectory 20 = .ok (.return_, 1) := by decide +kernel
theorem dX2_makeLink_0 : decode cX2_makeLink 0 = .ok (.aload_n 0, 1) := by decide +kernel
theorem dX2_makeLink_1 : decode cX2_makeLink 1 = .ok (.dup, 1) := by decide +kernel
theorem dX2_makeLink_2 : decode cX2_makeLink 2 = .ok (.getfield 253, 3) := by decide +kernel
theorem dX2_makeLink_5 : decode cX2_makeLink 5 = .ok (.iconst 1, 1) := by decide +kernel
theorem dX2_makeLink_6 : decode cX2_makeLink 6 = .ok (.iadd, 1) := by decide +kernel
theorem dX2_makeLink_7 : decode cX2_makeLink 7 = .ok (.putfield 253, 3) := by decide +kernel
theorem dX2_makeLink_10 : decode cX2_makeLink 10 = .ok (.aload_n 0, 1) := by decide +kernel
theorem dX2_makeLink_11 : decode cX2_makeLink 11 = .ok (.iload_n 1, 1) := by decide +kernel
theorem dX2_makeLink_12 : decode cX2_makeLink 12 = .ok (.aload_n 2, 1) := by decide +kernel
theorem dX2_makeLink_13 : decode cX2_makeLink 13 = .ok (.iload_n 3, 1) := by decide +kernel
theorem dX2_makeLink_14 : decode cX2_makeLink 14 = .ok (.iload 4, 2) := by decide +kernel
theorem dX2_makeLink_16 : decode cX2_makeLink 16 = .ok (.aload_n 0, 1) := by decide +kernel
theorem dX2_makeLink_17 : decode cX2_makeLink 17 = .ok (.getfield 253, 3) := by decide +kernel
theorem dX2_makeLink_20 : decode cX2_makeLink 20 = .ok (.invokevirtual 75, 3) := by decide +kernel
theorem dX2_makeLink_23 : decode cX2_makeLink 23 = .ok (.return_, 1) := by decide +kernel
theorem dX2_changeName_0 : decode cX2_changeName 0 = .ok (.aload_n 2, 1) := by decide +kernel
theorem dX2_changeName_1 : decode cX2_changeName 1 = .ok (.iload_n 3, 1) := by decide +kernel
theorem dX2_changeName_2 : decode cX2_changeName 2 = .ok (.iload 4, 2) := by decide +kernel
theorem dX2_changeName_4 : decode cX2_changeName 4 = .ok (.iload 5, 2) := by decide +kernel
theorem dX2_changeName_6 : decode cX2_changeName 6 = .ok (.invokevirtual 256, 3) := by decide +kernel
theorem dX2_changeName_9 : decode cX2_changeName 9 = .ok (.aload_n 2, 1) := by decide +kernel
theorem dX2_changeName_10 : decode cX2_changeName 10 = .ok (.iload_n 3, 1) := by decide +kernel
theorem dX2_changeName_11 : decode cX2_changeName 11 = .ok (.invokevirtual 47, 3) := by decide +kernel
theorem dX2_changeName_14 : decode cX2_changeName 14 = .ok (.dup, 1) := by decide +kernel
theorem dX2_changeName_15 : decode cX2_changeName 15 = .ok (.getfield 51, 3) := by decide +kernel
theorem dX2_changeName_18 : decode cX2_changeName 18 = .ok (.iconst 1, 1) := by decide +kernel
theorem dX2_changeName_19 : decode cX2_changeName 19 = .ok (.iadd, 1) := by decide +kernel
theorem dX2_changeName_20 : decode cX2_changeName 20 = .ok (.putfield 51, 3) := by decide +kernel
theorem dX2_changeName_23 : decode cX2_changeName 23 = .ok (.aload_n 0, 1) := by decide +kernel
theorem dX2_changeName_24 : decode cX2_changeName 24 = .ok (.aload_n 2, 1) := by decide +kernel
theorem dX2_changeName_25 : decode cX2_changeName 25 = .ok (.iload_n 3, 1) := by decide +kernel
theorem dX2_changeName_26 : decode cX2_changeName 26 = .ok (.iload_n 1, 1) := by decide +kernel
theorem dX2_changeName_27 : decode cX2_changeName 27 = .ok (.invokevirtual 259, 3) := by decide +kernel
theorem dX2_changeName_30 : decode cX2_changeName 30 = .ok (.return_, 1) := by decide +kernel
theorem dX2_endLeases_0 : decode cX2_endLeases 0 = .ok (.iconst 0, 1) := by decide +kernel
theorem dX2_endLeases_1 : decode cX2_endLeases 1 = .ok (.istore 4, 2) := by decide +kernel
theorem dX2_endLeases_3 : decode cX2_endLeases 3 = .ok (.iload 4, 2) := by decide +kernel
theorem dX2_endLeases_5 : decode cX2_endLeases 5 = .ok (.iconst 4, 1) := by decide +kernel
theorem dX2_endLeases_6 : decode cX2_endLeases 6 = .ok (.if_icmp .ge 51, 3) := by decide +kernel
theorem dX2_endLeases_9 : decode cX2_endLeases 9 = .ok (.aload_n 1, 1) := by decide +kernel
theorem dX2_endLeases_10 : decode cX2_endLeases 10 = .ok (.iload 4, 2) := by decide +kernel
theorem dX2_endLeases_12 : decode cX2_endLeases 12 = .ok (.iload_n 2, 1) := by decide +kernel
theorem dX2_endLeases_13 : decode cX2_endLeases 13 = .ok (.aload_n 0, 1) := by decide +kernel
theorem dX2_endLeases_14 : decode cX2_endLeases 14 = .ok (.getfield 40, 3) := by decide +kernel
theorem dX2_endLeases_17 : decode cX2_endLeases 17 = .ok (.invokevirtual 43, 3) := by decide +kernel
theorem dX2_endLeases_20 : decode cX2_endLeases 20 = .ok (.ifCond .eq 31, 3) := by decide +kernel
theorem dX2_endLeases_23 : decode cX2_endLeases 23 = .ok (.aload_n 1, 1) := by decide +kernel
theorem dX2_endLeases_24 : decode cX2_endLeases 24 = .ok (.iload 4, 2) := by decide +kernel
theorem dX2_endLeases_26 : decode cX2_endLeases 26 = .ok (.iload_n 2, 1) := by decide +kernel
theorem dX2_endLeases_27 : decode cX2_endLeases 27 = .ok (.aload_n 0, 1) := by decide +kernel
theorem dX2_endLeases_28 : decode cX2_endLeases 28 = .ok (.getfield 40, 3) := by decide +kernel
theorem dX2_endLeases_31 : decode cX2_endLeases 31 = .ok (.invokevirtual 56, 3) := by decide +kernel
theorem dX2_endLeases_34 : decode cX2_endLeases 34 = .ok (.iload 4, 2) := by decide +kernel
theorem dX2_endLeases_36 : decode cX2_endLeases 36 = .ok (.iload_n 3, 1) := by decide +kernel
theorem dX2_endLeases_37 : decode cX2_endLeases 37 = .ok (.if_icmp .eq 14, 3) := by decide +kernel
theorem dX2_endLeases_40 : decode cX2_endLeases 40 = .ok (.aload_n 0, 1) := by decide +kernel
theorem dX2_endLeases_41 : decode cX2_endLeases 41 = .ok (.getfield 15, 3) := by decide +kernel
theorem dX2_endLeases_44 : decode cX2_endLeases 44 = .ok (.iload 4, 2) := by decide +kernel
theorem dX2_endLeases_46 : decode cX2_endLeases 46 = .ok (.dup2, 1) := by decide +kernel
theorem dX2_endLeases_47 : decode cX2_endLeases 47 = .ok (.iaload, 1) := by decide +kernel
theorem dX2_endLeases_48 : decode cX2_endLeases 48 = .ok (.iconst 1, 1) := by decide +kernel
theorem dX2_endLeases_49 : decode cX2_endLeases 49 = .ok (.iadd, 1) := by decide +kernel
theorem dX2_endLeases_50 : decode cX2_endLeases 50 = .ok (.iastore, 1) := by decide +kernel
theorem dX2_endLeases_51 : decode cX2_endLeases 51 = .ok (.iinc 4 1, 3) := by decide +kernel
theorem dX2_endLeases_54 : decode cX2_endLeases 54 = .ok (.goto (-51), 3) := by decide +kernel
theorem dX2_endLeases_57 : decode cX2_endLeases 57 = .ok (.return_, 1) := by decide +kernel
theorem dX2_countLinks_0 : decode cX2_countLinks 0 = .ok (.iconst 0, 1) := by decide +kernel
theorem dX2_countLinks_1 : decode cX2_countLinks 1 = .ok (.istore_n 2, 1) := by decide +kernel
theorem dX2_countLinks_2 : decode cX2_countLinks 2 = .ok (.iconst 0, 1) := by decide +kernel
theorem dX2_countLinks_3 : decode cX2_countLinks 3 = .ok (.istore_n 3, 1) := by decide +kernel
theorem dX2_countLinks_4 : decode cX2_countLinks 4 = .ok (.iload_n 3, 1) := by decide +kernel
theorem dX2_countLinks_5 : decode cX2_countLinks 5 = .ok (.aload_n 0, 1) := by decide +kernel
theorem dX2_countLinks_6 : decode cX2_countLinks 6 = .ok (.getfield 11, 3) := by decide +kernel
theorem dX2_countLinks_9 : decode cX2_countLinks 9 = .ok (.arraylength, 1) := by decide +kernel
theorem dX2_countLinks_10 : decode cX2_countLinks 10 = .ok (.if_icmp .ge 31, 3) := by decide +kernel
theorem dX2_countLinks_13 : decode cX2_countLinks 13 = .ok (.aload_n 0, 1) := by decide +kernel
theorem dX2_countLinks_14 : decode cX2_countLinks 14 = .ok (.getfield 11, 3) := by decide +kernel
theorem dX2_countLinks_17 : decode cX2_countLinks 17 = .ok (.iload_n 3, 1) := by decide +kernel
theorem dX2_countLinks_18 : decode cX2_countLinks 18 = .ok (.aaload, 1) := by decide +kernel
theorem dX2_countLinks_19 : decode cX2_countLinks 19 = .ok (.astore 4, 2) := by decide +kernel
theorem dX2_countLinks_21 : decode cX2_countLinks 21 = .ok (.aload 4, 2) := by decide +kernel
theorem dX2_countLinks_23 : decode cX2_countLinks 23 = .ok (.ifnull 12, 3) := by decide +kernel
theorem dX2_countLinks_26 : decode cX2_countLinks 26 = .ok (.iload_n 2, 1) := by decide +kernel
theorem dX2_countLinks_27 : decode cX2_countLinks 27 = .ok (.aload 4, 2) := by decide +kernel
theorem dX2_countLinks_29 : decode cX2_countLinks 29 = .ok (.iload_n 1, 1) := by decide +kernel
theorem dX2_countLinks_30 : decode cX2_countLinks 30 = .ok (.invokevirtual 266, 3) := by decide +kernel
theorem dX2_countLinks_33 : decode cX2_countLinks 33 = .ok (.iadd, 1) := by decide +kernel
theorem dX2_countLinks_34 : decode cX2_countLinks 34 = .ok (.istore_n 2, 1) := by decide +kernel
theorem dX2_countLinks_35 : decode cX2_countLinks 35 = .ok (.iinc 3 1, 3) := by decide +kernel
theorem dX2_countLinks_38 : decode cX2_countLinks 38 = .ok (.goto (-34), 3) := by decide +kernel
theorem dX2_countLinks_41 : decode cX2_countLinks 41 = .ok (.iload_n 2, 1) := by decide +kernel
theorem dX2_countLinks_42 : decode cX2_countLinks 42 = .ok (.ireturn, 1) := by decide +kernel
theorem dX2_fragmentAbove_0 : decode cX2_fragmentAbove 0 = .ok (.aload_n 0, 1) := by decide +kernel
theorem dX2_fragmentAbove_1 : decode cX2_fragmentAbove 1 = .ok (.aload_n 1, 1) := by decide +kernel
theorem dX2_fragmentAbove_2 : decode cX2_fragmentAbove 2 = .ok (.getfield 219, 3) := by decide +kernel
theorem dX2_fragmentAbove_5 : decode cX2_fragmentAbove 5 = .ok (.invokevirtual 236, 3) := by decide +kernel
theorem dX2_fragmentAbove_8 : decode cX2_fragmentAbove 8 = .ok (.astore_n 2, 1) := by decide +kernel
theorem dX2_fragmentAbove_9 : decode cX2_fragmentAbove 9 = .ok (.aload_n 2, 1) := by decide +kernel
theorem dX2_fragmentAbove_10 : decode cX2_fragmentAbove 10 = .ok (.ifnull 10, 3) := by decide +kernel
theorem dX2_fragmentAbove_13 : decode cX2_fragmentAbove 13 = .ok (.aload_n 2, 1) := by decide +kernel
theorem dX2_fragmentAbove_14 : decode cX2_fragmentAbove 14 = .ok (.getfield 123, 3) := by decide +kernel
theorem dX2_fragmentAbove_17 : decode cX2_fragmentAbove 17 = .ok (.ifnonnull 5, 3) := by decide +kernel
theorem dX2_fragmentAbove_20 : decode cX2_fragmentAbove 20 = .ok (.aconst_null, 1) := by decide +kernel
theorem dX2_fragmentAbove_21 : decode cX2_fragmentAbove 21 = .ok (.areturn, 1) := by decide +kernel
theorem dX2_fragmentAbove_22 : decode cX2_fragmentAbove 22 = .ok (.aload_n 2, 1) := by decide +kernel
theorem dX2_fragmentAbove_23 : decode cX2_fragmentAbove 23 = .ok (.getfield 123, 3) := by decide +kernel
theorem dX2_fragmentAbove_26 : decode cX2_fragmentAbove 26 = .ok (.aload_n 2, 1) := by decide +kernel
theorem dX2_fragmentAbove_27 : decode cX2_fragmentAbove 27 = .ok (.getfield 127, 3) := by decide +kernel
theorem dX2_fragmentAbove_30 : decode cX2_fragmentAbove 30 = .ok (.invokevirtual 47, 3) := by decide +kernel
theorem dX2_fragmentAbove_33 : decode cX2_fragmentAbove 33 = .ok (.areturn, 1) := by decide +kernel
theorem dX2_frozen_0 : decode cX2_frozen 0 = .ok (.aload_n 1, 1) := by decide +kernel
theorem dX2_frozen_1 : decode cX2_frozen 1 = .ok (.astore_n 2, 1) := by decide +kernel
theorem dX2_frozen_2 : decode cX2_frozen 2 = .ok (.iconst 0, 1) := by decide +kernel
theorem dX2_frozen_3 : decode cX2_frozen 3 = .ok (.istore_n 3, 1) := by decide +kernel
theorem dX2_frozen_4 : decode cX2_frozen 4 = .ok (.aload_n 2, 1) := by decide +kernel
theorem dX2_frozen_5 : decode cX2_frozen 5 = .ok (.ifnull 41, 3) := by decide +kernel
theorem dX2_frozen_8 : decode cX2_frozen 8 = .ok (.iload_n 3, 1) := by decide +kernel
theorem dX2_frozen_9 : decode cX2_frozen 9 = .ok (.bipush 12, 2) := by decide +kernel
theorem dX2_frozen_11 : decode cX2_frozen 11 = .ok (.if_icmp .ge 35, 3) := by decide +kernel
theorem dX2_frozen_14 : decode cX2_frozen 14 = .ok (.aload_n 2, 1) := by decide +kernel
theorem dX2_frozen_15 : decode cX2_frozen 15 = .ok (.aload_n 0, 1) := by decide +kernel
theorem dX2_frozen_16 : decode cX2_frozen 16 = .ok (.getfield 197, 3) := by decide +kernel
theorem dX2_frozen_19 : decode cX2_frozen 19 = .ok (.if_acmp .ne 5, 3) := by decide +kernel
theorem dX2_frozen_22 : decode cX2_frozen 22 = .ok (.iconst 1, 1) := by decide +kernel
theorem dX2_frozen_23 : decode cX2_frozen 23 = .ok (.ireturn, 1) := by decide +kernel
theorem dX2_frozen_24 : decode cX2_frozen 24 = .ok (.aload_n 2, 1) := by decide +kernel
theorem dX2_frozen_25 : decode cX2_frozen 25 = .ok (.getfield 167, 3) := by decide +kernel
theorem dX2_frozen_28 : decode cX2_frozen 28 = .ok (.iconst (-1), 1) := by decide +kernel
theorem dX2_frozen_29 : decode cX2_frozen 29 = .ok (.if_icmp .eq 5, 3) := by decide +kernel
theorem dX2_frozen_32 : decode cX2_frozen 32 = .ok (.iconst 0, 1) := by decide +kernel
theorem dX2_frozen_33 : decode cX2_frozen 33 = .ok (.ireturn, 1) := by decide +kernel
theorem dX2_frozen_34 : decode cX2_frozen 34 = .ok (.aload_n 0, 1) := by decide +kernel
theorem dX2_frozen_35 : decode cX2_frozen 35 = .ok (.aload_n 2, 1) := by decide +kernel
theorem dX2_frozen_36 : decode cX2_frozen 36 = .ok (.invokevirtual 269, 3) := by decide +kernel
theorem dX2_frozen_39 : decode cX2_frozen 39 = .ok (.astore_n 2, 1) := by decide +kernel
theorem dX2_frozen_40 : decode cX2_frozen 40 = .ok (.iinc 3 1, 3) := by decide +kernel
theorem dX2_frozen_43 : decode cX2_frozen 43 = .ok (.goto (-39), 3) := by decide +kernel
theorem dX2_frozen_46 : decode cX2_frozen 46 = .ok (.iconst 0, 1) := by decide +kernel
theorem dX2_frozen_47 : decode cX2_frozen 47 = .ok (.ireturn, 1) := by decide +kernel
theorem dL_cell_0 : decode cL_cell 0 = .ok (.iload_n 1, 1) := by decide +kernel
theorem dL_cell_1 : decode cL_cell 1 = .ok (.aload_n 0, 1) := by decide +kernel
theorem dL_cell_2 : decode cL_cell 2 = .ok (.arraylength, 1) := by decide +kernel
theorem dL_cell_3 : decode cL_cell 3 = .ok (.if_icmp .ge 9, 3) := by decide +kernel
theorem dL_cell_6 : decode cL_cell 6 = .ok (.aload_n 0, 1) := by decide +kernel
theorem dL_cell_7 : decode cL_cell 7 = .ok (.iload_n 1, 1) := by decide +kernel
theorem dL_cell_8 : decode cL_cell 8 = .ok (.iaload, 1) := by decide +kernel
theorem dL_cell_9 : decode cL_cell 9 = .ok (.goto 15, 3) := by decide +kernel
theorem dL_cell_12 : decode cL_cell 12 = .ok (.sipush 7919, 3) := by decide +kernel
theorem dL_cell_15 : decode cL_cell 15 = .ok (.iload_n 1, 1) := by decide +kernel
theorem dL_cell_16 : decode cL_cell 16 = .ok (.iconst 3, 1) := by decide +kernel
theorem dL_cell_17 : decode cL_cell 17 = .ok (.iadd, 1) := by decide +kernel
theorem dL_cell_18 : decode cL_cell 18 = .ok (.imul, 1) := by decide +kernel
theorem dL_cell_19 : decode cL_cell 19 = .ok (.iload_n 1, 1) := by decide +kernel
theorem dL_cell_20 : decode cL_cell 20 = .ok (.bipush 11, 2) := by decide +kernel
theorem dL_cell_22 : decode cL_cell 22 = .ok (.iadd, 1) := by decide +kernel
theorem dL_cell_23 : decode cL_cell 23 = .ok (.imul, 1) := by decide +kernel
theorem dL_cell_24 : decode cL_cell 24 = .ok (.ireturn, 1) := by decide +kernel
theorem dL_low_0 : decode cL_low 0 = .ok (.iload_n 0, 1) := by decide +kernel
theorem dL_low_1 : decode cL_low 1 = .ok (.ldc 7, 2) := by decide +kernel
theorem dL_low_3 : decode cL_low 3 = .ok (.iand, 1) := by decide +kernel
theorem dL_low_4 : decode cL_low 4 = .ok (.iload_n 1, 1) := by decide +kernel
theorem dL_low_5 : decode cL_low 5 = .ok (.irem, 1) := by decide +kernel
theorem dL_low_6 : decode cL_low 6 = .ok (.ireturn, 1) := by decide +kernel
theorem dL_isThere_0 : decode cL_isThere 0 = .ok (.iload_n 1, 1) := by decide +kernel
theorem dL_isThere_1 : decode cL_isThere 1 = .ok (.ifCond .ne 7, 3) := by decide +kernel
theorem dL_isThere_4 : decode cL_isThere 4 = .ok (.iconst 1, 1) := by decide +kernel
theorem dL_isThere_5 : decode cL_isThere 5 = .ok (.goto 4, 3) := by decide +kernel
theorem dL_isThere_8 : decode cL_isThere 8 = .ok (.iconst 0, 1) := by decide +kernel
theorem dL_isThere_9 : decode cL_isThere 9 = .ok (.istore_n 2, 1) := by decide +kernel
theorem dL_isThere_10 : decode cL_isThere 10 = .ok (.iconst 0, 1) := by decide +kernel
theorem dL_isThere_11 : decode cL_isThere 11 = .ok (.istore_n 3, 1) := by decide +kernel
theorem dL_isThere_12 : decode cL_isThere 12 = .ok (.iload_n 3, 1) := by decide +kernel
theorem dL_isThere_13 : decode cL_isThere 13 = .ok (.bipush 60, 2) := by decide +kernel
theorem dL_isThere_15 : decode cL_isThere 15 = .ok (.if_icmp .ge 29, 3) := by decide +kernel
theorem dL_isThere_18 : decode cL_isThere 18 = .ok (.iload_n 2, 1) := by decide +kernel
theorem dL_isThere_19 : decode cL_isThere 19 = .ok (.ifCond .ne 13, 3) := by decide +kernel
theorem dL_isThere_22 : decode cL_isThere 22 = .ok (.aload_n 0, 1) := by decide +kernel
theorem dL_isThere_23 : decode cL_isThere 23 = .ok (.iload_n 3, 1) := by decide +kernel
theorem dL_isThere_24 : decode cL_isThere 24 = .ok (.iaload, 1) := by decide +kernel
theorem dL_isThere_25 : decode cL_isThere 25 = .ok (.bipush (-2), 2) := by decide +kernel
theorem dL_isThere_27 : decode cL_isThere 27 = .ok (.iload_n 1, 1) := by decide +kernel
theorem dL_isThere_28 : decode cL_isThere 28 = .ok (.isub, 1) := by decide +kernel
theorem dL_isThere_29 : decode cL_isThere 29 = .ok (.if_icmp .ne 7, 3) := by decide +kernel
theorem dL_isThere_32 : decode cL_isThere 32 = .ok (.iconst 1, 1) := by decide +kernel
theorem dL_isThere_33 : decode cL_isThere 33 = .ok (.goto 4, 3) := by decide +kernel
theorem dL_isThere_36 : decode cL_isThere 36 = .ok (.iconst 0, 1) := by decide +kernel
theorem dL_isThere_37 : decode cL_isThere 37 = .ok (.istore_n 2, 1) := by decide +kernel
theorem dL_isThere_38 : decode cL_isThere 38 = .ok (.iinc 3 1, 3) := by decide +kernel
theorem dL_isThere_41 : decode cL_isThere 41 = .ok (.goto (-29), 3) := by decide +kernel
theorem dL_isThere_44 : decode cL_isThere 44 = .ok (.iload_n 2, 1) := by decide +kernel
theorem dL_isThere_45 : decode cL_isThere 45 = .ok (.ireturn, 1) := by decide +kernel
theorem dL_isBelow_0 : decode cL_isBelow 0 = .ok (.iload_n 1, 1) := by decide +kernel
theorem dL_isBelow_1 : decode cL_isBelow 1 = .ok (.istore_n 3, 1) := by decide +kernel
theorem dL_isBelow_2 : decode cL_isBelow 2 = .ok (.iload_n 3, 1) := by decide +kernel
theorem dL_isBelow_3 : decode cL_isBelow 3 = .ok (.ifCond .eq 55, 3) := by decide +kernel
theorem dL_isBelow_6 : decode cL_isBelow 6 = .ok (.iload_n 3, 1) := by decide +kernel
theorem dL_isBelow_7 : decode cL_isBelow 7 = .ok (.iload_n 2, 1) := by decide +kernel
theorem dL_isBelow_8 : decode cL_isBelow 8 = .ok (.if_icmp .eq 50, 3) := by decide +kernel
theorem dL_isBelow_11 : decode cL_isBelow 11 = .ok (.iconst 0, 1) := by decide +kernel
theorem dL_isBelow_12 : decode cL_isBelow 12 = .ok (.istore 4, 2) := by decide +kernel
theorem dL_isBelow_14 : decode cL_isBelow 14 = .ok (.iconst 0, 1) := by decide +kernel
theorem dL_isBelow_15 : decode cL_isBelow 15 = .ok (.istore 5, 2) := by decide +kernel
theorem dL_isBelow_17 : decode cL_isBelow 17 = .ok (.iload 5, 2) := by decide +kernel
theorem dL_isBelow_19 : decode cL_isBelow 19 = .ok (.bipush 60, 2) := by decide +kernel
theorem dL_isBelow_21 : decode cL_isBelow 21 = .ok (.if_icmp .ge 31, 3) := by decide +kernel
theorem dL_isBelow_24 : decode cL_isBelow 24 = .ok (.aload_n 0, 1) := by decide +kernel
theorem dL_isBelow_25 : decode cL_isBelow 25 = .ok (.iload 5, 2) := by decide +kernel
theorem dL_isBelow_27 : decode cL_isBelow 27 = .ok (.iaload, 1) := by decide +kernel
theorem dL_isBelow_28 : decode cL_isBelow 28 = .ok (.bipush (-2), 2) := by decide +kernel
theorem dL_isBelow_30 : decode cL_isBelow 30 = .ok (.iload_n 3, 1) := by decide +kernel
theorem dL_isBelow_31 : decode cL_isBelow 31 = .ok (.isub, 1) := by decide +kernel
theorem dL_isBelow_32 : decode cL_isBelow 32 = .ok (.if_icmp .ne 10, 3) := by decide +kernel
theorem dL_isBelow_35 : decode cL_isBelow 35 = .ok (.iload 5, 2) := by decide +kernel
theorem dL_isBelow_37 : decode cL_isBelow 37 = .ok (.iconst 5, 1) := by decide +kernel
theorem dL_isBelow_38 : decode cL_isBelow 38 = .ok (.idiv, 1) := by decide +kernel
theorem dL_isBelow_39 : decode cL_isBelow 39 = .ok (.goto 5, 3) := by decide +kernel
theorem dL_isBelow_42 : decode cL_isBelow 42 = .ok (.iload 4, 2) := by decide +kernel
theorem dL_isBelow_44 : decode cL_isBelow 44 = .ok (.istore 4, 2) := by decide +kernel
theorem dL_isBelow_46 : decode cL_isBelow 46 = .ok (.iinc 5 1, 3) := by decide +kernel
theorem dL_isBelow_49 : decode cL_isBelow 49 = .ok (.goto (-32), 3) := by decide +kernel
theorem dL_isBelow_52 : decode cL_isBelow 52 = .ok (.iload 4, 2) := by decide +kernel
theorem dL_isBelow_54 : decode cL_isBelow 54 = .ok (.istore_n 3, 1) := by decide +kernel
theorem dL_isBelow_55 : decode cL_isBelow 55 = .ok (.goto (-53), 3) := by decide +kernel
theorem dL_isBelow_58 : decode cL_isBelow 58 = .ok (.iload_n 3, 1) := by decide +kernel
theorem dL_isBelow_59 : decode cL_isBelow 59 = .ok (.iload_n 2, 1) := by decide +kernel
theorem dL_isBelow_60 : decode cL_isBelow 60 = .ok (.if_icmp .ne 7, 3) := by decide +kernel
theorem dL_isBelow_63 : decode cL_isBelow 63 = .ok (.iconst 1, 1) := by decide +kernel
theorem dL_isBelow_64 : decode cL_isBelow 64 = .ok (.goto 4, 3) := by decide +kernel
theorem dL_isBelow_67 : decode cL_isBelow 67 = .ok (.iconst 0, 1) := by decide +kernel
theorem dL_isBelow_68 : decode cL_isBelow 68 = .ok (.ireturn, 1) := by decide +kernel
theorem dL_used_0 : decode cL_used 0 = .ok (.iconst 0, 1) := by decide +kernel
theorem dL_used_1 : decode cL_used 1 = .ok (.istore_n 2, 1) := by decide +kernel
theorem dL_used_2 : decode cL_used 2 = .ok (.iconst 0, 1) := by decide +kernel
theorem dL_used_3 : decode cL_used 3 = .ok (.istore_n 3, 1) := by decide +kernel
theorem dL_used_4 : decode cL_used 4 = .ok (.iload_n 3, 1) := by decide +kernel
theorem dL_used_5 : decode cL_used 5 = .ok (.iconst 5, 1) := by decide +kernel
theorem dL_used_6 : decode cL_used 6 = .ok (.if_icmp .ge 28, 3) := by decide +kernel
theorem dL_used_9 : decode cL_used 9 = .ok (.iload_n 2, 1) := by decide +kernel
theorem dL_used_10 : decode cL_used 10 = .ok (.aload_n 0, 1) := by decide +kernel
theorem dL_used_11 : decode cL_used 11 = .ok (.iconst 5, 1) := by decide +kernel
theorem dL_used_12 : decode cL_used 12 = .ok (.iload_n 1, 1) := by decide +kernel
theorem dL_used_13 : decode cL_used 13 = .ok (.imul, 1) := by decide +kernel
theorem dL_used_14 : decode cL_used 14 = .ok (.iload_n 3, 1) := by decide +kernel
theorem dL_used_15 : decode cL_used 15 = .ok (.iadd, 1) := by decide +kernel
theorem dL_used_16 : decode cL_used 16 = .ok (.iaload, 1) := by decide +kernel
theorem dL_used_17 : decode cL_used 17 = .ok (.iconst (-1), 1) := by decide +kernel
theorem dL_used_18 : decode cL_used 18 = .ok (.if_icmp .ne 7, 3) := by decide +kernel
theorem dL_used_21 : decode cL_used 21 = .ok (.iconst 0, 1) := by decide +kernel
theorem dL_used_22 : decode cL_used 22 = .ok (.goto 4, 3) := by decide +kernel
theorem dL_used_25 : decode cL_used 25 = .ok (.iconst 1, 1) := by decide +kernel
theorem dL_used_26 : decode cL_used 26 = .ok (.iadd, 1) := by decide +kernel
theorem dL_used_27 : decode cL_used 27 = .ok (.istore_n 2, 1) := by decide +kernel
theorem dL_used_28 : decode cL_used 28 = .ok (.iinc 3 1, 3) := by decide +kernel
theorem dL_used_31 : decode cL_used 31 = .ok (.goto (-27), 3) := by decide +kernel
theorem dL_used_34 : decode cL_used 34 = .ok (.iload_n 2, 1) := by decide +kernel
theorem dL_used_35 : decode cL_used 35 = .ok (.ireturn, 1) := by decide +kernel
theorem dL_count_0 : decode cL_count 0 = .ok (.iconst 0, 1) := by decide +kernel
theorem dL_count_1 : decode cL_count 1 = .ok (.istore_n 2, 1) := by decide +kernel
theorem dL_count_2 : decode cL_count 2 = .ok (.iconst 0, 1) := by decide +kernel
theorem dL_count_3 : decode cL_count 3 = .ok (.istore_n 3, 1) := by decide +kernel
theorem dL_count_4 : decode cL_count 4 = .ok (.iload_n 3, 1) := by decide +kernel
theorem dL_count_5 : decode cL_count 5 = .ok (.bipush 60, 2) := by decide +kernel
theorem dL_count_7 : decode cL_count 7 = .ok (.if_icmp .ge 24, 3) := by decide +kernel
theorem dL_count_10 : decode cL_count 10 = .ok (.iload_n 2, 1) := by decide +kernel
theorem dL_count_11 : decode cL_count 11 = .ok (.aload_n 0, 1) := by decide +kernel
theorem dL_count_12 : decode cL_count 12 = .ok (.iload_n 3, 1) := by decide +kernel
theorem dL_count_13 : decode cL_count 13 = .ok (.iaload, 1) := by decide +kernel
theorem dL_count_14 : decode cL_count 14 = .ok (.iload_n 1, 1) := by decide +kernel
theorem dL_count_15 : decode cL_count 15 = .ok (.if_icmp .ne 7, 3) := by decide +kernel
theorem dL_count_18 : decode cL_count 18 = .ok (.iconst 1, 1) := by decide +kernel
theorem dL_count_19 : decode cL_count 19 = .ok (.goto 4, 3) := by decide +kernel
theorem dL_count_22 : decode cL_count 22 = .ok (.iconst 0, 1) := by decide +kernel
theorem dL_count_23 : decode cL_count 23 = .ok (.iadd, 1) := by decide +kernel
theorem dL_count_24 : decode cL_count 24 = .ok (.istore_n 2, 1) := by decide +kernel
theorem dL_count_25 : decode cL_count 25 = .ok (.iinc 3 1, 3) := by decide +kernel
theorem dL_count_28 : decode cL_count 28 = .ok (.goto (-24), 3) := by decide +kernel
theorem dL_count_31 : decode cL_count 31 = .ok (.iload_n 2, 1) := by decide +kernel
theorem dL_count_32 : decode cL_count 32 = .ok (.ireturn, 1) := by decide +kernel
theorem dL_isAsBeside_0 : decode cL_isAsBeside 0 = .ok (.aload_n 0, 1) := by decide +kernel
theorem dL_isAsBeside_1 : decode cL_isAsBeside 1 = .ok (.iload 4, 2) := by decide +kernel
theorem dL_isAsBeside_3 : decode cL_isAsBeside 3 = .ok (.invokevirtual 8, 3) := by decide +kernel
theorem dL_isAsBeside_6 : decode cL_isAsBeside 6 = .ok (.aload_n 1, 1) := by decide +kernel
theorem dL_isAsBeside_7 : decode cL_isAsBeside 7 = .ok (.iload 4, 2) := by decide +kernel
theorem dL_isAsBeside_9 : decode cL_isAsBeside 9 = .ok (.invokestatic 14, 3) := by decide +kernel
theorem dL_isAsBeside_12 : decode cL_isAsBeside 12 = .ok (.if_icmp .ne 7, 3) := by decide +kernel
theorem dL_isAsBeside_15 : decode cL_isAsBeside 15 = .ok (.iconst 1, 1) := by decide +kernel
theorem dL_isAsBeside_16 : decode cL_isAsBeside 16 = .ok (.goto 4, 3) := by decide +kernel
theorem dL_isAsBeside_19 : decode cL_isAsBeside 19 = .ok (.iconst 0, 1) := by decide +kernel
theorem dL_isAsBeside_20 : decode cL_isAsBeside 20 = .ok (.istore 6, 2) := by decide +kernel
theorem dL_isAsBeside_22 : decode cL_isAsBeside 22 = .ok (.iconst 0, 1) := by decide +kernel
theorem dL_isAsBeside_23 : decode cL_isAsBeside 23 = .ok (.istore 7, 2) := by decide +kernel
theorem dL_isAsBeside_25 : decode cL_isAsBeside 25 = .ok (.iload 7, 2) := by decide +kernel
theorem dL_isAsBeside_27 : decode cL_isAsBeside 27 = .ok (.iconst 5, 1) := by decide +kernel
theorem dL_isAsBeside_28 : decode cL_isAsBeside 28 = .ok (.if_icmp .ge 60, 3) := by decide +kernel
theorem dL_isAsBeside_31 : decode cL_isAsBeside 31 = .ok (.iload 6, 2) := by decide +kernel
theorem dL_isAsBeside_33 : decode cL_isAsBeside 33 = .ok (.ifCond .eq 55, 3) := by decide +kernel
theorem dL_isAsBeside_36 : decode cL_isAsBeside 36 = .ok (.aload_n 1, 1) := by decide +kernel
theorem dL_isAsBeside_37 : decode cL_isAsBeside 37 = .ok (.iconst 5, 1) := by decide +kernel
theorem dL_isAsBeside_38 : decode cL_isAsBeside 38 = .ok (.iload 4, 2) := by decide +kernel
theorem dL_isAsBeside_40 : decode cL_isAsBeside 40 = .ok (.imul, 1) := by decide +kernel
theorem dL_isAsBeside_41 : decode cL_isAsBeside 41 = .ok (.iload 7, 2) := by decide +kernel
theorem dL_isAsBeside_43 : decode cL_isAsBeside 43 = .ok (.iadd, 1) := by decide +kernel
theorem dL_isAsBeside_44 : decode cL_isAsBeside 44 = .ok (.iaload, 1) := by decide +kernel
theorem dL_isAsBeside_45 : decode cL_isAsBeside 45 = .ok (.istore 8, 2) := by decide +kernel
theorem dL_isAsBeside_47 : decode cL_isAsBeside 47 = .ok (.aload_n 0, 1) := by decide +kernel
theorem dL_isAsBeside_48 : decode cL_isAsBeside 48 = .ok (.iload 4, 2) := by decide +kernel
theorem dL_isAsBeside_50 : decode cL_isAsBeside 50 = .ok (.iload 7, 2) := by decide +kernel
theorem dL_isAsBeside_52 : decode cL_isAsBeside 52 = .ok (.invokevirtual 20, 3) := by decide +kernel
theorem dL_isAsBeside_55 : decode cL_isAsBeside 55 = .ok (.iload 8, 2) := by decide +kernel
theorem dL_isAsBeside_57 : decode cL_isAsBeside 57 = .ok (.if_icmp .ne 22, 3) := by decide +kernel
theorem dL_isAsBeside_60 : decode cL_isAsBeside 60 = .ok (.aload_n 0, 1) := by decide +kernel
theorem dL_isAsBeside_61 : decode cL_isAsBeside 61 = .ok (.iload 5, 2) := by decide +kernel
theorem dL_isAsBeside_63 : decode cL_isAsBeside 63 = .ok (.iload 4, 2) := by decide +kernel
theorem dL_isAsBeside_65 : decode cL_isAsBeside 65 = .ok (.iload 7, 2) := by decide +kernel
theorem dL_isAsBeside_67 : decode cL_isAsBeside 67 = .ok (.invokevirtual 24, 3) := by decide +kernel
theorem dL_isAsBeside_70 : decode cL_isAsBeside 70 = .ok (.iload 8, 2) := by decide +kernel
theorem dL_isAsBeside_72 : decode cL_isAsBeside 72 = .ok (.if_icmp .ne 7, 3) := by decide +kernel
theorem dL_isAsBeside_75 : decode cL_isAsBeside 75 = .ok (.iconst 1, 1) := by decide +kernel
theorem dL_isAsBeside_76 : decode cL_isAsBeside 76 = .ok (.goto 4, 3) := by decide +kernel
theorem dL_isAsBeside_79 : decode cL_isAsBeside 79 = .ok (.iconst 0, 1) := by decide +kernel
theorem dL_isAsBeside_80 : decode cL_isAsBeside 80 = .ok (.istore 6, 2) := by decide +kernel
theorem dL_isAsBeside_82 : decode cL_isAsBeside 82 = .ok (.iinc 7 1, 3) := by decide +kernel
theorem dL_isAsBeside_85 : decode cL_isAsBeside 85 = .ok (.goto (-60), 3) := by decide +kernel
theorem dL_isAsBeside_88 : decode cL_isAsBeside 88 = .ok (.iconst 0, 1) := by decide +kernel
theorem dL_isAsBeside_89 : decode cL_isAsBeside 89 = .ok (.istore 7, 2) := by decide +kernel
theorem dL_isAsBeside_91 : decode cL_isAsBeside 91 = .ok (.iload 7, 2) := by decide +kernel
theorem dL_isAsBeside_93 : decode cL_isAsBeside 93 = .ok (.aload_n 3, 1) := by decide +kernel
theorem dL_isAsBeside_94 : decode cL_isAsBeside 94 = .ok (.iconst 1, 1) := by decide +kernel
theorem dL_isAsBeside_95 : decode cL_isAsBeside 95 = .ok (.iaload, 1) := by decide +kernel
theorem dL_isAsBeside_96 : decode cL_isAsBeside 96 = .ok (.if_icmp .ge 119, 3) := by decide +kernel
theorem dL_isAsBeside_99 : decode cL_isAsBeside 99 = .ok (.iload 6, 2) := by decide +kernel
theorem dL_isAsBeside_101 : decode cL_isAsBeside 101 = .ok (.ifCond .eq 114, 3) := by decide +kernel
theorem dL_isAsBeside_104 : decode cL_isAsBeside 104 = .ok (.iconst (-1), 1) := by decide +kernel
theorem dL_isAsBeside_105 : decode cL_isAsBeside 105 = .ok (.istore 8, 2) := by decide +kernel
theorem dL_isAsBeside_107 : decode cL_isAsBeside 107 = .ok (.iconst 0, 1) := by decide +kernel
theorem dL_isAsBeside_108 : decode cL_isAsBeside 108 = .ok (.istore 9, 2) := by decide +kernel
theorem dL_isAsBeside_110 : decode cL_isAsBeside 110 = .ok (.iload 9, 2) := by decide +kernel
theorem dL_isAsBeside_112 : decode cL_isAsBeside 112 = .ok (.bipush 60, 2) := by decide +kernel
theorem dL_isAsBeside_114 : decode cL_isAsBeside 114 = .ok (.if_icmp .ge 43, 3) := by decide +kernel
theorem dL_isAsBeside_117 : decode cL_isAsBeside 117 = .ok (.aload_n 1, 1) := by decide +kernel
theorem dL_isAsBeside_118 : decode cL_isAsBeside 118 = .ok (.iload 9, 2) := by decide +kernel
theorem dL_isAsBeside_120 : decode cL_isAsBeside 120 = .ok (.iaload, 1) := by decide +kernel
theorem dL_isAsBeside_121 : decode cL_isAsBeside 121 = .ok (.iload 7, 2) := by decide +kernel
theorem dL_isAsBeside_123 : decode cL_isAsBeside 123 = .ok (.if_icmp .ne 24, 3) := by decide +kernel
theorem dL_isAsBeside_126 : decode cL_isAsBeside 126 = .ok (.iload 8, 2) := by decide +kernel
theorem dL_isAsBeside_128 : decode cL_isAsBeside 128 = .ok (.ifCond .lt 14, 3) := by decide +kernel
theorem dL_isAsBeside_131 : decode cL_isAsBeside 131 = .ok (.aload_n 2, 1) := by decide +kernel
theorem dL_isAsBeside_132 : decode cL_isAsBeside 132 = .ok (.iload 9, 2) := by decide +kernel
theorem dL_isAsBeside_134 : decode cL_isAsBeside 134 = .ok (.iaload, 1) := by decide +kernel
theorem dL_isAsBeside_135 : decode cL_isAsBeside 135 = .ok (.aload_n 2, 1) := by decide +kernel
theorem dL_isAsBeside_136 : decode cL_isAsBeside 136 = .ok (.iload 8, 2) := by decide +kernel
theorem dL_isAsBeside_138 : decode cL_isAsBeside 138 = .ok (.iaload, 1) := by decide +kernel
theorem dL_isAsBeside_139 : decode cL_isAsBeside 139 = .ok (.if_icmp .ge 8, 3) := by decide +kernel
theorem dL_isAsBeside_142 : decode cL_isAsBeside 142 = .ok (.iload 9, 2) := by decide +kernel
theorem dL_isAsBeside_144 : decode cL_isAsBeside 144 = .ok (.goto 5, 3) := by decide +kernel
theorem dL_isAsBeside_147 : decode cL_isAsBeside 147 = .ok (.iload 8, 2) := by decide +kernel
theorem dL_isAsBeside_149 : decode cL_isAsBeside 149 = .ok (.istore 8, 2) := by decide +kernel
theorem dL_isAsBeside_151 : decode cL_isAsBeside 151 = .ok (.iinc 9 1, 3) := by decide +kernel
theorem dL_isAsBeside_154 : decode cL_isAsBeside 154 = .ok (.goto (-44), 3) := by decide +kernel
theorem dL_isAsBeside_157 : decode cL_isAsBeside 157 = .ok (.aload_n 0, 1) := by decide +kernel
theorem dL_isAsBeside_158 : decode cL_isAsBeside 158 = .ok (.iload 7, 2) := by decide +kernel
theorem dL_isAsBeside_160 : decode cL_isAsBeside 160 = .ok (.invokevirtual 28, 3) := by decide +kernel
theorem dL_isAsBeside_163 : decode cL_isAsBeside 163 = .ok (.aload_n 1, 1) := by decide +kernel
theorem dL_isAsBeside_164 : decode cL_isAsBeside 164 = .ok (.iload 7, 2) := by decide +kernel
theorem dL_isAsBeside_166 : decode cL_isAsBeside 166 = .ok (.invokestatic 31, 3) := by decide +kernel
theorem dL_isAsBeside_169 : decode cL_isAsBeside 169 = .ok (.if_icmp .ne 37, 3) := by decide +kernel
theorem dL_isAsBeside_172 : decode cL_isAsBeside 172 = .ok (.aload_n 0, 1) := by decide +kernel
theorem dL_isAsBeside_173 : decode cL_isAsBeside 173 = .ok (.iload 7, 2) := by decide +kernel
theorem dL_isAsBeside_175 : decode cL_isAsBeside 175 = .ok (.invokevirtual 34, 3) := by decide +kernel
theorem dL_isAsBeside_178 : decode cL_isAsBeside 178 = .ok (.iload 8, 2) := by decide +kernel
theorem dL_isAsBeside_180 : decode cL_isAsBeside 180 = .ok (.ifCond .ge 7, 3) := by decide +kernel
theorem dL_isAsBeside_183 : decode cL_isAsBeside 183 = .ok (.iconst (-1), 1) := by decide +kernel
theorem dL_isAsBeside_184 : decode cL_isAsBeside 184 = .ok (.goto 15, 3) := by decide +kernel
theorem dL_isAsBeside_187 : decode cL_isAsBeside 187 = .ok (.bipush 100, 2) := by decide +kernel
theorem dL_isAsBeside_189 : decode cL_isAsBeside 189 = .ok (.iload 8, 2) := by decide +kernel
theorem dL_isAsBeside_191 : decode cL_isAsBeside 191 = .ok (.iconst 5, 1) := by decide +kernel
theorem dL_isAsBeside_192 : decode cL_isAsBeside 192 = .ok (.idiv, 1) := by decide +kernel
theorem dL_isAsBeside_193 : decode cL_isAsBeside 193 = .ok (.imul, 1) := by decide +kernel
theorem dL_isAsBeside_194 : decode cL_isAsBeside 194 = .ok (.iload 8, 2) := by decide +kernel
theorem dL_isAsBeside_196 : decode cL_isAsBeside 196 = .ok (.iconst 5, 1) := by decide +kernel
theorem dL_isAsBeside_197 : decode cL_isAsBeside 197 = .ok (.irem, 1) := by decide +kernel
theorem dL_isAsBeside_198 : decode cL_isAsBeside 198 = .ok (.iadd, 1) := by decide +kernel
theorem dL_isAsBeside_199 : decode cL_isAsBeside 199 = .ok (.if_icmp .ne 7, 3) := by decide +kernel
theorem dL_isAsBeside_202 : decode cL_isAsBeside 202 = .ok (.iconst 1, 1) := by decide +kernel
theorem dL_isAsBeside_203 : decode cL_isAsBeside 203 = .ok (.goto 4, 3) := by decide +kernel
theorem dL_isAsBeside_206 : decode cL_isAsBeside 206 = .ok (.iconst 0, 1) := by decide +kernel
theorem dL_isAsBeside_207 : decode cL_isAsBeside 207 = .ok (.istore 6, 2) := by decide +kernel
theorem dL_isAsBeside_209 : decode cL_isAsBeside 209 = .ok (.iinc 7 1, 3) := by decide +kernel
theorem dL_isAsBeside_212 : decode cL_isAsBeside 212 = .ok (.goto (-121), 3) := by decide +kernel
theorem dL_isAsBeside_215 : decode cL_isAsBeside 215 = .ok (.iload 6, 2) := by decide +kernel
theorem dL_isAsBeside_217 : decode cL_isAsBeside 217 = .ok (.ireturn, 1) := by decide +kernel
theorem dL_law_0 : decode cL_law 0 = .ok (.new 9, 3) := by decide +kernel
theorem dL_law_3 : decode cL_law 3 = .ok (.dup, 1) := by decide +kernel
theorem dL_law_4 : decode cL_law 4 = .ok (.invokespecial 37, 3) := by decide +kernel
theorem dL_law_7 : decode cL_law 7 = .ok (.astore_n 1, 1) := by decide +kernel
theorem dL_law_8 : decode cL_law 8 = .ok (.bipush 60, 2) := by decide +kernel
theorem dL_law_10 : decode cL_law 10 = .ok (.newarray .int, 2) := by decide +kernel
theorem dL_law_12 : decode cL_law 12 = .ok (.astore_n 2, 1) := by decide +kernel
theorem dL_law_13 : decode cL_law 13 = .ok (.bipush 60, 2) := by decide +kernel
theorem dL_law_15 : decode cL_law 15 = .ok (.newarray .int, 2) := by decide +kernel
theorem dL_law_17 : decode cL_law 17 = .ok (.astore_n 3, 1) := by decide +kernel
theorem dL_law_18 : decode cL_law 18 = .ok (.iconst 3, 1) := by decide +kernel
theorem dL_law_19 : decode cL_law 19 = .ok (.newarray .int, 2) := by decide +kernel
theorem dL_law_21 : decode cL_law 21 = .ok (.astore 4, 2) := by decide +kernel
theorem dL_law_23 : decode cL_law 23 = .ok (.iconst 0, 1) := by decide +kernel
theorem dL_law_24 : decode cL_law 24 = .ok (.istore 5, 2) := by decide +kernel
theorem dL_law_26 : decode cL_law 26 = .ok (.iload 5, 2) := by decide +kernel
theorem dL_law_28 : decode cL_law 28 = .ok (.bipush 60, 2) := by decide +kernel
theorem dL_law_30 : decode cL_law 30 = .ok (.if_icmp .ge 14, 3) := by decide +kernel
theorem dL_law_33 : decode cL_law 33 = .ok (.aload_n 2, 1) := by decide +kernel
theorem dL_law_34 : decode cL_law 34 = .ok (.iload 5, 2) := by decide +kernel
theorem dL_law_36 : decode cL_law 36 = .ok (.iconst (-1), 1) := by decide +kernel
theorem dL_law_37 : decode cL_law 37 = .ok (.iastore, 1) := by decide +kernel
theorem dL_law_38 : decode cL_law 38 = .ok (.iinc 5 1, 3) := by decide +kernel
theorem dL_law_41 : decode cL_law 41 = .ok (.goto (-15), 3) := by decide +kernel
theorem dL_law_44 : decode cL_law 44 = .ok (.aload 4, 2) := by decide +kernel
theorem dL_law_46 : decode cL_law 46 = .ok (.iconst 0, 1) := by decide +kernel
theorem dL_law_47 : decode cL_law 47 = .ok (.iconst 1, 1) := by decide +kernel
theorem dL_law_48 : decode cL_law 48 = .ok (.iastore, 1) := by decide +kernel
theorem dL_law_49 : decode cL_law 49 = .ok (.iconst 0, 1) := by decide +kernel
theorem dL_law_50 : decode cL_law 50 = .ok (.istore 5, 2) := by decide +kernel
theorem dL_law_52 : decode cL_law 52 = .ok (.iload 5, 2) := by decide +kernel
theorem dL_law_54 : decode cL_law 54 = .ok (.bipush 70, 2) := by decide +kernel
theorem dL_law_56 : decode cL_law 56 = .ok (.if_icmp .ge 628, 3) := by decide +kernel
theorem dL_law_59 : decode cL_law 59 = .ok (.aload_n 0, 1) := by decide +kernel
theorem dL_law_60 : decode cL_law 60 = .ok (.iconst 2, 1) := by decide +kernel
theorem dL_law_61 : decode cL_law 61 = .ok (.iload 5, 2) := by decide +kernel
theorem dL_law_63 : decode cL_law 63 = .ok (.imul, 1) := by decide +kernel
theorem dL_law_64 : decode cL_law 64 = .ok (.invokestatic 38, 3) := by decide +kernel
theorem dL_law_67 : decode cL_law 67 = .ok (.istore 6, 2) := by decide +kernel
theorem dL_law_69 : decode cL_law 69 = .ok (.aload_n 0, 1) := by decide +kernel
theorem dL_law_70 : decode cL_law 70 = .ok (.iconst 2, 1) := by decide +kernel
theorem dL_law_71 : decode cL_law 71 = .ok (.iload 5, 2) := by decide +kernel
theorem dL_law_73 : decode cL_law 73 = .ok (.imul, 1) := by decide +kernel
theorem dL_law_74 : decode cL_law 74 = .ok (.iconst 1, 1) := by decide +kernel
theorem dL_law_75 : decode cL_law 75 = .ok (.iadd, 1) := by decide +kernel
theorem dL_law_76 : decode cL_law 76 = .ok (.invokestatic 38, 3) := by decide +kernel
theorem dL_law_79 : decode cL_law 79 = .ok (.istore 7, 2) := by decide +kernel
theorem dL_law_81 : decode cL_law 81 = .ok (.iload 6, 2) := by decide +kernel
theorem dL_law_83 : decode cL_law 83 = .ok (.bipush 10, 2) := by decide +kernel
theorem dL_law_85 : decode cL_law 85 = .ok (.invokestatic 41, 3) := by decide +kernel
theorem dL_law_88 : decode cL_law 88 = .ok (.istore 8, 2) := by decide +kernel
theorem dL_law_90 : decode cL_law 90 = .ok (.iload 6, 2) := by decide +kernel
theorem dL_law_92 : decode cL_law 92 = .ok (.iconst 4, 1) := by decide +kernel
theorem dL_law_93 : decode cL_law 93 = .ok (.ishr, 1) := by decide +kernel
theorem dL_law_94 : decode cL_law 94 = .ok (.iconst 4, 1) := by decide +kernel
theorem dL_law_95 : decode cL_law 95 = .ok (.invokestatic 41, 3) := by decide +kernel
theorem dL_law_98 : decode cL_law 98 = .ok (.istore 9, 2) := by decide +kernel
theorem dL_law_100 : decode cL_law 100 = .ok (.iload 7, 2) := by decide +kernel
theorem dL_law_102 : decode cL_law 102 = .ok (.aload 4, 2) := by decide +kernel
theorem dL_law_104 : decode cL_law 104 = .ok (.iconst 0, 1) := by decide +kernel
theorem dL_law_105 : decode cL_law 105 = .ok (.iaload, 1) := by decide +kernel
theorem dL_law_106 : decode cL_law 106 = .ok (.invokestatic 41, 3) := by decide +kernel
theorem dL_law_109 : decode cL_law 109 = .ok (.istore 10, 2) := by decide +kernel
theorem dL_law_111 : decode cL_law 111 = .ok (.aload_n 2, 1) := by decide +kernel
theorem dL_law_112 : decode cL_law 112 = .ok (.iload 10, 2) := by decide +kernel
theorem dL_law_114 : decode cL_law 114 = .ok (.invokestatic 44, 3) := by decide +kernel
theorem dL_law_117 : decode cL_law 117 = .ok (.ifCond .eq 8, 3) := by decide +kernel
theorem dL_law_120 : decode cL_law 120 = .ok (.iload 10, 2) := by decide +kernel
theorem dL_law_122 : decode cL_law 122 = .ok (.goto 4, 3) := by decide +kernel
theorem dL_law_125 : decode cL_law 125 = .ok (.iconst 0, 1) := by decide +kernel
theorem dL_law_126 : decode cL_law 126 = .ok (.istore 10, 2) := by decide +kernel
theorem dL_law_128 : decode cL_law 128 = .ok (.iload 7, 2) := by decide +kernel
theorem dL_law_130 : decode cL_law 130 = .ok (.iconst 5, 1) := by decide +kernel
theorem dL_law_131 : decode cL_law 131 = .ok (.ishr, 1) := by decide +kernel
theorem dL_law_132 : decode cL_law 132 = .ok (.iconst 5, 1) := by decide +kernel
theorem dL_law_133 : decode cL_law 133 = .ok (.invokestatic 41, 3) := by decide +kernel
theorem dL_law_136 : decode cL_law 136 = .ok (.istore 11, 2) := by decide +kernel
theorem dL_law_138 : decode cL_law 138 = .ok (.iconst 5, 1) := by decide +kernel
theorem dL_law_139 : decode cL_law 139 = .ok (.iload 10, 2) := by decide +kernel
theorem dL_law_141 : decode cL_law 141 = .ok (.imul, 1) := by decide +kernel
theorem dL_law_142 : decode cL_law 142 = .ok (.iload 11, 2) := by decide +kernel
theorem dL_law_144 : decode cL_law 144 = .ok (.iadd, 1) := by decide +kernel
theorem dL_law_145 : decode cL_law 145 = .ok (.istore 12, 2) := by decide +kernel
theorem dL_law_147 : decode cL_law 147 = .ok (.iconst 1, 1) := by decide +kernel
theorem dL_law_148 : decode cL_law 148 = .ok (.istore 13, 2) := by decide +kernel
theorem dL_law_150 : decode cL_law 150 = .ok (.iload 8, 2) := by decide +kernel
theorem dL_law_152 : decode cL_law 152 = .ok (.iconst 2, 1) := by decide +kernel
theorem dL_law_153 : decode cL_law 153 = .ok (.if_icmp .ge 66, 3) := by decide +kernel
theorem dL_law_156 : decode cL_law 156 = .ok (.aload 4, 2) := by decide +kernel
theorem dL_law_158 : decode cL_law 158 = .ok (.iconst 0, 1) := by decide +kernel
theorem dL_law_159 : decode cL_law 159 = .ok (.iaload, 1) := by decide +kernel
theorem dL_law_160 : decode cL_law 160 = .ok (.bipush 12, 2) := by decide +kernel
theorem dL_law_162 : decode cL_law 162 = .ok (.if_icmp .ge 57, 3) := by decide +kernel
theorem dL_law_165 : decode cL_law 165 = .ok (.aload_n 2, 1) := by decide +kernel
theorem dL_law_166 : decode cL_law 166 = .ok (.iload 12, 2) := by decide +kernel
theorem dL_law_168 : decode cL_law 168 = .ok (.iaload, 1) := by decide +kernel
theorem dL_law_169 : decode cL_law 169 = .ok (.iconst (-1), 1) := by decide +kernel
theorem dL_law_170 : decode cL_law 170 = .ok (.if_icmp .ne 49, 3) := by decide +kernel
theorem dL_law_173 : decode cL_law 173 = .ok (.aload_n 1, 1) := by decide +kernel
theorem dL_law_174 : decode cL_law 174 = .ok (.iload 9, 2) := by decide +kernel
theorem dL_law_176 : decode cL_law 176 = .ok (.iload 10, 2) := by decide +kernel
theorem dL_law_178 : decode cL_law 178 = .ok (.iload 11, 2) := by decide +kernel
theorem dL_law_180 : decode cL_law 180 = .ok (.invokevirtual 48, 3) := by decide +kernel
theorem dL_law_183 : decode cL_law 183 = .ok (.aload 4, 2) := by decide +kernel
theorem dL_law_185 : decode cL_law 185 = .ok (.iconst 0, 1) := by decide +kernel
theorem dL_law_186 : decode cL_law 186 = .ok (.iaload, 1) := by decide +kernel
theorem dL_law_187 : decode cL_law 187 = .ok (.if_icmp .ne 7, 3) := by decide +kernel
theorem dL_law_190 : decode cL_law 190 = .ok (.iconst 1, 1) := by decide +kernel
theorem dL_law_191 : decode cL_law 191 = .ok (.goto 4, 3) := by decide +kernel
theorem dL_law_194 : decode cL_law 194 = .ok (.iconst 0, 1) := by decide +kernel
theorem dL_law_195 : decode cL_law 195 = .ok (.istore 13, 2) := by decide +kernel
theorem dL_law_197 : decode cL_law 197 = .ok (.aload_n 2, 1) := by decide +kernel
theorem dL_law_198 : decode cL_law 198 = .ok (.iload 12, 2) := by decide +kernel
theorem dL_law_200 : decode cL_law 200 = .ok (.bipush (-2), 2) := by decide +kernel
theorem dL_law_202 : decode cL_law 202 = .ok (.aload 4, 2) := by decide +kernel
theorem dL_law_204 : decode cL_law 204 = .ok (.iconst 0, 1) := by decide +kernel
theorem dL_law_205 : decode cL_law 205 = .ok (.iaload, 1) := by decide +kernel
theorem dL_law_206 : decode cL_law 206 = .ok (.isub, 1) := by decide +kernel
theorem dL_law_207 : decode cL_law 207 = .ok (.iastore, 1) := by decide +kernel
theorem dL_law_208 : decode cL_law 208 = .ok (.aload 4, 2) := by decide +kernel
theorem dL_law_210 : decode cL_law 210 = .ok (.iconst 0, 1) := by decide +kernel
theorem dL_law_211 : decode cL_law 211 = .ok (.dup2, 1) := by decide +kernel
theorem dL_law_212 : decode cL_law 212 = .ok (.iaload, 1) := by decide +kernel
theorem dL_law_213 : decode cL_law 213 = .ok (.iconst 1, 1) := by decide +kernel
theorem dL_law_214 : decode cL_law 214 = .ok (.iadd, 1) := by decide +kernel
theorem dL_law_215 : decode cL_law 215 = .ok (.iastore, 1) := by decide +kernel
theorem dL_law_216 : decode cL_law 216 = .ok (.goto 413, 3) := by decide +kernel
theorem dL_law_219 : decode cL_law 219 = .ok (.iload 8, 2) := by decide +kernel
theorem dL_law_221 : decode cL_law 221 = .ok (.iconst 4, 1) := by decide +kernel
theorem dL_law_222 : decode cL_law 222 = .ok (.if_icmp .ge 79, 3) := by decide +kernel
theorem dL_law_225 : decode cL_law 225 = .ok (.aload 4, 2) := by decide +kernel
theorem dL_law_227 : decode cL_law 227 = .ok (.iconst 1, 1) := by decide +kernel
theorem dL_law_228 : decode cL_law 228 = .ok (.iaload, 1) := by decide +kernel
theorem dL_law_229 : decode cL_law 229 = .ok (.bipush 30, 2) := by decide +kernel
theorem dL_law_231 : decode cL_law 231 = .ok (.if_icmp .ge 70, 3) := by decide +kernel
theorem dL_law_234 : decode cL_law 234 = .ok (.aload_n 2, 1) := by decide +kernel
theorem dL_law_235 : decode cL_law 235 = .ok (.iload 12, 2) := by decide +kernel
theorem dL_law_237 : decode cL_law 237 = .ok (.iaload, 1) := by decide +kernel
theorem dL_law_238 : decode cL_law 238 = .ok (.iconst (-1), 1) := by decide +kernel
theorem dL_law_239 : decode cL_law 239 = .ok (.if_icmp .ne 62, 3) := by decide +kernel
theorem dL_law_242 : decode cL_law 242 = .ok (.aload_n 1, 1) := by decide +kernel
theorem dL_law_243 : decode cL_law 243 = .ok (.iload 9, 2) := by decide +kernel
theorem dL_law_245 : decode cL_law 245 = .ok (.iload 10, 2) := by decide +kernel
theorem dL_law_247 : decode cL_law 247 = .ok (.iload 11, 2) := by decide +kernel
theorem dL_law_249 : decode cL_law 249 = .ok (.invokevirtual 51, 3) := by decide +kernel
theorem dL_law_252 : decode cL_law 252 = .ok (.aload 4, 2) := by decide +kernel
theorem dL_law_254 : decode cL_law 254 = .ok (.iconst 1, 1) := by decide +kernel
theorem dL_law_255 : decode cL_law 255 = .ok (.iaload, 1) := by decide +kernel
theorem dL_law_256 : decode cL_law 256 = .ok (.if_icmp .ne 7, 3) := by decide +kernel
theorem dL_law_259 : decode cL_law 259 = .ok (.iconst 1, 1) := by decide +kernel
theorem dL_law_260 : decode cL_law 260 = .ok (.goto 4, 3) := by decide +kernel
theorem dL_law_263 : decode cL_law 263 = .ok (.iconst 0, 1) := by decide +kernel
theorem dL_law_264 : decode cL_law 264 = .ok (.istore 13, 2) := by decide +kernel
theorem dL_law_266 : decode cL_law 266 = .ok (.aload_n 2, 1) := by decide +kernel
theorem dL_law_267 : decode cL_law 267 = .ok (.iload 12, 2) := by decide +kernel
theorem dL_law_269 : decode cL_law 269 = .ok (.aload 4, 2) := by decide +kernel
theorem dL_law_271 : decode cL_law 271 = .ok (.iconst 1, 1) := by decide +kernel
theorem dL_law_272 : decode cL_law 272 = .ok (.iaload, 1) := by decide +kernel
theorem dL_law_273 : decode cL_law 273 = .ok (.iastore, 1) := by decide +kernel
theorem dL_law_274 : decode cL_law 274 = .ok (.aload_n 3, 1) := by decide +kernel
theorem dL_law_275 : decode cL_law 275 = .ok (.iload 12, 2) := by decide +kernel
theorem dL_law_277 : decode cL_law 277 = .ok (.aload 4, 2) := by decide +kernel
theorem dL_law_279 : decode cL_law 279 = .ok (.iconst 2, 1) := by decide +kernel
theorem dL_law_280 : decode cL_law 280 = .ok (.iaload, 1) := by decide +kernel
theorem dL_law_281 : decode cL_law 281 = .ok (.iastore, 1) := by decide +kernel
theorem dL_law_282 : decode cL_law 282 = .ok (.aload 4, 2) := by decide +kernel
theorem dL_law_284 : decode cL_law 284 = .ok (.iconst 1, 1) := by decide +kernel
theorem dL_law_285 : decode cL_law 285 = .ok (.dup2, 1) := by decide +kernel
theorem dL_law_286 : decode cL_law 286 = .ok (.iaload, 1) := by decide +kernel
theorem dL_law_287 : decode cL_law 287 = .ok (.iconst 1, 1) := by decide +kernel
theorem dL_law_288 : decode cL_law 288 = .ok (.iadd, 1) := by decide +kernel
theorem dL_law_289 : decode cL_law 289 = .ok (.iastore, 1) := by decide +kernel
theorem dL_law_290 : decode cL_law 290 = .ok (.aload 4, 2) := by decide +kernel
theorem dL_law_292 : decode cL_law 292 = .ok (.iconst 2, 1) := by decide +kernel
theorem dL_law_293 : decode cL_law 293 = .ok (.dup2, 1) := by decide +kernel
theorem dL_law_294 : decode cL_law 294 = .ok (.iaload, 1) := by decide +kernel
theorem dL_law_295 : decode cL_law 295 = .ok (.iconst 1, 1) := by decide +kernel
theorem dL_law_296 : decode cL_law 296 = .ok (.iadd, 1) := by decide +kernel
theorem dL_law_297 : decode cL_law 297 = .ok (.iastore, 1) := by decide +kernel
theorem dL_law_298 : decode cL_law 298 = .ok (.goto 331, 3) := by decide +kernel
theorem dL_law_301 : decode cL_law 301 = .ok (.iload 8, 2) := by decide +kernel
theorem dL_law_303 : decode cL_law 303 = .ok (.iconst 4, 1) := by decide +kernel
theorem dL_law_304 : decode cL_law 304 = .ok (.if_icmp .ne 104, 3) := by decide +kernel
theorem dL_law_307 : decode cL_law 307 = .ok (.aload 4, 2) := by decide +kernel
theorem dL_law_309 : decode cL_law 309 = .ok (.iconst 1, 1) := by decide +kernel
theorem dL_law_310 : decode cL_law 310 = .ok (.iaload, 1) := by decide +kernel
theorem dL_law_311 : decode cL_law 311 = .ok (.ifCond .le 97, 3) := by decide +kernel
theorem dL_law_314 : decode cL_law 314 = .ok (.aload_n 2, 1) := by decide +kernel
theorem dL_law_315 : decode cL_law 315 = .ok (.iload 12, 2) := by decide +kernel
theorem dL_law_317 : decode cL_law 317 = .ok (.iaload, 1) := by decide +kernel
theorem dL_law_318 : decode cL_law 318 = .ok (.iconst (-1), 1) := by decide +kernel
theorem dL_law_319 : decode cL_law 319 = .ok (.if_icmp .ne 89, 3) := by decide +kernel
theorem dL_law_322 : decode cL_law 322 = .ok (.aload_n 2, 1) := by decide +kernel
theorem dL_law_323 : decode cL_law 323 = .ok (.iload 7, 2) := by decide +kernel
theorem dL_law_325 : decode cL_law 325 = .ok (.bipush 9, 2) := by decide +kernel
theorem dL_law_327 : decode cL_law 327 = .ok (.ishr, 1) := by decide +kernel
theorem dL_law_328 : decode cL_law 328 = .ok (.aload 4, 2) := by decide +kernel
theorem dL_law_330 : decode cL_law 330 = .ok (.iconst 1, 1) := by decide +kernel
theorem dL_law_331 : decode cL_law 331 = .ok (.iaload, 1) := by decide +kernel
theorem dL_law_332 : decode cL_law 332 = .ok (.invokestatic 41, 3) := by decide +kernel
theorem dL_law_335 : decode cL_law 335 = .ok (.invokestatic 31, 3) := by decide +kernel
theorem dL_law_338 : decode cL_law 338 = .ok (.ifCond .le 70, 3) := by decide +kernel
theorem dL_law_341 : decode cL_law 341 = .ok (.iload 7, 2) := by decide +kernel
theorem dL_law_343 : decode cL_law 343 = .ok (.bipush 9, 2) := by decide +kernel
theorem dL_law_345 : decode cL_law 345 = .ok (.ishr, 1) := by decide +kernel
theorem dL_law_346 : decode cL_law 346 = .ok (.aload 4, 2) := by decide +kernel
theorem dL_law_348 : decode cL_law 348 = .ok (.iconst 1, 1) := by decide +kernel
theorem dL_law_349 : decode cL_law 349 = .ok (.iaload, 1) := by decide +kernel
theorem dL_law_350 : decode cL_law 350 = .ok (.invokestatic 41, 3) := by decide +kernel
theorem dL_law_353 : decode cL_law 353 = .ok (.istore 14, 2) := by decide +kernel
theorem dL_law_355 : decode cL_law 355 = .ok (.aload_n 2, 1) := by decide +kernel
theorem dL_law_356 : decode cL_law 356 = .ok (.iload 12, 2) := by decide +kernel
theorem dL_law_358 : decode cL_law 358 = .ok (.iload 14, 2) := by decide +kernel
theorem dL_law_360 : decode cL_law 360 = .ok (.iastore, 1) := by decide +kernel
theorem dL_law_361 : decode cL_law 361 = .ok (.aload_n 3, 1) := by decide +kernel
theorem dL_law_362 : decode cL_law 362 = .ok (.iload 12, 2) := by decide +kernel
theorem dL_law_364 : decode cL_law 364 = .ok (.aload 4, 2) := by decide +kernel
theorem dL_law_366 : decode cL_law 366 = .ok (.iconst 2, 1) := by decide +kernel
theorem dL_law_367 : decode cL_law 367 = .ok (.iaload, 1) := by decide +kernel
theorem dL_law_368 : decode cL_law 368 = .ok (.iastore, 1) := by decide +kernel
theorem dL_law_369 : decode cL_law 369 = .ok (.aload 4, 2) := by decide +kernel
theorem dL_law_371 : decode cL_law 371 = .ok (.iconst 2, 1) := by decide +kernel
theorem dL_law_372 : decode cL_law 372 = .ok (.dup2, 1) := by decide +kernel
theorem dL_law_373 : decode cL_law 373 = .ok (.iaload, 1) := by decide +kernel
theorem dL_law_374 : decode cL_law 374 = .ok (.iconst 1, 1) := by decide +kernel
theorem dL_law_375 : decode cL_law 375 = .ok (.iadd, 1) := by decide +kernel
theorem dL_law_376 : decode cL_law 376 = .ok (.iastore, 1) := by decide +kernel
theorem dL_law_377 : decode cL_law 377 = .ok (.aload_n 1, 1) := by decide +kernel
theorem dL_law_378 : decode cL_law 378 = .ok (.iload 9, 2) := by decide +kernel
theorem dL_law_380 : decode cL_law 380 = .ok (.iload 10, 2) := by decide +kernel
theorem dL_law_382 : decode cL_law 382 = .ok (.iload 11, 2) := by decide +kernel
theorem dL_law_384 : decode cL_law 384 = .ok (.iload 14, 2) := by decide +kernel
theorem dL_law_386 : decode cL_law 386 = .ok (.invokevirtual 54, 3) := by decide +kernel
theorem dL_law_389 : decode cL_law 389 = .ok (.aload_n 2, 1) := by decide +kernel
theorem dL_law_390 : decode cL_law 390 = .ok (.iload 14, 2) := by decide +kernel
theorem dL_law_392 : decode cL_law 392 = .ok (.invokestatic 31, 3) := by decide +kernel
theorem dL_law_395 : decode cL_law 395 = .ok (.if_icmp .ne 7, 3) := by decide +kernel
theorem dL_law_398 : decode cL_law 398 = .ok (.iconst 1, 1) := by decide +kernel
theorem dL_law_399 : decode cL_law 399 = .ok (.goto 4, 3) := by decide +kernel
theorem dL_law_402 : decode cL_law 402 = .ok (.iconst 0, 1) := by decide +kernel
theorem dL_law_403 : decode cL_law 403 = .ok (.istore 13, 2) := by decide +kernel
theorem dL_law_405 : decode cL_law 405 = .ok (.goto 224, 3) := by decide +kernel
theorem dL_law_408 : decode cL_law 408 = .ok (.iload 8, 2) := by decide +kernel
theorem dL_law_410 : decode cL_law 410 = .ok (.iconst 5, 1) := by decide +kernel
theorem dL_law_411 : decode cL_law 411 = .ok (.if_icmp .ne 64, 3) := by decide +kernel
theorem dL_law_414 : decode cL_law 414 = .ok (.aload_n 2, 1) := by decide +kernel
theorem dL_law_415 : decode cL_law 415 = .ok (.iload 12, 2) := by decide +kernel
theorem dL_law_417 : decode cL_law 417 = .ok (.iaload, 1) := by decide +kernel
theorem dL_law_418 : decode cL_law 418 = .ok (.iconst (-1), 1) := by decide +kernel
theorem dL_law_419 : decode cL_law 419 = .ok (.if_icmp .eq 56, 3) := by decide +kernel
theorem dL_law_422 : decode cL_law 422 = .ok (.aload_n 2, 1) := by decide +kernel
theorem dL_law_423 : decode cL_law 423 = .ok (.iload 12, 2) := by decide +kernel
theorem dL_law_425 : decode cL_law 425 = .ok (.iaload, 1) := by decide +kernel
theorem dL_law_426 : decode cL_law 426 = .ok (.ifCond .ge 17, 3) := by decide +kernel
theorem dL_law_429 : decode cL_law 429 = .ok (.aload_n 2, 1) := by decide +kernel
theorem dL_law_430 : decode cL_law 430 = .ok (.bipush (-2), 2) := by decide +kernel
theorem dL_law_432 : decode cL_law 432 = .ok (.aload_n 2, 1) := by decide +kernel
theorem dL_law_433 : decode cL_law 433 = .ok (.iload 12, 2) := by decide +kernel
theorem dL_law_435 : decode cL_law 435 = .ok (.iaload, 1) := by decide +kernel
theorem dL_law_436 : decode cL_law 436 = .ok (.isub, 1) := by decide +kernel
theorem dL_law_437 : decode cL_law 437 = .ok (.invokestatic 14, 3) := by decide +kernel
theorem dL_law_440 : decode cL_law 440 = .ok (.ifCond .ne 35, 3) := by decide +kernel
theorem dL_law_443 : decode cL_law 443 = .ok (.aload_n 1, 1) := by decide +kernel
theorem dL_law_444 : decode cL_law 444 = .ok (.iload 9, 2) := by decide +kernel
theorem dL_law_446 : decode cL_law 446 = .ok (.iload 10, 2) := by decide +kernel
theorem dL_law_448 : decode cL_law 448 = .ok (.iload 11, 2) := by decide +kernel
theorem dL_law_450 : decode cL_law 450 = .ok (.invokevirtual 58, 3) := by decide +kernel
theorem dL_law_453 : decode cL_law 453 = .ok (.aload_n 2, 1) := by decide +kernel
theorem dL_law_454 : decode cL_law 454 = .ok (.iload 12, 2) := by decide +kernel
theorem dL_law_456 : decode cL_law 456 = .ok (.iaload, 1) := by decide +kernel
theorem dL_law_457 : decode cL_law 457 = .ok (.if_icmp .ne 7, 3) := by decide +kernel
theorem dL_law_460 : decode cL_law 460 = .ok (.iconst 1, 1) := by decide +kernel
theorem dL_law_461 : decode cL_law 461 = .ok (.goto 4, 3) := by decide +kernel
theorem dL_law_464 : decode cL_law 464 = .ok (.iconst 0, 1) := by decide +kernel
theorem dL_law_465 : decode cL_law 465 = .ok (.istore 13, 2) := by decide +kernel
theorem dL_law_467 : decode cL_law 467 = .ok (.aload_n 2, 1) := by decide +kernel
theorem dL_law_468 : decode cL_law 468 = .ok (.iload 12, 2) := by decide +kernel
theorem dL_law_470 : decode cL_law 470 = .ok (.iconst (-1), 1) := by decide +kernel
theorem dL_law_471 : decode cL_law 471 = .ok (.iastore, 1) := by decide +kernel
theorem dL_law_472 : decode cL_law 472 = .ok (.goto 157, 3) := by decide +kernel
theorem dL_law_475 : decode cL_law 475 = .ok (.iload 8, 2) := by decide +kernel
theorem dL_law_477 : decode cL_law 477 = .ok (.bipush 8, 2) := by decide +kernel
theorem dL_law_479 : decode cL_law 479 = .ok (.if_icmp .ge 129, 3) := by decide +kernel
theorem dL_law_482 : decode cL_law 482 = .ok (.aload_n 2, 1) := by decide +kernel
theorem dL_law_483 : decode cL_law 483 = .ok (.iload 12, 2) := by decide +kernel
theorem dL_law_485 : decode cL_law 485 = .ok (.iaload, 1) := by decide +kernel
theorem dL_law_486 : decode cL_law 486 = .ok (.iconst (-1), 1) := by decide +kernel
theorem dL_law_487 : decode cL_law 487 = .ok (.if_icmp .eq 121, 3) := by decide +kernel
theorem dL_law_490 : decode cL_law 490 = .ok (.iload 7, 2) := by decide +kernel
theorem dL_law_492 : decode cL_law 492 = .ok (.bipush 9, 2) := by decide +kernel
theorem dL_law_494 : decode cL_law 494 = .ok (.ishr, 1) := by decide +kernel
theorem dL_law_495 : decode cL_law 495 = .ok (.aload 4, 2) := by decide +kernel
theorem dL_law_497 : decode cL_law 497 = .ok (.iconst 0, 1) := by decide +kernel
theorem dL_law_498 : decode cL_law 498 = .ok (.iaload, 1) := by decide +kernel
theorem dL_law_499 : decode cL_law 499 = .ok (.invokestatic 41, 3) := by decide +kernel
theorem dL_law_502 : decode cL_law 502 = .ok (.istore 14, 2) := by decide +kernel
theorem dL_law_504 : decode cL_law 504 = .ok (.aload_n 2, 1) := by decide +kernel
theorem dL_law_505 : decode cL_law 505 = .ok (.iload 14, 2) := by decide +kernel
theorem dL_law_507 : decode cL_law 507 = .ok (.invokestatic 44, 3) := by decide +kernel
theorem dL_law_510 : decode cL_law 510 = .ok (.ifCond .eq 8, 3) := by decide +kernel
theorem dL_law_513 : decode cL_law 513 = .ok (.iload 14, 2) := by decide +kernel
theorem dL_law_515 : decode cL_law 515 = .ok (.goto 4, 3) := by decide +kernel
theorem dL_law_518 : decode cL_law 518 = .ok (.iconst 0, 1) := by decide +kernel
theorem dL_law_519 : decode cL_law 519 = .ok (.istore 14, 2) := by decide +kernel
theorem dL_law_521 : decode cL_law 521 = .ok (.iconst 5, 1) := by decide +kernel
theorem dL_law_522 : decode cL_law 522 = .ok (.iload 14, 2) := by decide +kernel
theorem dL_law_524 : decode cL_law 524 = .ok (.imul, 1) := by decide +kernel
theorem dL_law_525 : decode cL_law 525 = .ok (.iload 7, 2) := by decide +kernel
theorem dL_law_527 : decode cL_law 527 = .ok (.bipush 14, 2) := by decide +kernel
theorem dL_law_529 : decode cL_law 529 = .ok (.ishr, 1) := by decide +kernel
theorem dL_law_530 : decode cL_law 530 = .ok (.iconst 5, 1) := by decide +kernel
theorem dL_law_531 : decode cL_law 531 = .ok (.invokestatic 41, 3) := by decide +kernel
theorem dL_law_534 : decode cL_law 534 = .ok (.iadd, 1) := by decide +kernel
theorem dL_law_535 : decode cL_law 535 = .ok (.istore 15, 2) := by decide +kernel
theorem dL_law_537 : decode cL_law 537 = .ok (.aload_n 2, 1) := by decide +kernel
theorem dL_law_538 : decode cL_law 538 = .ok (.iload 15, 2) := by decide +kernel
theorem dL_law_540 : decode cL_law 540 = .ok (.iaload, 1) := by decide +kernel
theorem dL_law_541 : decode cL_law 541 = .ok (.iconst (-1), 1) := by decide +kernel
theorem dL_law_542 : decode cL_law 542 = .ok (.if_icmp .ne 63, 3) := by decide +kernel
theorem dL_law_545 : decode cL_law 545 = .ok (.aload_n 2, 1) := by decide +kernel
theorem dL_law_546 : decode cL_law 546 = .ok (.iload 12, 2) := by decide +kernel
theorem dL_law_548 : decode cL_law 548 = .ok (.iaload, 1) := by decide +kernel
theorem dL_law_549 : decode cL_law 549 = .ok (.ifCond .ge 19, 3) := by decide +kernel
theorem dL_law_552 : decode cL_law 552 = .ok (.aload_n 2, 1) := by decide +kernel
theorem dL_law_553 : decode cL_law 553 = .ok (.iload 14, 2) := by decide +kernel
theorem dL_law_555 : decode cL_law 555 = .ok (.bipush (-2), 2) := by decide +kernel
theorem dL_law_557 : decode cL_law 557 = .ok (.aload_n 2, 1) := by decide +kernel
theorem dL_law_558 : decode cL_law 558 = .ok (.iload 12, 2) := by decide +kernel
theorem dL_law_560 : decode cL_law 560 = .ok (.iaload, 1) := by decide +kernel
theorem dL_law_561 : decode cL_law 561 = .ok (.isub, 1) := by decide +kernel
theorem dL_law_562 : decode cL_law 562 = .ok (.invokestatic 61, 3) := by decide +kernel
theorem dL_law_565 : decode cL_law 565 = .ok (.ifCond .ne 40, 3) := by decide +kernel
theorem dL_law_568 : decode cL_law 568 = .ok (.aload_n 1, 1) := by decide +kernel
theorem dL_law_569 : decode cL_law 569 = .ok (.iload 9, 2) := by decide +kernel
theorem dL_law_571 : decode cL_law 571 = .ok (.iload 10, 2) := by decide +kernel
theorem dL_law_573 : decode cL_law 573 = .ok (.iload 11, 2) := by decide +kernel
theorem dL_law_575 : decode cL_law 575 = .ok (.iload 14, 2) := by decide +kernel
theorem dL_law_577 : decode cL_law 577 = .ok (.iload 15, 2) := by decide +kernel
theorem dL_law_579 : decode cL_law 579 = .ok (.iconst 5, 1) := by decide +kernel
theorem dL_law_580 : decode cL_law 580 = .ok (.irem, 1) := by decide +kernel
theorem dL_law_581 : decode cL_law 581 = .ok (.invokevirtual 65, 3) := by decide +kernel
theorem dL_law_584 : decode cL_law 584 = .ok (.aload_n 2, 1) := by decide +kernel
theorem dL_law_585 : decode cL_law 585 = .ok (.iload 15, 2) := by decide +kernel
theorem dL_law_587 : decode cL_law 587 = .ok (.aload_n 2, 1) := by decide +kernel
theorem dL_law_588 : decode cL_law 588 = .ok (.iload 12, 2) := by decide +kernel
theorem dL_law_590 : decode cL_law 590 = .ok (.iaload, 1) := by decide +kernel
theorem dL_law_591 : decode cL_law 591 = .ok (.iastore, 1) := by decide +kernel
theorem dL_law_592 : decode cL_law 592 = .ok (.aload_n 3, 1) := by decide +kernel
theorem dL_law_593 : decode cL_law 593 = .ok (.iload 15, 2) := by decide +kernel
theorem dL_law_595 : decode cL_law 595 = .ok (.aload_n 3, 1) := by decide +kernel
theorem dL_law_596 : decode cL_law 596 = .ok (.iload 12, 2) := by decide +kernel
theorem dL_law_598 : decode cL_law 598 = .ok (.iaload, 1) := by decide +kernel
theorem dL_law_599 : decode cL_law 599 = .ok (.iastore, 1) := by decide +kernel
theorem dL_law_600 : decode cL_law 600 = .ok (.aload_n 2, 1) := by decide +kernel
theorem dL_law_601 : decode cL_law 601 = .ok (.iload 12, 2) := by decide +kernel
theorem dL_law_603 : decode cL_law 603 = .ok (.iconst (-1), 1) := by decide +kernel
theorem dL_law_604 : decode cL_law 604 = .ok (.iastore, 1) := by decide +kernel
theorem dL_law_605 : decode cL_law 605 = .ok (.goto 24, 3) := by decide +kernel
theorem dL_law_608 : decode cL_law 608 = .ok (.iload 8, 2) := by decide +kernel
theorem dL_law_610 : decode cL_law 610 = .ok (.bipush 8, 2) := by decide +kernel
theorem dL_law_612 : decode cL_law 612 = .ok (.if_icmp .ne 17, 3) := by decide +kernel
theorem dL_law_615 : decode cL_law 615 = .ok (.aload_n 1, 1) := by decide +kernel
theorem dL_law_616 : decode cL_law 616 = .ok (.iconst 1, 1) := by decide +kernel
theorem dL_law_617 : decode cL_law 617 = .ok (.iload 7, 2) := by decide +kernel
theorem dL_law_619 : decode cL_law 619 = .ok (.bipush 8, 2) := by decide +kernel
theorem dL_law_621 : decode cL_law 621 = .ok (.invokestatic 41, 3) := by decide +kernel
theorem dL_law_624 : decode cL_law 624 = .ok (.iadd, 1) := by decide +kernel
theorem dL_law_625 : decode cL_law 625 = .ok (.invokevirtual 69, 3) := by decide +kernel
theorem dL_law_628 : decode cL_law 628 = .ok (.pop, 1) := by decide +kernel
theorem dL_law_629 : decode cL_law 629 = .ok (.iload 7, 2) := by decide +kernel
theorem dL_law_631 : decode cL_law 631 = .ok (.bipush 18, 2) := by decide +kernel
theorem dL_law_633 : decode cL_law 633 = .ok (.ishr, 1) := by decide +kernel
theorem dL_law_634 : decode cL_law 634 = .ok (.aload 4, 2) := by decide +kernel
theorem dL_law_636 : decode cL_law 636 = .ok (.iconst 0, 1) := by decide +kernel
theorem dL_law_637 : decode cL_law 637 = .ok (.iaload, 1) := by decide +kernel
theorem dL_law_638 : decode cL_law 638 = .ok (.invokestatic 41, 3) := by decide +kernel
theorem dL_law_641 : decode cL_law 641 = .ok (.istore 14, 2) := by decide +kernel
theorem dL_law_643 : decode cL_law 643 = .ok (.iload 13, 2) := by decide +kernel
theorem dL_law_645 : decode cL_law 645 = .ok (.ifCond .eq 31, 3) := by decide +kernel
theorem dL_law_648 : decode cL_law 648 = .ok (.aload_n 1, 1) := by decide +kernel
theorem dL_law_649 : decode cL_law 649 = .ok (.aload_n 2, 1) := by decide +kernel
theorem dL_law_650 : decode cL_law 650 = .ok (.aload_n 3, 1) := by decide +kernel
theorem dL_law_651 : decode cL_law 651 = .ok (.aload 4, 2) := by decide +kernel
theorem dL_law_653 : decode cL_law 653 = .ok (.aload_n 2, 1) := by decide +kernel
theorem dL_law_654 : decode cL_law 654 = .ok (.iload 14, 2) := by decide +kernel
theorem dL_law_656 : decode cL_law 656 = .ok (.invokestatic 44, 3) := by decide +kernel
theorem dL_law_659 : decode cL_law 659 = .ok (.ifCond .eq 8, 3) := by decide +kernel
theorem dL_law_662 : decode cL_law 662 = .ok (.iload 14, 2) := by decide +kernel
theorem dL_law_664 : decode cL_law 664 = .ok (.goto 4, 3) := by decide +kernel
theorem dL_law_667 : decode cL_law 667 = .ok (.iconst 0, 1) := by decide +kernel
theorem dL_law_668 : decode cL_law 668 = .ok (.iload 9, 2) := by decide +kernel
theorem dL_law_670 : decode cL_law 670 = .ok (.invokestatic 72, 3) := by decide +kernel
theorem dL_law_673 : decode cL_law 673 = .ok (.ifCond .ne 5, 3) := by decide +kernel
theorem dL_law_676 : decode cL_law 676 = .ok (.iconst 0, 1) := by decide +kernel
theorem dL_law_677 : decode cL_law 677 = .ok (.ireturn, 1) := by decide +kernel
theorem dL_law_678 : decode cL_law 678 = .ok (.iinc 5 1, 3) := by decide +kernel
theorem dL_law_681 : decode cL_law 681 = .ok (.goto (-629), 3) := by decide +kernel
theorem dL_law_684 : decode cL_law 684 = .ok (.iconst 1, 1) := by decide +kernel
theorem dL_law_685 : decode cL_law 685 = .ok (.ireturn, 1) := by decide +kernel
