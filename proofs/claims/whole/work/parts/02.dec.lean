theorem dX0_init_0 : decode cX0_init 0 = .ok (.aload_n 0, 1) := by decide +kernel
theorem dX0_init_1 : decode cX0_init 1 = .ok (.invokespecial 3, 3) := by decide +kernel
theorem dX0_init_4 : decode cX0_init 4 = .ok (.aload_n 0, 1) := by decide +kernel
theorem dX0_init_5 : decode cX0_init 5 = .ok (.bipush 50, 2) := by decide +kernel
theorem dX0_init_7 : decode cX0_init 7 = .ok (.newarray .int, 2) := by decide +kernel
theorem dX0_init_9 : decode cX0_init 9 = .ok (.putfield 9, 3) := by decide +kernel
theorem dX0_init_12 : decode cX0_init 12 = .ok (.aload_n 0, 1) := by decide +kernel
theorem dX0_init_13 : decode cX0_init 13 = .ok (.bipush 50, 2) := by decide +kernel
theorem dX0_init_15 : decode cX0_init 15 = .ok (.newarray .int, 2) := by decide +kernel
theorem dX0_init_17 : decode cX0_init 17 = .ok (.putfield 15, 3) := by decide +kernel
theorem dX0_init_20 : decode cX0_init 20 = .ok (.aload_n 0, 1) := by decide +kernel
theorem dX0_init_21 : decode cX0_init 21 = .ok (.iconst 4, 1) := by decide +kernel
theorem dX0_init_22 : decode cX0_init 22 = .ok (.bipush 50, 2) := by decide +kernel
theorem dX0_init_24 : decode cX0_init 24 = .ok (.multianewarray 18 2, 4) := by decide +kernel
theorem dX0_init_28 : decode cX0_init 28 = .ok (.putfield 20, 3) := by decide +kernel
theorem dX0_init_31 : decode cX0_init 31 = .ok (.aload_n 0, 1) := by decide +kernel
theorem dX0_init_32 : decode cX0_init 32 = .ok (.bipush 8, 2) := by decide +kernel
theorem dX0_init_34 : decode cX0_init 34 = .ok (.anewarray 23, 3) := by decide +kernel
theorem dX0_init_37 : decode cX0_init 37 = .ok (.putfield 25, 3) := by decide +kernel
theorem dX0_init_40 : decode cX0_init 40 = .ok (.aload_n 0, 1) := by decide +kernel
theorem dX0_init_41 : decode cX0_init 41 = .ok (.iload_n 1, 1) := by decide +kernel
theorem dX0_init_42 : decode cX0_init 42 = .ok (.putfield 29, 3) := by decide +kernel
theorem dX0_init_45 : decode cX0_init 45 = .ok (.aload_n 0, 1) := by decide +kernel
theorem dX0_init_46 : decode cX0_init 46 = .ok (.aload_n 2, 1) := by decide +kernel
theorem dX0_init_47 : decode cX0_init 47 = .ok (.putfield 33, 3) := by decide +kernel
theorem dX0_init_50 : decode cX0_init 50 = .ok (.aload_n 0, 1) := by decide +kernel
theorem dX0_init_51 : decode cX0_init 51 = .ok (.iload_n 3, 1) := by decide +kernel
theorem dX0_init_52 : decode cX0_init 52 = .ok (.putfield 37, 3) := by decide +kernel
theorem dX0_init_55 : decode cX0_init 55 = .ok (.iconst 0, 1) := by decide +kernel
theorem dX0_init_56 : decode cX0_init 56 = .ok (.istore 5, 2) := by decide +kernel
theorem dX0_init_58 : decode cX0_init 58 = .ok (.iload 5, 2) := by decide +kernel
theorem dX0_init_60 : decode cX0_init 60 = .ok (.bipush 50, 2) := by decide +kernel
theorem dX0_init_62 : decode cX0_init 62 = .ok (.if_icmp .ge 17, 3) := by decide +kernel
theorem dX0_init_65 : decode cX0_init 65 = .ok (.aload_n 0, 1) := by decide +kernel
theorem dX0_init_66 : decode cX0_init 66 = .ok (.getfield 9, 3) := by decide +kernel
theorem dX0_init_69 : decode cX0_init 69 = .ok (.iload 5, 2) := by decide +kernel
theorem dX0_init_71 : decode cX0_init 71 = .ok (.iconst (-1), 1) := by decide +kernel
theorem dX0_init_72 : decode cX0_init 72 = .ok (.iastore, 1) := by decide +kernel
theorem dX0_init_73 : decode cX0_init 73 = .ok (.iinc 5 1, 3) := by decide +kernel
theorem dX0_init_76 : decode cX0_init 76 = .ok (.goto (-18), 3) := by decide +kernel
theorem dX0_init_79 : decode cX0_init 79 = .ok (.new 23, 3) := by decide +kernel
theorem dX0_init_82 : decode cX0_init 82 = .ok (.dup, 1) := by decide +kernel
theorem dX0_init_83 : decode cX0_init 83 = .ok (.iload_n 1, 1) := by decide +kernel
theorem dX0_init_84 : decode cX0_init 84 = .ok (.iconst 0, 1) := by decide +kernel
theorem dX0_init_85 : decode cX0_init 85 = .ok (.bipush 8, 2) := by decide +kernel
theorem dX0_init_87 : decode cX0_init 87 = .ok (.iload 4, 2) := by decide +kernel
theorem dX0_init_89 : decode cX0_init 89 = .ok (.iconst 0, 1) := by decide +kernel
theorem dX0_init_90 : decode cX0_init 90 = .ok (.invokespecial 40, 3) := by decide +kernel
theorem dX0_init_93 : decode cX0_init 93 = .ok (.astore 5, 2) := by decide +kernel
theorem dX0_init_95 : decode cX0_init 95 = .ok (.iconst 0, 1) := by decide +kernel
theorem dX0_init_96 : decode cX0_init 96 = .ok (.istore 6, 2) := by decide +kernel
theorem dX0_init_98 : decode cX0_init 98 = .ok (.iload 6, 2) := by decide +kernel
theorem dX0_init_100 : decode cX0_init 100 = .ok (.bipush 8, 2) := by decide +kernel
theorem dX0_init_102 : decode cX0_init 102 = .ok (.if_icmp .ge 18, 3) := by decide +kernel
theorem dX0_init_105 : decode cX0_init 105 = .ok (.aload_n 0, 1) := by decide +kernel
theorem dX0_init_106 : decode cX0_init 106 = .ok (.getfield 25, 3) := by decide +kernel
theorem dX0_init_109 : decode cX0_init 109 = .ok (.iload 6, 2) := by decide +kernel
theorem dX0_init_111 : decode cX0_init 111 = .ok (.aload 5, 2) := by decide +kernel
theorem dX0_init_113 : decode cX0_init 113 = .ok (.aastore, 1) := by decide +kernel
theorem dX0_init_114 : decode cX0_init 114 = .ok (.iinc 6 1, 3) := by decide +kernel
theorem dX0_init_117 : decode cX0_init 117 = .ok (.goto (-19), 3) := by decide +kernel
theorem dX0_init_120 : decode cX0_init 120 = .ok (.return_, 1) := by decide +kernel
theorem dX0_isName_0 : decode cX0_isName 0 = .ok (.iload_n 0, 1) := by decide +kernel
theorem dX0_isName_1 : decode cX0_isName 1 = .ok (.ifCond .lt 13, 3) := by decide +kernel
theorem dX0_isName_4 : decode cX0_isName 4 = .ok (.iload_n 0, 1) := by decide +kernel
theorem dX0_isName_5 : decode cX0_isName 5 = .ok (.bipush 50, 2) := by decide +kernel
theorem dX0_isName_7 : decode cX0_isName 7 = .ok (.if_icmp .ge 7, 3) := by decide +kernel
theorem dX0_isName_10 : decode cX0_isName 10 = .ok (.iconst 1, 1) := by decide +kernel
theorem dX0_isName_11 : decode cX0_isName 11 = .ok (.goto 4, 3) := by decide +kernel
theorem dX0_isName_14 : decode cX0_isName 14 = .ok (.iconst 0, 1) := by decide +kernel
theorem dX0_isName_15 : decode cX0_isName 15 = .ok (.ireturn, 1) := by decide +kernel
theorem dX0_meaningOf_0 : decode cX0_meaningOf 0 = .ok (.iload_n 1, 1) := by decide +kernel
theorem dX0_meaningOf_1 : decode cX0_meaningOf 1 = .ok (.invokestatic 43, 3) := by decide +kernel
theorem dX0_meaningOf_4 : decode cX0_meaningOf 4 = .ok (.ifCond .eq 12, 3) := by decide +kernel
theorem dX0_meaningOf_7 : decode cX0_meaningOf 7 = .ok (.aload_n 0, 1) := by decide +kernel
theorem dX0_meaningOf_8 : decode cX0_meaningOf 8 = .ok (.getfield 9, 3) := by decide +kernel
theorem dX0_meaningOf_11 : decode cX0_meaningOf 11 = .ok (.iload_n 1, 1) := by decide +kernel
theorem dX0_meaningOf_12 : decode cX0_meaningOf 12 = .ok (.iaload, 1) := by decide +kernel
theorem dX0_meaningOf_13 : decode cX0_meaningOf 13 = .ok (.goto 4, 3) := by decide +kernel
theorem dX0_meaningOf_16 : decode cX0_meaningOf 16 = .ok (.iconst (-1), 1) := by decide +kernel
theorem dX0_meaningOf_17 : decode cX0_meaningOf 17 = .ok (.ireturn, 1) := by decide +kernel
theorem dX0_ageOf_0 : decode cX0_ageOf 0 = .ok (.iload_n 1, 1) := by decide +kernel
theorem dX0_ageOf_1 : decode cX0_ageOf 1 = .ok (.invokestatic 43, 3) := by decide +kernel
theorem dX0_ageOf_4 : decode cX0_ageOf 4 = .ok (.ifCond .eq 12, 3) := by decide +kernel
theorem dX0_ageOf_7 : decode cX0_ageOf 7 = .ok (.aload_n 0, 1) := by decide +kernel
theorem dX0_ageOf_8 : decode cX0_ageOf 8 = .ok (.getfield 15, 3) := by decide +kernel
theorem dX0_ageOf_11 : decode cX0_ageOf 11 = .ok (.iload_n 1, 1) := by decide +kernel
theorem dX0_ageOf_12 : decode cX0_ageOf 12 = .ok (.iaload, 1) := by decide +kernel
theorem dX0_ageOf_13 : decode cX0_ageOf 13 = .ok (.goto 4, 3) := by decide +kernel
theorem dX0_ageOf_16 : decode cX0_ageOf 16 = .ok (.iconst 0, 1) := by decide +kernel
theorem dX0_ageOf_17 : decode cX0_ageOf 17 = .ok (.ireturn, 1) := by decide +kernel
theorem dX0_setMeaning_0 : decode cX0_setMeaning 0 = .ok (.iload_n 1, 1) := by decide +kernel
theorem dX0_setMeaning_1 : decode cX0_setMeaning 1 = .ok (.invokestatic 43, 3) := by decide +kernel
theorem dX0_setMeaning_4 : decode cX0_setMeaning 4 = .ok (.ifCond .eq 17, 3) := by decide +kernel
theorem dX0_setMeaning_7 : decode cX0_setMeaning 7 = .ok (.aload_n 0, 1) := by decide +kernel
theorem dX0_setMeaning_8 : decode cX0_setMeaning 8 = .ok (.getfield 9, 3) := by decide +kernel
theorem dX0_setMeaning_11 : decode cX0_setMeaning 11 = .ok (.iload_n 1, 1) := by decide +kernel
theorem dX0_setMeaning_12 : decode cX0_setMeaning 12 = .ok (.iload_n 2, 1) := by decide +kernel
theorem dX0_setMeaning_13 : decode cX0_setMeaning 13 = .ok (.iastore, 1) := by decide +kernel
theorem dX0_setMeaning_14 : decode cX0_setMeaning 14 = .ok (.aload_n 0, 1) := by decide +kernel
theorem dX0_setMeaning_15 : decode cX0_setMeaning 15 = .ok (.getfield 15, 3) := by decide +kernel
theorem dX0_setMeaning_18 : decode cX0_setMeaning 18 = .ok (.iload_n 1, 1) := by decide +kernel
theorem dX0_setMeaning_19 : decode cX0_setMeaning 19 = .ok (.iload_n 3, 1) := by decide +kernel
theorem dX0_setMeaning_20 : decode cX0_setMeaning 20 = .ok (.iastore, 1) := by decide +kernel
theorem dX0_setMeaning_21 : decode cX0_setMeaning 21 = .ok (.return_, 1) := by decide +kernel
theorem dX0_countTaken_0 : decode cX0_countTaken 0 = .ok (.iconst 0, 1) := by decide +kernel
theorem dX0_countTaken_1 : decode cX0_countTaken 1 = .ok (.istore_n 1, 1) := by decide +kernel
theorem dX0_countTaken_2 : decode cX0_countTaken 2 = .ok (.iconst 0, 1) := by decide +kernel
theorem dX0_countTaken_3 : decode cX0_countTaken 3 = .ok (.istore_n 2, 1) := by decide +kernel
theorem dX0_countTaken_4 : decode cX0_countTaken 4 = .ok (.iload_n 2, 1) := by decide +kernel
theorem dX0_countTaken_5 : decode cX0_countTaken 5 = .ok (.bipush 50, 2) := by decide +kernel
theorem dX0_countTaken_7 : decode cX0_countTaken 7 = .ok (.if_icmp .ge 22, 3) := by decide +kernel
theorem dX0_countTaken_10 : decode cX0_countTaken 10 = .ok (.aload_n 0, 1) := by decide +kernel
theorem dX0_countTaken_11 : decode cX0_countTaken 11 = .ok (.getfield 9, 3) := by decide +kernel
theorem dX0_countTaken_14 : decode cX0_countTaken 14 = .ok (.iload_n 2, 1) := by decide +kernel
theorem dX0_countTaken_15 : decode cX0_countTaken 15 = .ok (.iaload, 1) := by decide +kernel
theorem dX0_countTaken_16 : decode cX0_countTaken 16 = .ok (.iconst (-1), 1) := by decide +kernel
theorem dX0_countTaken_17 : decode cX0_countTaken 17 = .ok (.if_icmp .eq 6, 3) := by decide +kernel
theorem dX0_countTaken_20 : decode cX0_countTaken 20 = .ok (.iinc 1 1, 3) := by decide +kernel
theorem dX0_countTaken_23 : decode cX0_countTaken 23 = .ok (.iinc 2 1, 3) := by decide +kernel
theorem dX0_countTaken_26 : decode cX0_countTaken 26 = .ok (.goto (-22), 3) := by decide +kernel
theorem dX0_countTaken_29 : decode cX0_countTaken 29 = .ok (.iload_n 1, 1) := by decide +kernel
theorem dX0_countTaken_30 : decode cX0_countTaken 30 = .ok (.ireturn, 1) := by decide +kernel
theorem dX0_countLinksTo_0 : decode cX0_countLinksTo 0 = .ok (.iconst 0, 1) := by decide +kernel
theorem dX0_countLinksTo_1 : decode cX0_countLinksTo 1 = .ok (.istore_n 2, 1) := by decide +kernel
theorem dX0_countLinksTo_2 : decode cX0_countLinksTo 2 = .ok (.iconst 0, 1) := by decide +kernel
theorem dX0_countLinksTo_3 : decode cX0_countLinksTo 3 = .ok (.istore_n 3, 1) := by decide +kernel
theorem dX0_countLinksTo_4 : decode cX0_countLinksTo 4 = .ok (.iload_n 3, 1) := by decide +kernel
theorem dX0_countLinksTo_5 : decode cX0_countLinksTo 5 = .ok (.bipush 50, 2) := by decide +kernel
theorem dX0_countLinksTo_7 : decode cX0_countLinksTo 7 = .ok (.if_icmp .ge 22, 3) := by decide +kernel
theorem dX0_countLinksTo_10 : decode cX0_countLinksTo 10 = .ok (.aload_n 0, 1) := by decide +kernel
theorem dX0_countLinksTo_11 : decode cX0_countLinksTo 11 = .ok (.getfield 9, 3) := by decide +kernel
theorem dX0_countLinksTo_14 : decode cX0_countLinksTo 14 = .ok (.iload_n 3, 1) := by decide +kernel
theorem dX0_countLinksTo_15 : decode cX0_countLinksTo 15 = .ok (.iaload, 1) := by decide +kernel
theorem dX0_countLinksTo_16 : decode cX0_countLinksTo 16 = .ok (.iload_n 1, 1) := by decide +kernel
theorem dX0_countLinksTo_17 : decode cX0_countLinksTo 17 = .ok (.if_icmp .ne 6, 3) := by decide +kernel
theorem dX0_countLinksTo_20 : decode cX0_countLinksTo 20 = .ok (.iinc 2 1, 3) := by decide +kernel
theorem dX0_countLinksTo_23 : decode cX0_countLinksTo 23 = .ok (.iinc 3 1, 3) := by decide +kernel
theorem dX0_countLinksTo_26 : decode cX0_countLinksTo 26 = .ok (.goto (-22), 3) := by decide +kernel
theorem dX0_countLinksTo_29 : decode cX0_countLinksTo 29 = .ok (.iload_n 2, 1) := by decide +kernel
theorem dX0_countLinksTo_30 : decode cX0_countLinksTo 30 = .ok (.ireturn, 1) := by decide +kernel
theorem dX0_oldestLink_0 : decode cX0_oldestLink 0 = .ok (.bipush 50, 2) := by decide +kernel
theorem dX0_oldestLink_2 : decode cX0_oldestLink 2 = .ok (.istore_n 2, 1) := by decide +kernel
theorem dX0_oldestLink_3 : decode cX0_oldestLink 3 = .ok (.iconst 0, 1) := by decide +kernel
theorem dX0_oldestLink_4 : decode cX0_oldestLink 4 = .ok (.istore_n 3, 1) := by decide +kernel
theorem dX0_oldestLink_5 : decode cX0_oldestLink 5 = .ok (.iload_n 3, 1) := by decide +kernel
theorem dX0_oldestLink_6 : decode cX0_oldestLink 6 = .ok (.bipush 50, 2) := by decide +kernel
theorem dX0_oldestLink_8 : decode cX0_oldestLink 8 = .ok (.if_icmp .ge 42, 3) := by decide +kernel
theorem dX0_oldestLink_11 : decode cX0_oldestLink 11 = .ok (.aload_n 0, 1) := by decide +kernel
theorem dX0_oldestLink_12 : decode cX0_oldestLink 12 = .ok (.getfield 9, 3) := by decide +kernel
theorem dX0_oldestLink_15 : decode cX0_oldestLink 15 = .ok (.iload_n 3, 1) := by decide +kernel
theorem dX0_oldestLink_16 : decode cX0_oldestLink 16 = .ok (.iaload, 1) := by decide +kernel
theorem dX0_oldestLink_17 : decode cX0_oldestLink 17 = .ok (.iload_n 1, 1) := by decide +kernel
theorem dX0_oldestLink_18 : decode cX0_oldestLink 18 = .ok (.if_icmp .ne 26, 3) := by decide +kernel
theorem dX0_oldestLink_21 : decode cX0_oldestLink 21 = .ok (.iload_n 2, 1) := by decide +kernel
theorem dX0_oldestLink_22 : decode cX0_oldestLink 22 = .ok (.bipush 50, 2) := by decide +kernel
theorem dX0_oldestLink_24 : decode cX0_oldestLink 24 = .ok (.if_icmp .eq 18, 3) := by decide +kernel
theorem dX0_oldestLink_27 : decode cX0_oldestLink 27 = .ok (.aload_n 0, 1) := by decide +kernel
theorem dX0_oldestLink_28 : decode cX0_oldestLink 28 = .ok (.getfield 15, 3) := by decide +kernel
theorem dX0_oldestLink_31 : decode cX0_oldestLink 31 = .ok (.iload_n 3, 1) := by decide +kernel
theorem dX0_oldestLink_32 : decode cX0_oldestLink 32 = .ok (.iaload, 1) := by decide +kernel
theorem dX0_oldestLink_33 : decode cX0_oldestLink 33 = .ok (.aload_n 0, 1) := by decide +kernel
theorem dX0_oldestLink_34 : decode cX0_oldestLink 34 = .ok (.getfield 15, 3) := by decide +kernel
theorem dX0_oldestLink_37 : decode cX0_oldestLink 37 = .ok (.iload_n 2, 1) := by decide +kernel
theorem dX0_oldestLink_38 : decode cX0_oldestLink 38 = .ok (.iaload, 1) := by decide +kernel
theorem dX0_oldestLink_39 : decode cX0_oldestLink 39 = .ok (.if_icmp .ge 5, 3) := by decide +kernel
theorem dX0_oldestLink_42 : decode cX0_oldestLink 42 = .ok (.iload_n 3, 1) := by decide +kernel
theorem dX0_oldestLink_43 : decode cX0_oldestLink 43 = .ok (.istore_n 2, 1) := by decide +kernel
theorem dX0_oldestLink_44 : decode cX0_oldestLink 44 = .ok (.iinc 3 1, 3) := by decide +kernel
theorem dX0_oldestLink_47 : decode cX0_oldestLink 47 = .ok (.goto (-42), 3) := by decide +kernel
theorem dX0_oldestLink_50 : decode cX0_oldestLink 50 = .ok (.iload_n 2, 1) := by decide +kernel
theorem dX0_oldestLink_51 : decode cX0_oldestLink 51 = .ok (.ireturn, 1) := by decide +kernel
theorem dX0_isWithin_0 : decode cX0_isWithin 0 = .ok (.aload_n 0, 1) := by decide +kernel
theorem dX0_isWithin_1 : decode cX0_isWithin 1 = .ok (.astore_n 2, 1) := by decide +kernel
theorem dX0_isWithin_2 : decode cX0_isWithin 2 = .ok (.iconst 0, 1) := by decide +kernel
theorem dX0_isWithin_3 : decode cX0_isWithin 3 = .ok (.istore_n 3, 1) := by decide +kernel
theorem dX0_isWithin_4 : decode cX0_isWithin 4 = .ok (.aload_n 2, 1) := by decide +kernel
theorem dX0_isWithin_5 : decode cX0_isWithin 5 = .ok (.ifnull 27, 3) := by decide +kernel
theorem dX0_isWithin_8 : decode cX0_isWithin 8 = .ok (.iload_n 3, 1) := by decide +kernel
theorem dX0_isWithin_9 : decode cX0_isWithin 9 = .ok (.bipush 12, 2) := by decide +kernel
theorem dX0_isWithin_11 : decode cX0_isWithin 11 = .ok (.if_icmp .ge 21, 3) := by decide +kernel
theorem dX0_isWithin_14 : decode cX0_isWithin 14 = .ok (.aload_n 2, 1) := by decide +kernel
theorem dX0_isWithin_15 : decode cX0_isWithin 15 = .ok (.aload_n 1, 1) := by decide +kernel
theorem dX0_isWithin_16 : decode cX0_isWithin 16 = .ok (.if_acmp .ne 5, 3) := by decide +kernel
theorem dX0_isWithin_19 : decode cX0_isWithin 19 = .ok (.iconst 1, 1) := by decide +kernel
theorem dX0_isWithin_20 : decode cX0_isWithin 20 = .ok (.ireturn, 1) := by decide +kernel
theorem dX0_isWithin_21 : decode cX0_isWithin 21 = .ok (.aload_n 2, 1) := by decide +kernel
theorem dX0_isWithin_22 : decode cX0_isWithin 22 = .ok (.getfield 33, 3) := by decide +kernel
theorem dX0_isWithin_25 : decode cX0_isWithin 25 = .ok (.astore_n 2, 1) := by decide +kernel
theorem dX0_isWithin_26 : decode cX0_isWithin 26 = .ok (.iinc 3 1, 3) := by decide +kernel
theorem dX0_isWithin_29 : decode cX0_isWithin 29 = .ok (.goto (-25), 3) := by decide +kernel
theorem dX0_isWithin_32 : decode cX0_isWithin 32 = .ok (.iconst 0, 1) := by decide +kernel
theorem dX0_isWithin_33 : decode cX0_isWithin 33 = .ok (.ireturn, 1) := by decide +kernel
theorem dX0_isClient_0 : decode cX0_isClient 0 = .ok (.iload_n 0, 1) := by decide +kernel
theorem dX0_isClient_1 : decode cX0_isClient 1 = .ok (.ifCond .lt 12, 3) := by decide +kernel
theorem dX0_isClient_4 : decode cX0_isClient 4 = .ok (.iload_n 0, 1) := by decide +kernel
theorem dX0_isClient_5 : decode cX0_isClient 5 = .ok (.iconst 4, 1) := by decide +kernel
theorem dX0_isClient_6 : decode cX0_isClient 6 = .ok (.if_icmp .ge 7, 3) := by decide +kernel
theorem dX0_isClient_9 : decode cX0_isClient 9 = .ok (.iconst 1, 1) := by decide +kernel
theorem dX0_isClient_10 : decode cX0_isClient 10 = .ok (.goto 4, 3) := by decide +kernel
theorem dX0_isClient_13 : decode cX0_isClient 13 = .ok (.iconst 0, 1) := by decide +kernel
theorem dX0_isClient_14 : decode cX0_isClient 14 = .ok (.ireturn, 1) := by decide +kernel
theorem dX0_leaseRuns_0 : decode cX0_leaseRuns 0 = .ok (.iload_n 1, 1) := by decide +kernel
theorem dX0_leaseRuns_1 : decode cX0_leaseRuns 1 = .ok (.invokestatic 47, 3) := by decide +kernel
theorem dX0_leaseRuns_4 : decode cX0_leaseRuns 4 = .ok (.ifCond .eq 26, 3) := by decide +kernel
theorem dX0_leaseRuns_7 : decode cX0_leaseRuns 7 = .ok (.iload_n 2, 1) := by decide +kernel
theorem dX0_leaseRuns_8 : decode cX0_leaseRuns 8 = .ok (.invokestatic 43, 3) := by decide +kernel
theorem dX0_leaseRuns_11 : decode cX0_leaseRuns 11 = .ok (.ifCond .eq 19, 3) := by decide +kernel
theorem dX0_leaseRuns_14 : decode cX0_leaseRuns 14 = .ok (.aload_n 0, 1) := by decide +kernel
theorem dX0_leaseRuns_15 : decode cX0_leaseRuns 15 = .ok (.getfield 20, 3) := by decide +kernel
theorem dX0_leaseRuns_18 : decode cX0_leaseRuns 18 = .ok (.iload_n 1, 1) := by decide +kernel
theorem dX0_leaseRuns_19 : decode cX0_leaseRuns 19 = .ok (.aaload, 1) := by decide +kernel
theorem dX0_leaseRuns_20 : decode cX0_leaseRuns 20 = .ok (.iload_n 2, 1) := by decide +kernel
theorem dX0_leaseRuns_21 : decode cX0_leaseRuns 21 = .ok (.iaload, 1) := by decide +kernel
theorem dX0_leaseRuns_22 : decode cX0_leaseRuns 22 = .ok (.iload_n 3, 1) := by decide +kernel
theorem dX0_leaseRuns_23 : decode cX0_leaseRuns 23 = .ok (.if_icmp .le 7, 3) := by decide +kernel
theorem dX0_leaseRuns_26 : decode cX0_leaseRuns 26 = .ok (.iconst 1, 1) := by decide +kernel
theorem dX0_leaseRuns_27 : decode cX0_leaseRuns 27 = .ok (.goto 4, 3) := by decide +kernel
theorem dX0_leaseRuns_30 : decode cX0_leaseRuns 30 = .ok (.iconst 0, 1) := by decide +kernel
theorem dX0_leaseRuns_31 : decode cX0_leaseRuns 31 = .ok (.ireturn, 1) := by decide +kernel
theorem dX0_setLeaseEnd_0 : decode cX0_setLeaseEnd 0 = .ok (.iload_n 1, 1) := by decide +kernel
theorem dX0_setLeaseEnd_1 : decode cX0_setLeaseEnd 1 = .ok (.invokestatic 47, 3) := by decide +kernel
theorem dX0_setLeaseEnd_4 : decode cX0_setLeaseEnd 4 = .ok (.ifCond .eq 19, 3) := by decide +kernel
theorem dX0_setLeaseEnd_7 : decode cX0_setLeaseEnd 7 = .ok (.iload_n 2, 1) := by decide +kernel
theorem dX0_setLeaseEnd_8 : decode cX0_setLeaseEnd 8 = .ok (.invokestatic 43, 3) := by decide +kernel
theorem dX0_setLeaseEnd_11 : decode cX0_setLeaseEnd 11 = .ok (.ifCond .eq 12, 3) := by decide +kernel
theorem dX0_setLeaseEnd_14 : decode cX0_setLeaseEnd 14 = .ok (.aload_n 0, 1) := by decide +kernel
theorem dX0_setLeaseEnd_15 : decode cX0_setLeaseEnd 15 = .ok (.getfield 20, 3) := by decide +kernel
theorem dX0_setLeaseEnd_18 : decode cX0_setLeaseEnd 18 = .ok (.iload_n 1, 1) := by decide +kernel
theorem dX0_setLeaseEnd_19 : decode cX0_setLeaseEnd 19 = .ok (.aaload, 1) := by decide +kernel
theorem dX0_setLeaseEnd_20 : decode cX0_setLeaseEnd 20 = .ok (.iload_n 2, 1) := by decide +kernel
theorem dX0_setLeaseEnd_21 : decode cX0_setLeaseEnd 21 = .ok (.iload_n 3, 1) := by decide +kernel
theorem dX0_setLeaseEnd_22 : decode cX0_setLeaseEnd 22 = .ok (.iastore, 1) := by decide +kernel
theorem dX0_setLeaseEnd_23 : decode cX0_setLeaseEnd 23 = .ok (.return_, 1) := by decide +kernel
theorem dX0_countLeases_0 : decode cX0_countLeases 0 = .ok (.iconst 0, 1) := by decide +kernel
theorem dX0_countLeases_1 : decode cX0_countLeases 1 = .ok (.istore_n 3, 1) := by decide +kernel
theorem dX0_countLeases_2 : decode cX0_countLeases 2 = .ok (.iconst 0, 1) := by decide +kernel
theorem dX0_countLeases_3 : decode cX0_countLeases 3 = .ok (.istore 4, 2) := by decide +kernel
theorem dX0_countLeases_5 : decode cX0_countLeases 5 = .ok (.iload 4, 2) := by decide +kernel
theorem dX0_countLeases_7 : decode cX0_countLeases 7 = .ok (.bipush 50, 2) := by decide +kernel
theorem dX0_countLeases_9 : decode cX0_countLeases 9 = .ok (.if_icmp .ge 23, 3) := by decide +kernel
theorem dX0_countLeases_12 : decode cX0_countLeases 12 = .ok (.aload_n 0, 1) := by decide +kernel
theorem dX0_countLeases_13 : decode cX0_countLeases 13 = .ok (.iload_n 1, 1) := by decide +kernel
theorem dX0_countLeases_14 : decode cX0_countLeases 14 = .ok (.iload 4, 2) := by decide +kernel
theorem dX0_countLeases_16 : decode cX0_countLeases 16 = .ok (.iload_n 2, 1) := by decide +kernel
theorem dX0_countLeases_17 : decode cX0_countLeases 17 = .ok (.invokevirtual 50, 3) := by decide +kernel
theorem dX0_countLeases_20 : decode cX0_countLeases 20 = .ok (.ifCond .eq 6, 3) := by decide +kernel
theorem dX0_countLeases_23 : decode cX0_countLeases 23 = .ok (.iinc 3 1, 3) := by decide +kernel
theorem dX0_countLeases_26 : decode cX0_countLeases 26 = .ok (.iinc 4 1, 3) := by decide +kernel
theorem dX0_countLeases_29 : decode cX0_countLeases 29 = .ok (.goto (-24), 3) := by decide +kernel
theorem dX0_countLeases_32 : decode cX0_countLeases 32 = .ok (.iload_n 3, 1) := by decide +kernel
theorem dX0_countLeases_33 : decode cX0_countLeases 33 = .ok (.ireturn, 1) := by decide +kernel
theorem dX0_fragmentAt_0 : decode cX0_fragmentAt 0 = .ok (.aload_n 0, 1) := by decide +kernel
theorem dX0_fragmentAt_1 : decode cX0_fragmentAt 1 = .ok (.getfield 25, 3) := by decide +kernel
theorem dX0_fragmentAt_4 : decode cX0_fragmentAt 4 = .ok (.iload_n 1, 1) := by decide +kernel
theorem dX0_fragmentAt_5 : decode cX0_fragmentAt 5 = .ok (.bipush 7, 2) := by decide +kernel
theorem dX0_fragmentAt_7 : decode cX0_fragmentAt 7 = .ok (.iand, 1) := by decide +kernel
theorem dX0_fragmentAt_8 : decode cX0_fragmentAt 8 = .ok (.aaload, 1) := by decide +kernel
theorem dX0_fragmentAt_9 : decode cX0_fragmentAt 9 = .ok (.areturn, 1) := by decide +kernel
theorem dX0_fragmentOfName_0 : decode cX0_fragmentOfName 0 = .ok (.aload_n 0, 1) := by decide +kernel
theorem dX0_fragmentOfName_1 : decode cX0_fragmentOfName 1 = .ok (.iconst 5, 1) := by decide +kernel
theorem dX0_fragmentOfName_2 : decode cX0_fragmentOfName 2 = .ok (.iload_n 1, 1) := by decide +kernel
theorem dX0_fragmentOfName_3 : decode cX0_fragmentOfName 3 = .ok (.imul, 1) := by decide +kernel
theorem dX0_fragmentOfName_4 : decode cX0_fragmentOfName 4 = .ok (.iconst 3, 1) := by decide +kernel
theorem dX0_fragmentOfName_5 : decode cX0_fragmentOfName 5 = .ok (.iadd, 1) := by decide +kernel
theorem dX0_fragmentOfName_6 : decode cX0_fragmentOfName 6 = .ok (.invokevirtual 54, 3) := by decide +kernel
theorem dX0_fragmentOfName_9 : decode cX0_fragmentOfName 9 = .ok (.areturn, 1) := by decide +kernel
theorem dX0_fragmentBeginningAt_0 : decode cX0_fragmentBeginningAt 0 = .ok (.aload_n 0, 1) := by decide +kernel
theorem dX0_fragmentBeginningAt_1 : decode cX0_fragmentBeginningAt 1 = .ok (.iload_n 1, 1) := by decide +kernel
theorem dX0_fragmentBeginningAt_2 : decode cX0_fragmentBeginningAt 2 = .ok (.invokevirtual 54, 3) := by decide +kernel
theorem dX0_fragmentBeginningAt_5 : decode cX0_fragmentBeginningAt 5 = .ok (.astore_n 2, 1) := by decide +kernel
theorem dX0_fragmentBeginningAt_6 : decode cX0_fragmentBeginningAt 6 = .ok (.aload_n 2, 1) := by decide +kernel
theorem dX0_fragmentBeginningAt_7 : decode cX0_fragmentBeginningAt 7 = .ok (.getfield 58, 3) := by decide +kernel
theorem dX0_fragmentBeginningAt_10 : decode cX0_fragmentBeginningAt 10 = .ok (.iload_n 1, 1) := by decide +kernel
theorem dX0_fragmentBeginningAt_11 : decode cX0_fragmentBeginningAt 11 = .ok (.if_icmp .ne 7, 3) := by decide +kernel
theorem dX0_fragmentBeginningAt_14 : decode cX0_fragmentBeginningAt 14 = .ok (.aload_n 2, 1) := by decide +kernel
theorem dX0_fragmentBeginningAt_15 : decode cX0_fragmentBeginningAt 15 = .ok (.goto 4, 3) := by decide +kernel
theorem dX0_fragmentBeginningAt_18 : decode cX0_fragmentBeginningAt 18 = .ok (.aconst_null, 1) := by decide +kernel
theorem dX0_fragmentBeginningAt_19 : decode cX0_fragmentBeginningAt 19 = .ok (.areturn, 1) := by decide +kernel
theorem dX0_countFragments_0 : decode cX0_countFragments 0 = .ok (.iconst 0, 1) := by decide +kernel
theorem dX0_countFragments_1 : decode cX0_countFragments 1 = .ok (.istore_n 1, 1) := by decide +kernel
theorem dX0_countFragments_2 : decode cX0_countFragments 2 = .ok (.iconst 0, 1) := by decide +kernel
theorem dX0_countFragments_3 : decode cX0_countFragments 3 = .ok (.istore_n 2, 1) := by decide +kernel
theorem dX0_countFragments_4 : decode cX0_countFragments 4 = .ok (.iload_n 2, 1) := by decide +kernel
theorem dX0_countFragments_5 : decode cX0_countFragments 5 = .ok (.bipush 8, 2) := by decide +kernel
theorem dX0_countFragments_7 : decode cX0_countFragments 7 = .ok (.if_icmp .ge 20, 3) := by decide +kernel
theorem dX0_countFragments_10 : decode cX0_countFragments 10 = .ok (.aload_n 0, 1) := by decide +kernel
theorem dX0_countFragments_11 : decode cX0_countFragments 11 = .ok (.iload_n 2, 1) := by decide +kernel
theorem dX0_countFragments_12 : decode cX0_countFragments 12 = .ok (.invokevirtual 61, 3) := by decide +kernel
theorem dX0_countFragments_15 : decode cX0_countFragments 15 = .ok (.ifnull 6, 3) := by decide +kernel
theorem dX0_countFragments_18 : decode cX0_countFragments 18 = .ok (.iinc 1 1, 3) := by decide +kernel
theorem dX0_countFragments_21 : decode cX0_countFragments 21 = .ok (.iinc 2 1, 3) := by decide +kernel
theorem dX0_countFragments_24 : decode cX0_countFragments 24 = .ok (.goto (-20), 3) := by decide +kernel
theorem dX0_countFragments_27 : decode cX0_countFragments 27 = .ok (.iload_n 1, 1) := by decide +kernel
theorem dX0_countFragments_28 : decode cX0_countFragments 28 = .ok (.ireturn, 1) := by decide +kernel
theorem dX0_halve_0 : decode cX0_halve 0 = .ok (.aload_n 1, 1) := by decide +kernel
theorem dX0_halve_1 : decode cX0_halve 1 = .ok (.getfield 64, 3) := by decide +kernel
theorem dX0_halve_4 : decode cX0_halve 4 = .ok (.iconst 2, 1) := by decide +kernel
theorem dX0_halve_5 : decode cX0_halve 5 = .ok (.idiv, 1) := by decide +kernel
theorem dX0_halve_6 : decode cX0_halve 6 = .ok (.istore_n 2, 1) := by decide +kernel
theorem dX0_halve_7 : decode cX0_halve 7 = .ok (.aload_n 1, 1) := by decide +kernel
theorem dX0_halve_8 : decode cX0_halve 8 = .ok (.getfield 67, 3) := by decide +kernel
theorem dX0_halve_11 : decode cX0_halve 11 = .ok (.iconst 2, 1) := by decide +kernel
theorem dX0_halve_12 : decode cX0_halve 12 = .ok (.idiv, 1) := by decide +kernel
theorem dX0_halve_13 : decode cX0_halve 13 = .ok (.istore_n 3, 1) := by decide +kernel
theorem dX0_halve_14 : decode cX0_halve 14 = .ok (.new 23, 3) := by decide +kernel
theorem dX0_halve_17 : decode cX0_halve 17 = .ok (.dup, 1) := by decide +kernel
theorem dX0_halve_18 : decode cX0_halve 18 = .ok (.aload_n 0, 1) := by decide +kernel
theorem dX0_halve_19 : decode cX0_halve 19 = .ok (.getfield 29, 3) := by decide +kernel
theorem dX0_halve_22 : decode cX0_halve 22 = .ok (.aload_n 1, 1) := by decide +kernel
theorem dX0_halve_23 : decode cX0_halve 23 = .ok (.getfield 58, 3) := by decide +kernel
theorem dX0_halve_26 : decode cX0_halve 26 = .ok (.iload_n 2, 1) := by decide +kernel
theorem dX0_halve_27 : decode cX0_halve 27 = .ok (.iadd, 1) := by decide +kernel
theorem dX0_halve_28 : decode cX0_halve 28 = .ok (.iload_n 2, 1) := by decide +kernel
theorem dX0_halve_29 : decode cX0_halve 29 = .ok (.aload_n 1, 1) := by decide +kernel
theorem dX0_halve_30 : decode cX0_halve 30 = .ok (.getfield 70, 3) := by decide +kernel
theorem dX0_halve_33 : decode cX0_halve 33 = .ok (.iload_n 3, 1) := by decide +kernel
theorem dX0_halve_34 : decode cX0_halve 34 = .ok (.invokespecial 40, 3) := by decide +kernel
theorem dX0_halve_37 : decode cX0_halve 37 = .ok (.astore 4, 2) := by decide +kernel
theorem dX0_halve_39 : decode cX0_halve 39 = .ok (.aload_n 1, 1) := by decide +kernel
theorem dX0_halve_40 : decode cX0_halve 40 = .ok (.iload_n 2, 1) := by decide +kernel
theorem dX0_halve_41 : decode cX0_halve 41 = .ok (.putfield 64, 3) := by decide +kernel
theorem dX0_halve_44 : decode cX0_halve 44 = .ok (.aload_n 1, 1) := by decide +kernel
theorem dX0_halve_45 : decode cX0_halve 45 = .ok (.dup, 1) := by decide +kernel
theorem dX0_halve_46 : decode cX0_halve 46 = .ok (.getfield 67, 3) := by decide +kernel
theorem dX0_halve_49 : decode cX0_halve 49 = .ok (.iload_n 3, 1) := by decide +kernel
theorem dX0_halve_50 : decode cX0_halve 50 = .ok (.isub, 1) := by decide +kernel
theorem dX0_halve_51 : decode cX0_halve 51 = .ok (.putfield 67, 3) := by decide +kernel
theorem dX0_halve_54 : decode cX0_halve 54 = .ok (.aload_n 0, 1) := by decide +kernel
theorem dX0_halve_55 : decode cX0_halve 55 = .ok (.aload 4, 2) := by decide +kernel
theorem dX0_halve_57 : decode cX0_halve 57 = .ok (.invokevirtual 73, 3) := by decide +kernel
theorem dX0_halve_60 : decode cX0_halve 60 = .ok (.return_, 1) := by decide +kernel
theorem dX0_join_0 : decode cX0_join 0 = .ok (.aload_n 1, 1) := by decide +kernel
theorem dX0_join_1 : decode cX0_join 1 = .ok (.dup, 1) := by decide +kernel
theorem dX0_join_2 : decode cX0_join 2 = .ok (.getfield 64, 3) := by decide +kernel
theorem dX0_join_5 : decode cX0_join 5 = .ok (.aload_n 2, 1) := by decide +kernel
theorem dX0_join_6 : decode cX0_join 6 = .ok (.getfield 64, 3) := by decide +kernel
theorem dX0_join_9 : decode cX0_join 9 = .ok (.iadd, 1) := by decide +kernel
theorem dX0_join_10 : decode cX0_join 10 = .ok (.putfield 64, 3) := by decide +kernel
theorem dX0_join_13 : decode cX0_join 13 = .ok (.aload_n 1, 1) := by decide +kernel
theorem dX0_join_14 : decode cX0_join 14 = .ok (.dup, 1) := by decide +kernel
theorem dX0_join_15 : decode cX0_join 15 = .ok (.getfield 67, 3) := by decide +kernel
theorem dX0_join_18 : decode cX0_join 18 = .ok (.aload_n 2, 1) := by decide +kernel
theorem dX0_join_19 : decode cX0_join 19 = .ok (.getfield 67, 3) := by decide +kernel
theorem dX0_join_22 : decode cX0_join 22 = .ok (.iadd, 1) := by decide +kernel
theorem dX0_join_23 : decode cX0_join 23 = .ok (.putfield 67, 3) := by decide +kernel
theorem dX0_join_26 : decode cX0_join 26 = .ok (.aload_n 0, 1) := by decide +kernel
theorem dX0_join_27 : decode cX0_join 27 = .ok (.aload_n 1, 1) := by decide +kernel
theorem dX0_join_28 : decode cX0_join 28 = .ok (.invokevirtual 73, 3) := by decide +kernel
theorem dX0_join_31 : decode cX0_join 31 = .ok (.return_, 1) := by decide +kernel
theorem dX0_putByHash_0 : decode cX0_putByHash 0 = .ok (.iconst 0, 1) := by decide +kernel
theorem dX0_putByHash_1 : decode cX0_putByHash 1 = .ok (.istore_n 2, 1) := by decide +kernel
theorem dX0_putByHash_2 : decode cX0_putByHash 2 = .ok (.iload_n 2, 1) := by decide +kernel
theorem dX0_putByHash_3 : decode cX0_putByHash 3 = .ok (.bipush 8, 2) := by decide +kernel
theorem dX0_putByHash_5 : decode cX0_putByHash 5 = .ok (.if_icmp .ge 37, 3) := by decide +kernel
theorem dX0_putByHash_8 : decode cX0_putByHash 8 = .ok (.iload_n 2, 1) := by decide +kernel
theorem dX0_putByHash_9 : decode cX0_putByHash 9 = .ok (.aload_n 1, 1) := by decide +kernel
theorem dX0_putByHash_10 : decode cX0_putByHash 10 = .ok (.getfield 58, 3) := by decide +kernel
theorem dX0_putByHash_13 : decode cX0_putByHash 13 = .ok (.if_icmp .lt 23, 3) := by decide +kernel
theorem dX0_putByHash_16 : decode cX0_putByHash 16 = .ok (.iload_n 2, 1) := by decide +kernel
theorem dX0_putByHash_17 : decode cX0_putByHash 17 = .ok (.aload_n 1, 1) := by decide +kernel
theorem dX0_putByHash_18 : decode cX0_putByHash 18 = .ok (.getfield 58, 3) := by decide +kernel
theorem dX0_putByHash_21 : decode cX0_putByHash 21 = .ok (.aload_n 1, 1) := by decide +kernel
theorem dX0_putByHash_22 : decode cX0_putByHash 22 = .ok (.getfield 64, 3) := by decide +kernel
theorem dX0_putByHash_25 : decode cX0_putByHash 25 = .ok (.iadd, 1) := by decide +kernel
theorem dX0_putByHash_26 : decode cX0_putByHash 26 = .ok (.if_icmp .ge 10, 3) := by decide +kernel
theorem dX0_putByHash_29 : decode cX0_putByHash 29 = .ok (.aload_n 0, 1) := by decide +kernel
theorem dX0_putByHash_30 : decode cX0_putByHash 30 = .ok (.getfield 25, 3) := by decide +kernel
theorem dX0_putByHash_33 : decode cX0_putByHash 33 = .ok (.iload_n 2, 1) := by decide +kernel
theorem dX0_putByHash_34 : decode cX0_putByHash 34 = .ok (.aload_n 1, 1) := by decide +kernel
theorem dX0_putByHash_35 : decode cX0_putByHash 35 = .ok (.aastore, 1) := by decide +kernel
theorem dX0_putByHash_36 : decode cX0_putByHash 36 = .ok (.iinc 2 1, 3) := by decide +kernel
theorem dX0_putByHash_39 : decode cX0_putByHash 39 = .ok (.goto (-37), 3) := by decide +kernel
theorem dX0_putByHash_42 : decode cX0_putByHash 42 = .ok (.return_, 1) := by decide +kernel
theorem dX1_init_0 : decode cX1_init 0 = .ok (.aload_n 0, 1) := by decide +kernel
theorem dX1_init_1 : decode cX1_init 1 = .ok (.invokespecial 1, 3) := by decide +kernel
theorem dX1_init_4 : decode cX1_init 4 = .ok (.aload_n 0, 1) := by decide +kernel
theorem dX1_init_5 : decode cX1_init 5 = .ok (.iload_n 1, 1) := by decide +kernel
theorem dX1_init_6 : decode cX1_init 6 = .ok (.putfield 7, 3) := by decide +kernel
theorem dX1_init_9 : decode cX1_init 9 = .ok (.aload_n 0, 1) := by decide +kernel
theorem dX1_init_10 : decode cX1_init 10 = .ok (.iload_n 2, 1) := by decide +kernel
theorem dX1_init_11 : decode cX1_init 11 = .ok (.putfield 13, 3) := by decide +kernel
theorem dX1_init_14 : decode cX1_init 14 = .ok (.aload_n 0, 1) := by decide +kernel
theorem dX1_init_15 : decode cX1_init 15 = .ok (.iload_n 3, 1) := by decide +kernel
theorem dX1_init_16 : decode cX1_init 16 = .ok (.putfield 16, 3) := by decide +kernel
theorem dX1_init_19 : decode cX1_init 19 = .ok (.aload_n 0, 1) := by decide +kernel
theorem dX1_init_20 : decode cX1_init 20 = .ok (.iload 4, 2) := by decide +kernel
theorem dX1_init_22 : decode cX1_init 22 = .ok (.putfield 19, 3) := by decide +kernel
theorem dX1_init_25 : decode cX1_init 25 = .ok (.aload_n 0, 1) := by decide +kernel
theorem dX1_init_26 : decode cX1_init 26 = .ok (.iload 5, 2) := by decide +kernel
theorem dX1_init_28 : decode cX1_init 28 = .ok (.putfield 22, 3) := by decide +kernel
theorem dX1_init_31 : decode cX1_init 31 = .ok (.return_, 1) := by decide +kernel
theorem dX2_init_0 : decode cX2_init 0 = .ok (.aload_n 0, 1) := by decide +kernel
theorem dX2_init_1 : decode cX2_init 1 = .ok (.invokespecial 1, 3) := by decide +kernel
theorem dX2_init_4 : decode cX2_init 4 = .ok (.aload_n 0, 1) := by decide +kernel
theorem dX2_init_5 : decode cX2_init 5 = .ok (.bipush 12, 2) := by decide +kernel
theorem dX2_init_7 : decode cX2_init 7 = .ok (.anewarray 9, 3) := by decide +kernel
theorem dX2_init_10 : decode cX2_init 10 = .ok (.putfield 11, 3) := by decide +kernel
theorem dX2_init_13 : decode cX2_init 13 = .ok (.aload_n 0, 1) := by decide +kernel
theorem dX2_init_14 : decode cX2_init 14 = .ok (.iconst 4, 1) := by decide +kernel
theorem dX2_init_15 : decode cX2_init 15 = .ok (.newarray .int, 2) := by decide +kernel
theorem dX2_init_17 : decode cX2_init 17 = .ok (.putfield 15, 3) := by decide +kernel
theorem dX2_init_20 : decode cX2_init 20 = .ok (.aload_n 0, 1) := by decide +kernel
theorem dX2_init_21 : decode cX2_init 21 = .ok (.iconst 4, 1) := by decide +kernel
theorem dX2_init_22 : decode cX2_init 22 = .ok (.newarray .int, 2) := by decide +kernel
theorem dX2_init_24 : decode cX2_init 24 = .ok (.putfield 19, 3) := by decide +kernel
theorem dX2_init_27 : decode cX2_init 27 = .ok (.aload_n 0, 1) := by decide +kernel
theorem dX2_init_28 : decode cX2_init 28 = .ok (.getfield 11, 3) := by decide +kernel
theorem dX2_init_31 : decode cX2_init 31 = .ok (.iconst 0, 1) := by decide +kernel
theorem dX2_init_32 : decode cX2_init 32 = .ok (.new 9, 3) := by decide +kernel
theorem dX2_init_35 : decode cX2_init 35 = .ok (.dup, 1) := by decide +kernel
theorem dX2_init_36 : decode cX2_init 36 = .ok (.iconst 0, 1) := by decide +kernel
theorem dX2_init_37 : decode cX2_init 37 = .ok (.aconst_null, 1) := by decide +kernel
theorem dX2_init_38 : decode cX2_init 38 = .ok (.iconst 0, 1) := by decide +kernel
theorem dX2_init_39 : decode cX2_init 39 = .ok (.iconst 0, 1) := by decide +kernel
theorem dX2_init_40 : decode cX2_init 40 = .ok (.invokespecial 22, 3) := by decide +kernel
theorem dX2_init_43 : decode cX2_init 43 = .ok (.aastore, 1) := by decide +kernel
theorem dX2_init_44 : decode cX2_init 44 = .ok (.aload_n 0, 1) := by decide +kernel
theorem dX2_init_45 : decode cX2_init 45 = .ok (.iconst 1, 1) := by decide +kernel
theorem dX2_init_46 : decode cX2_init 46 = .ok (.putfield 25, 3) := by decide +kernel
theorem dX2_init_49 : decode cX2_init 49 = .ok (.return_, 1) := by decide +kernel
theorem dX2_lookup_0 : decode cX2_lookup 0 = .ok (.iload_n 1, 1) := by decide +kernel
theorem dX2_lookup_1 : decode cX2_lookup 1 = .ok (.invokestatic 29, 3) := by decide +kernel
theorem dX2_lookup_4 : decode cX2_lookup 4 = .ok (.iload_n 3, 1) := by decide +kernel
theorem dX2_lookup_5 : decode cX2_lookup 5 = .ok (.invokestatic 33, 3) := by decide +kernel
theorem dX2_lookup_8 : decode cX2_lookup 8 = .ok (.aload_n 0, 1) := by decide +kernel
theorem dX2_lookup_9 : decode cX2_lookup 9 = .ok (.iload_n 2, 1) := by decide +kernel
theorem dX2_lookup_10 : decode cX2_lookup 10 = .ok (.invokevirtual 36, 3) := by decide +kernel
theorem dX2_lookup_13 : decode cX2_lookup 13 = .ok (.astore 4, 2) := by decide +kernel
theorem dX2_lookup_15 : decode cX2_lookup 15 = .ok (.aload 4, 2) := by decide +kernel
theorem dX2_lookup_17 : decode cX2_lookup 17 = .ok (.iload_n 1, 1) := by decide +kernel
theorem dX2_lookup_18 : decode cX2_lookup 18 = .ok (.iload_n 3, 1) := by decide +kernel
theorem dX2_lookup_19 : decode cX2_lookup 19 = .ok (.aload_n 0, 1) := by decide +kernel
theorem dX2_lookup_20 : decode cX2_lookup 20 = .ok (.getfield 40, 3) := by decide +kernel
theorem dX2_lookup_23 : decode cX2_lookup 23 = .ok (.invokevirtual 43, 3) := by decide +kernel
theorem dX2_lookup_26 : decode cX2_lookup 26 = .ok (.ifCond .eq 16, 3) := by decide +kernel
theorem dX2_lookup_29 : decode cX2_lookup 29 = .ok (.aload_n 0, 1) := by decide +kernel
theorem dX2_lookup_30 : decode cX2_lookup 30 = .ok (.getfield 19, 3) := by decide +kernel
theorem dX2_lookup_33 : decode cX2_lookup 33 = .ok (.iload_n 1, 1) := by decide +kernel
theorem dX2_lookup_34 : decode cX2_lookup 34 = .ok (.dup2, 1) := by decide +kernel
theorem dX2_lookup_35 : decode cX2_lookup 35 = .ok (.iaload, 1) := by decide +kernel
theorem dX2_lookup_36 : decode cX2_lookup 36 = .ok (.iconst 1, 1) := by decide +kernel
theorem dX2_lookup_37 : decode cX2_lookup 37 = .ok (.iadd, 1) := by decide +kernel
theorem dX2_lookup_38 : decode cX2_lookup 38 = .ok (.iastore, 1) := by decide +kernel
theorem dX2_lookup_39 : decode cX2_lookup 39 = .ok (.goto 32, 3) := by decide +kernel
theorem dX2_lookup_42 : decode cX2_lookup 42 = .ok (.aload 4, 2) := by decide +kernel
theorem dX2_lookup_44 : decode cX2_lookup 44 = .ok (.iload_n 3, 1) := by decide +kernel
theorem dX2_lookup_45 : decode cX2_lookup 45 = .ok (.invokevirtual 47, 3) := by decide +kernel
theorem dX2_lookup_48 : decode cX2_lookup 48 = .ok (.dup, 1) := by decide +kernel
theorem dX2_lookup_49 : decode cX2_lookup 49 = .ok (.getfield 51, 3) := by decide +kernel
theorem dX2_lookup_52 : decode cX2_lookup 52 = .ok (.iconst 1, 1) := by decide +kernel
theorem dX2_lookup_53 : decode cX2_lookup 53 = .ok (.iadd, 1) := by decide +kernel
theorem dX2_lookup_54 : decode cX2_lookup 54 = .ok (.putfield 51, 3) := by decide +kernel
theorem dX2_lookup_57 : decode cX2_lookup 57 = .ok (.aload 4, 2) := by decide +kernel
theorem dX2_lookup_59 : decode cX2_lookup 59 = .ok (.iload_n 1, 1) := by decide +kernel
theorem dX2_lookup_60 : decode cX2_lookup 60 = .ok (.iload_n 3, 1) := by decide +kernel
theorem dX2_lookup_61 : decode cX2_lookup 61 = .ok (.aload_n 0, 1) := by decide +kernel
theorem dX2_lookup_62 : decode cX2_lookup 62 = .ok (.getfield 40, 3) := by decide +kernel
theorem dX2_lookup_65 : decode cX2_lookup 65 = .ok (.bipush 10, 2) := by decide +kernel
theorem dX2_lookup_67 : decode cX2_lookup 67 = .ok (.iadd, 1) := by decide +kernel
theorem dX2_lookup_68 : decode cX2_lookup 68 = .ok (.invokevirtual 56, 3) := by decide +kernel
theorem dX2_lookup_71 : decode cX2_lookup 71 = .ok (.aload 4, 2) := by decide +kernel
theorem dX2_lookup_73 : decode cX2_lookup 73 = .ok (.iload_n 3, 1) := by decide +kernel
theorem dX2_lookup_74 : decode cX2_lookup 74 = .ok (.invokevirtual 60, 3) := by decide +kernel
theorem dX2_lookup_77 : decode cX2_lookup 77 = .ok (.ireturn, 1) := by decide +kernel
theorem dX2_makeDirectory_0 : decode cX2_makeDirectory 0 = .ok (.iload_n 1, 1) := by decide +kernel
theorem dX2_makeDirectory_1 : decode cX2_makeDirectory 1 = .ok (.invokestatic 29, 3) := by decide +kernel
theorem dX2_makeDirectory_4 : decode cX2_makeDirectory 4 = .ok (.iload_n 3, 1) := by decide +kernel
theorem dX2_makeDirectory_5 : decode cX2_makeDirectory 5 = .ok (.invokestatic 33, 3) := by decide +kernel
theorem dX2_makeDirectory_8 : decode cX2_makeDirectory 8 = .ok (.aload_n 0, 1) := by decide +kernel
theorem dX2_makeDirectory_9 : decode cX2_makeDirectory 9 = .ok (.iload_n 2, 1) := by decide +kernel
theorem dX2_makeDirectory_10 : decode cX2_makeDirectory 10 = .ok (.invokevirtual 36, 3) := by decide +kernel
theorem dX2_makeDirectory_13 : decode cX2_makeDirectory 13 = .ok (.astore 4, 2) := by decide +kernel
theorem dX2_makeDirectory_15 : decode cX2_makeDirectory 15 = .ok (.aload_n 0, 1) := by decide +kernel
theorem dX2_makeDirectory_16 : decode cX2_makeDirectory 16 = .ok (.aload 4, 2) := by decide +kernel
theorem dX2_makeDirectory_18 : decode cX2_makeDirectory 18 = .ok (.iload_n 3, 1) := by decide +kernel
theorem dX2_makeDirectory_19 : decode cX2_makeDirectory 19 = .ok (.invokevirtual 64, 3) := by decide +kernel
theorem dX2_makeDirectory_22 : decode cX2_makeDirectory 22 = .ok (.aload_n 0, 1) := by decide +kernel
theorem dX2_makeDirectory_23 : decode cX2_makeDirectory 23 = .ok (.getfield 25, 3) := by decide +kernel
theorem dX2_makeDirectory_26 : decode cX2_makeDirectory 26 = .ok (.istore 5, 2) := by decide +kernel
theorem dX2_makeDirectory_28 : decode cX2_makeDirectory 28 = .ok (.iload 5, 2) := by decide +kernel
theorem dX2_makeDirectory_30 : decode cX2_makeDirectory 30 = .ok (.bipush 12, 2) := by decide +kernel
theorem dX2_makeDirectory_32 : decode cX2_makeDirectory 32 = .ok (.if_icmp .lt 13, 3) := by decide +kernel
theorem dX2_makeDirectory_35 : decode cX2_makeDirectory 35 = .ok (.new 68, 3) := by decide +kernel
theorem dX2_makeDirectory_38 : decode cX2_makeDirectory 38 = .ok (.dup, 1) := by decide +kernel
theorem dX2_makeDirectory_39 : decode cX2_makeDirectory 39 = .ok (.ldc 70, 2) := by decide +kernel
theorem dX2_makeDirectory_41 : decode cX2_makeDirectory 41 = .ok (.invokespecial 72, 3) := by decide +kernel
theorem dX2_makeDirectory_44 : decode cX2_makeDirectory 44 = .ok (.athrow, 1) := by decide +kernel
theorem dX2_makeDirectory_45 : decode cX2_makeDirectory 45 = .ok (.aload_n 0, 1) := by decide +kernel
theorem dX2_makeDirectory_46 : decode cX2_makeDirectory 46 = .ok (.getfield 11, 3) := by decide +kernel
theorem dX2_makeDirectory_49 : decode cX2_makeDirectory 49 = .ok (.iload 5, 2) := by decide +kernel
theorem dX2_makeDirectory_51 : decode cX2_makeDirectory 51 = .ok (.new 9, 3) := by decide +kernel
theorem dX2_makeDirectory_54 : decode cX2_makeDirectory 54 = .ok (.dup, 1) := by decide +kernel
theorem dX2_makeDirectory_55 : decode cX2_makeDirectory 55 = .ok (.iload 5, 2) := by decide +kernel
theorem dX2_makeDirectory_57 : decode cX2_makeDirectory 57 = .ok (.aload 4, 2) := by decide +kernel
theorem dX2_makeDirectory_59 : decode cX2_makeDirectory 59 = .ok (.iload_n 3, 1) := by decide +kernel
theorem dX2_makeDirectory_60 : decode cX2_makeDirectory 60 = .ok (.iconst (-1), 1) := by decide +kernel
theorem dX2_makeDirectory_61 : decode cX2_makeDirectory 61 = .ok (.invokespecial 22, 3) := by decide +kernel
theorem dX2_makeDirectory_64 : decode cX2_makeDirectory 64 = .ok (.aastore, 1) := by decide +kernel
theorem dX2_makeDirectory_65 : decode cX2_makeDirectory 65 = .ok (.aload_n 0, 1) := by decide +kernel
theorem dX2_makeDirectory_66 : decode cX2_makeDirectory 66 = .ok (.dup, 1) := by decide +kernel
theorem dX2_makeDirectory_67 : decode cX2_makeDirectory 67 = .ok (.getfield 25, 3) := by decide +kernel
theorem dX2_makeDirectory_70 : decode cX2_makeDirectory 70 = .ok (.iconst 1, 1) := by decide +kernel
theorem dX2_makeDirectory_71 : decode cX2_makeDirectory 71 = .ok (.iadd, 1) := by decide +kernel
theorem dX2_makeDirectory_72 : decode cX2_makeDirectory 72 = .ok (.putfield 25, 3) := by decide +kernel
theorem dX2_makeDirectory_75 : decode cX2_makeDirectory 75 = .ok (.aload_n 0, 1) := by decide +kernel
theorem dX2_makeDirectory_76 : decode cX2_makeDirectory 76 = .ok (.iload_n 1, 1) := by decide +kernel
theorem dX2_makeDirectory_77 : decode cX2_makeDirectory 77 = .ok (.aload 4, 2) := by decide +kernel
theorem dX2_makeDirectory_79 : decode cX2_makeDirectory 79 = .ok (.iload_n 3, 1) := by decide +kernel
theorem dX2_makeDirectory_80 : decode cX2_makeDirectory 80 = .ok (.bipush (-2), 2) := by decide +kernel
theorem dX2_makeDirectory_82 : decode cX2_makeDirectory 82 = .ok (.iload 5, 2) := by decide +kernel
theorem dX2_makeDirectory_84 : decode cX2_makeDirectory 84 = .ok (.isub, 1) := by decide +kernel
theorem dX2_makeDirectory_85 : decode cX2_makeDirectory 85 = .ok (.iconst 0, 1) := by decide +kernel
theorem dX2_makeDirectory_86 : decode cX2_makeDirectory 86 = .ok (.invokevirtual 75, 3) := by decide +kernel
theorem dX2_makeDirectory_89 : decode cX2_makeDirectory 89 = .ok (.iload 5, 2) := by decide +kernel
theorem dX2_makeDirectory_91 : decode cX2_makeDirectory 91 = .ok (.ireturn, 1) := by decide +kernel
theorem dX2_makeFile_0 : decode cX2_makeFile 0 = .ok (.iload_n 1, 1) := by decide +kernel
theorem dX2_makeFile_1 : decode cX2_makeFile 1 = .ok (.invokestatic 29, 3) := by decide +kernel
theorem dX2_makeFile_4 : decode cX2_makeFile 4 = .ok (.iload_n 3, 1) := by decide +kernel
theorem dX2_makeFile_5 : decode cX2_makeFile 5 = .ok (.invokestatic 33, 3) := by decide +kernel
theorem dX2_makeFile_8 : decode cX2_makeFile 8 = .ok (.aload_n 0, 1) := by decide +kernel
theorem dX2_makeFile_9 : decode cX2_makeFile 9 = .ok (.iload_n 2, 1) := by decide +kernel
theorem dX2_makeFile_10 : decode cX2_makeFile 10 = .ok (.invokevirtual 36, 3) := by decide +kernel
theorem dX2_makeFile_13 : decode cX2_makeFile 13 = .ok (.astore 4, 2) := by decide +kernel
theorem dX2_makeFile_15 : decode cX2_makeFile 15 = .ok (.aload_n 0, 1) := by decide +kernel
theorem dX2_makeFile_16 : decode cX2_makeFile 16 = .ok (.aload 4, 2) := by decide +kernel
theorem dX2_makeFile_18 : decode cX2_makeFile 18 = .ok (.iload_n 3, 1) := by decide +kernel
theorem dX2_makeFile_19 : decode cX2_makeFile 19 = .ok (.invokevirtual 64, 3) := by decide +kernel
theorem dX2_makeFile_22 : decode cX2_makeFile 22 = .ok (.aload_n 0, 1) := by decide +kernel
theorem dX2_makeFile_23 : decode cX2_makeFile 23 = .ok (.getfield 79, 3) := by decide +kernel
theorem dX2_makeFile_26 : decode cX2_makeFile 26 = .ok (.bipush 30, 2) := by decide +kernel
theorem dX2_makeFile_28 : decode cX2_makeFile 28 = .ok (.if_icmp .lt 13, 3) := by decide +kernel
theorem dX2_makeFile_31 : decode cX2_makeFile 31 = .ok (.new 68, 3) := by decide +kernel
theorem dX2_makeFile_34 : decode cX2_makeFile 34 = .ok (.dup, 1) := by decide +kernel
theorem dX2_makeFile_35 : decode cX2_makeFile 35 = .ok (.ldc 82, 2) := by decide +kernel
theorem dX2_makeFile_37 : decode cX2_makeFile 37 = .ok (.invokespecial 72, 3) := by decide +kernel
theorem dX2_makeFile_40 : decode cX2_makeFile 40 = .ok (.athrow, 1) := by decide +kernel
theorem dX2_makeFile_41 : decode cX2_makeFile 41 = .ok (.aload_n 0, 1) := by decide +kernel
theorem dX2_makeFile_42 : decode cX2_makeFile 42 = .ok (.getfield 79, 3) := by decide +kernel
theorem dX2_makeFile_45 : decode cX2_makeFile 45 = .ok (.istore 5, 2) := by decide +kernel
theorem dX2_makeFile_47 : decode cX2_makeFile 47 = .ok (.aload_n 0, 1) := by decide +kernel
theorem dX2_makeFile_48 : decode cX2_makeFile 48 = .ok (.dup, 1) := by decide +kernel
theorem dX2_makeFile_49 : decode cX2_makeFile 49 = .ok (.getfield 79, 3) := by decide +kernel
theorem dX2_makeFile_52 : decode cX2_makeFile 52 = .ok (.iconst 1, 1) := by decide +kernel
theorem dX2_makeFile_53 : decode cX2_makeFile 53 = .ok (.iadd, 1) := by decide +kernel
theorem dX2_makeFile_54 : decode cX2_makeFile 54 = .ok (.putfield 79, 3) := by decide +kernel
theorem dX2_makeFile_57 : decode cX2_makeFile 57 = .ok (.aload_n 0, 1) := by decide +kernel
theorem dX2_makeFile_58 : decode cX2_makeFile 58 = .ok (.iload_n 1, 1) := by decide +kernel
theorem dX2_makeFile_59 : decode cX2_makeFile 59 = .ok (.aload 4, 2) := by decide +kernel
theorem dX2_makeFile_61 : decode cX2_makeFile 61 = .ok (.iload_n 3, 1) := by decide +kernel
theorem dX2_makeFile_62 : decode cX2_makeFile 62 = .ok (.iload 5, 2) := by decide +kernel
theorem dX2_makeFile_64 : decode cX2_makeFile 64 = .ok (.invokevirtual 84, 3) := by decide +kernel
theorem dX2_makeFile_67 : decode cX2_makeFile 67 = .ok (.iload 5, 2) := by decide +kernel
theorem dX2_makeFile_69 : decode cX2_makeFile 69 = .ok (.ireturn, 1) := by decide +kernel
theorem dX2_link_0 : decode cX2_link 0 = .ok (.iload_n 1, 1) := by decide +kernel
theorem dX2_link_1 : decode cX2_link 1 = .ok (.invokestatic 29, 3) := by decide +kernel
theorem dX2_link_4 : decode cX2_link 4 = .ok (.iload_n 3, 1) := by decide +kernel
theorem dX2_link_5 : decode cX2_link 5 = .ok (.invokestatic 33, 3) := by decide +kernel
theorem dX2_link_8 : decode cX2_link 8 = .ok (.aload_n 0, 1) := by decide +kernel
theorem dX2_link_9 : decode cX2_link 9 = .ok (.iload_n 2, 1) := by decide +kernel
theorem dX2_link_10 : decode cX2_link 10 = .ok (.invokevirtual 36, 3) := by decide +kernel
theorem dX2_link_13 : decode cX2_link 13 = .ok (.astore 5, 2) := by decide +kernel
theorem dX2_link_15 : decode cX2_link 15 = .ok (.aload_n 0, 1) := by decide +kernel
theorem dX2_link_16 : decode cX2_link 16 = .ok (.iload 4, 2) := by decide +kernel
theorem dX2_link_18 : decode cX2_link 18 = .ok (.invokevirtual 87, 3) := by decide +kernel
theorem dX2_link_21 : decode cX2_link 21 = .ok (.aload_n 0, 1) := by decide +kernel
theorem dX2_link_22 : decode cX2_link 22 = .ok (.iload 4, 2) := by decide +kernel
theorem dX2_link_24 : decode cX2_link 24 = .ok (.invokevirtual 90, 3) := by decide +kernel
theorem dX2_link_27 : decode cX2_link 27 = .ok (.istore 6, 2) := by decide +kernel
theorem dX2_link_29 : decode cX2_link 29 = .ok (.iload 6, 2) := by decide +kernel
theorem dX2_link_31 : decode cX2_link 31 = .ok (.ifCond .ne 13, 3) := by decide +kernel
theorem dX2_link_34 : decode cX2_link 34 = .ok (.new 93, 3) := by decide +kernel
theorem dX2_link_37 : decode cX2_link 37 = .ok (.dup, 1) := by decide +kernel
theorem dX2_link_38 : decode cX2_link 38 = .ok (.ldc 95, 2) := by decide +kernel
theorem dX2_link_40 : decode cX2_link 40 = .ok (.invokespecial 97, 3) := by decide +kernel
theorem dX2_link_43 : decode cX2_link 43 = .ok (.athrow, 1) := by decide +kernel
theorem dX2_link_44 : decode cX2_link 44 = .ok (.aload_n 0, 1) := by decide +kernel
theorem dX2_link_45 : decode cX2_link 45 = .ok (.aload 5, 2) := by decide +kernel
theorem dX2_link_47 : decode cX2_link 47 = .ok (.iload_n 3, 1) := by decide +kernel
theorem dX2_link_48 : decode cX2_link 48 = .ok (.invokevirtual 64, 3) := by decide +kernel
theorem dX2_link_51 : decode cX2_link 51 = .ok (.aload_n 0, 1) := by decide +kernel
theorem dX2_link_52 : decode cX2_link 52 = .ok (.iload_n 1, 1) := by decide +kernel
theorem dX2_link_53 : decode cX2_link 53 = .ok (.aload 5, 2) := by decide +kernel
theorem dX2_link_55 : decode cX2_link 55 = .ok (.iload_n 3, 1) := by decide +kernel
theorem dX2_link_56 : decode cX2_link 56 = .ok (.iload 4, 2) := by decide +kernel
theorem dX2_link_58 : decode cX2_link 58 = .ok (.invokevirtual 84, 3) := by decide +kernel
theorem dX2_link_61 : decode cX2_link 61 = .ok (.iload 6, 2) := by decide +kernel
theorem dX2_link_63 : decode cX2_link 63 = .ok (.iconst 1, 1) := by decide +kernel
theorem dX2_link_64 : decode cX2_link 64 = .ok (.iadd, 1) := by decide +kernel
theorem dX2_link_65 : decode cX2_link 65 = .ok (.ireturn, 1) := by decide +kernel
theorem dX2_remove_0 : decode cX2_remove 0 = .ok (.iload_n 1, 1) := by decide +kernel
theorem dX2_remove_1 : decode cX2_remove 1 = .ok (.invokestatic 29, 3) := by decide +kernel
theorem dX2_remove_4 : decode cX2_remove 4 = .ok (.iload_n 3, 1) := by decide +kernel
theorem dX2_remove_5 : decode cX2_remove 5 = .ok (.invokestatic 33, 3) := by decide +kernel
theorem dX2_remove_8 : decode cX2_remove 8 = .ok (.aload_n 0, 1) := by decide +kernel
theorem dX2_remove_9 : decode cX2_remove 9 = .ok (.iload_n 2, 1) := by decide +kernel
theorem dX2_remove_10 : decode cX2_remove 10 = .ok (.invokevirtual 36, 3) := by decide +kernel
theorem dX2_remove_13 : decode cX2_remove 13 = .ok (.astore 4, 2) := by decide +kernel
theorem dX2_remove_15 : decode cX2_remove 15 = .ok (.aload_n 0, 1) := by decide +kernel
theorem dX2_remove_16 : decode cX2_remove 16 = .ok (.aload 4, 2) := by decide +kernel
theorem dX2_remove_18 : decode cX2_remove 18 = .ok (.iload_n 3, 1) := by decide +kernel
theorem dX2_remove_19 : decode cX2_remove 19 = .ok (.invokevirtual 98, 3) := by decide +kernel
theorem dX2_remove_22 : decode cX2_remove 22 = .ok (.aload 4, 2) := by decide +kernel
theorem dX2_remove_24 : decode cX2_remove 24 = .ok (.iload_n 3, 1) := by decide +kernel
theorem dX2_remove_25 : decode cX2_remove 25 = .ok (.invokevirtual 60, 3) := by decide +kernel
theorem dX2_remove_28 : decode cX2_remove 28 = .ok (.istore 5, 2) := by decide +kernel
theorem dX2_remove_30 : decode cX2_remove 30 = .ok (.aload_n 0, 1) := by decide +kernel
theorem dX2_remove_31 : decode cX2_remove 31 = .ok (.iload 5, 2) := by decide +kernel
theorem dX2_remove_33 : decode cX2_remove 33 = .ok (.invokevirtual 101, 3) := by decide +kernel
theorem dX2_remove_36 : decode cX2_remove 36 = .ok (.astore 6, 2) := by decide +kernel
theorem dX2_remove_38 : decode cX2_remove 38 = .ok (.aload 6, 2) := by decide +kernel
theorem dX2_remove_40 : decode cX2_remove 40 = .ok (.ifnull 18, 3) := by decide +kernel
theorem dX2_remove_43 : decode cX2_remove 43 = .ok (.aload_n 0, 1) := by decide +kernel
theorem dX2_remove_44 : decode cX2_remove 44 = .ok (.aload 6, 2) := by decide +kernel
theorem dX2_remove_46 : decode cX2_remove 46 = .ok (.invokevirtual 104, 3) := by decide +kernel
theorem dX2_remove_49 : decode cX2_remove 49 = .ok (.aload_n 0, 1) := by decide +kernel
theorem dX2_remove_50 : decode cX2_remove 50 = .ok (.aload 6, 2) := by decide +kernel
theorem dX2_remove_52 : decode cX2_remove 52 = .ok (.getfield 108, 3) := by decide +kernel
theorem dX2_remove_55 : decode cX2_remove 55 = .ok (.invokevirtual 111, 3) := by decide +kernel
theorem dX2_remove_58 : decode cX2_remove 58 = .ok (.aload_n 0, 1) := by decide +kernel
theorem dX2_remove_59 : decode cX2_remove 59 = .ok (.iload_n 1, 1) := by decide +kernel
theorem dX2_remove_60 : decode cX2_remove 60 = .ok (.aload 4, 2) := by decide +kernel
theorem dX2_remove_62 : decode cX2_remove 62 = .ok (.iload_n 3, 1) := by decide +kernel
theorem dX2_remove_63 : decode cX2_remove 63 = .ok (.iconst (-1), 1) := by decide +kernel
theorem dX2_remove_64 : decode cX2_remove 64 = .ok (.iconst 0, 1) := by decide +kernel
theorem dX2_remove_65 : decode cX2_remove 65 = .ok (.invokevirtual 75, 3) := by decide +kernel
theorem dX2_remove_68 : decode cX2_remove 68 = .ok (.iload 5, 2) := by decide +kernel
theorem dX2_remove_70 : decode cX2_remove 70 = .ok (.ireturn, 1) := by decide +kernel
theorem dX2_rename_0 : decode cX2_rename 0 = .ok (.iload_n 1, 1) := by decide +kernel
theorem dX2_rename_1 : decode cX2_rename 1 = .ok (.invokestatic 29, 3) := by decide +kernel
theorem dX2_rename_4 : decode cX2_rename 4 = .ok (.iload_n 3, 1) := by decide +kernel
theorem dX2_rename_5 : decode cX2_rename 5 = .ok (.invokestatic 33, 3) := by decide +kernel
theorem dX2_rename_8 : decode cX2_rename 8 = .ok (.iload 5, 2) := by decide +kernel
theorem dX2_rename_10 : decode cX2_rename 10 = .ok (.invokestatic 33, 3) := by decide +kernel
theorem dX2_rename_13 : decode cX2_rename 13 = .ok (.aload_n 0, 1) := by decide +kernel
theorem dX2_rename_14 : decode cX2_rename 14 = .ok (.iload_n 2, 1) := by decide +kernel
theorem dX2_rename_15 : decode cX2_rename 15 = .ok (.invokevirtual 36, 3) := by decide +kernel
theorem dX2_rename_18 : decode cX2_rename 18 = .ok (.astore 6, 2) := by decide +kernel
theorem dX2_rename_20 : decode cX2_rename 20 = .ok (.aload_n 0, 1) := by decide +kernel
theorem dX2_rename_21 : decode cX2_rename 21 = .ok (.iload 4, 2) := by decide +kernel
theorem dX2_rename_23 : decode cX2_rename 23 = .ok (.invokevirtual 36, 3) := by decide +kernel
theorem dX2_rename_26 : decode cX2_rename 26 = .ok (.astore 7, 2) := by decide +kernel
theorem dX2_rename_28 : decode cX2_rename 28 = .ok (.aload_n 0, 1) := by decide +kernel
theorem dX2_rename_29 : decode cX2_rename 29 = .ok (.aload 6, 2) := by decide +kernel
theorem dX2_rename_31 : decode cX2_rename 31 = .ok (.iload_n 3, 1) := by decide +kernel
theorem dX2_rename_32 : decode cX2_rename 32 = .ok (.invokevirtual 98, 3) := by decide +kernel
theorem dX2_rename_35 : decode cX2_rename 35 = .ok (.aload_n 0, 1) := by decide +kernel
theorem dX2_rename_36 : decode cX2_rename 36 = .ok (.aload 7, 2) := by decide +kernel
theorem dX2_rename_38 : decode cX2_rename 38 = .ok (.iload 5, 2) := by decide +kernel
theorem dX2_rename_40 : decode cX2_rename 40 = .ok (.invokevirtual 64, 3) := by decide +kernel
theorem dX2_rename_43 : decode cX2_rename 43 = .ok (.aload 6, 2) := by decide +kernel
theorem dX2_rename_45 : decode cX2_rename 45 = .ok (.iload_n 3, 1) := by decide +kernel
theorem dX2_rename_46 : decode cX2_rename 46 = .ok (.invokevirtual 60, 3) := by decide +kernel
theorem dX2_rename_49 : decode cX2_rename 49 = .ok (.istore 8, 2) := by decide +kernel
theorem dX2_rename_51 : decode cX2_rename 51 = .ok (.aload_n 0, 1) := by decide +kernel
theorem dX2_rename_52 : decode cX2_rename 52 = .ok (.iload 8, 2) := by decide +kernel
theorem dX2_rename_54 : decode cX2_rename 54 = .ok (.invokevirtual 101, 3) := by decide +kernel
theorem dX2_rename_57 : decode cX2_rename 57 = .ok (.astore 9, 2) := by decide +kernel
theorem dX2_rename_59 : decode cX2_rename 59 = .ok (.aload 9, 2) := by decide +kernel
theorem dX2_rename_61 : decode cX2_rename 61 = .ok (.ifnull 23, 3) := by decide +kernel
theorem dX2_rename_64 : decode cX2_rename 64 = .ok (.aload 7, 2) := by decide +kernel
theorem dX2_rename_66 : decode cX2_rename 66 = .ok (.aload 9, 2) := by decide +kernel
theorem dX2_rename_68 : decode cX2_rename 68 = .ok (.invokevirtual 114, 3) := by decide +kernel
theorem dX2_rename_71 : decode cX2_rename 71 = .ok (.ifCond .eq 13, 3) := by decide +kernel
theorem dX2_rename_74 : decode cX2_rename 74 = .ok (.new 68, 3) := by decide +kernel
theorem dX2_rename_77 : decode cX2_rename 77 = .ok (.dup, 1) := by decide +kernel
theorem dX2_rename_78 : decode cX2_rename 78 = .ok (.ldc 118, 2) := by decide +kernel
theorem dX2_rename_80 : decode cX2_rename 80 = .ok (.invokespecial 72, 3) := by decide +kernel
theorem dX2_rename_83 : decode cX2_rename 83 = .ok (.athrow, 1) := by decide +kernel
theorem dX2_rename_84 : decode cX2_rename 84 = .ok (.aload 6, 2) := by decide +kernel
theorem dX2_rename_86 : decode cX2_rename 86 = .ok (.iload_n 3, 1) := by decide +kernel
theorem dX2_rename_87 : decode cX2_rename 87 = .ok (.invokevirtual 120, 3) := by decide +kernel
theorem dX2_rename_90 : decode cX2_rename 90 = .ok (.istore 10, 2) := by decide +kernel
theorem dX2_rename_92 : decode cX2_rename 92 = .ok (.aload_n 0, 1) := by decide +kernel
theorem dX2_rename_93 : decode cX2_rename 93 = .ok (.iload_n 1, 1) := by decide +kernel
theorem dX2_rename_94 : decode cX2_rename 94 = .ok (.aload 6, 2) := by decide +kernel
theorem dX2_rename_96 : decode cX2_rename 96 = .ok (.iload_n 3, 1) := by decide +kernel
theorem dX2_rename_97 : decode cX2_rename 97 = .ok (.iconst (-1), 1) := by decide +kernel
theorem dX2_rename_98 : decode cX2_rename 98 = .ok (.iconst 0, 1) := by decide +kernel
theorem dX2_rename_99 : decode cX2_rename 99 = .ok (.invokevirtual 75, 3) := by decide +kernel
theorem dX2_rename_102 : decode cX2_rename 102 = .ok (.aload_n 0, 1) := by decide +kernel
theorem dX2_rename_103 : decode cX2_rename 103 = .ok (.iload_n 1, 1) := by decide +kernel
theorem dX2_rename_104 : decode cX2_rename 104 = .ok (.aload 7, 2) := by decide +kernel
theorem dX2_rename_106 : decode cX2_rename 106 = .ok (.iload 5, 2) := by decide +kernel
theorem dX2_rename_108 : decode cX2_rename 108 = .ok (.iload 8, 2) := by decide +kernel
theorem dX2_rename_110 : decode cX2_rename 110 = .ok (.iload 10, 2) := by decide +kernel
theorem dX2_rename_112 : decode cX2_rename 112 = .ok (.invokevirtual 75, 3) := by decide +kernel
theorem dX2_rename_115 : decode cX2_rename 115 = .ok (.aload 9, 2) := by decide +kernel
theorem dX2_rename_117 : decode cX2_rename 117 = .ok (.ifnull 17, 3) := by decide +kernel
theorem dX2_rename_120 : decode cX2_rename 120 = .ok (.aload 9, 2) := by decide +kernel
theorem dX2_rename_122 : decode cX2_rename 122 = .ok (.aload 7, 2) := by decide +kernel
theorem dX2_rename_124 : decode cX2_rename 124 = .ok (.putfield 123, 3) := by decide +kernel
theorem dX2_rename_127 : decode cX2_rename 127 = .ok (.aload 9, 2) := by decide +kernel
theorem dX2_rename_129 : decode cX2_rename 129 = .ok (.iload 5, 2) := by decide +kernel
theorem dX2_rename_131 : decode cX2_rename 131 = .ok (.putfield 127, 3) := by decide +kernel
theorem dX2_rename_134 : decode cX2_rename 134 = .ok (.return_, 1) := by decide +kernel
theorem dX2_pass_0 : decode cX2_pass 0 = .ok (.iload_n 1, 1) := by decide +kernel
theorem dX2_pass_1 : decode cX2_pass 1 = .ok (.iconst 1, 1) := by decide +kernel
theorem dX2_pass_2 : decode cX2_pass 2 = .ok (.if_icmp .lt 9, 3) := by decide +kernel
theorem dX2_pass_5 : decode cX2_pass 5 = .ok (.iload_n 1, 1) := by decide +kernel
theorem dX2_pass_6 : decode cX2_pass 6 = .ok (.bipush 100, 2) := by decide +kernel
theorem dX2_pass_8 : decode cX2_pass 8 = .ok (.if_icmp .le 13, 3) := by decide +kernel
theorem dX2_pass_11 : decode cX2_pass 11 = .ok (.new 130, 3) := by decide +kernel
theorem dX2_pass_14 : decode cX2_pass 14 = .ok (.dup, 1) := by decide +kernel
theorem dX2_pass_15 : decode cX2_pass 15 = .ok (.ldc 132, 2) := by decide +kernel
theorem dX2_pass_17 : decode cX2_pass 17 = .ok (.invokespecial 134, 3) := by decide +kernel
theorem dX2_pass_20 : decode cX2_pass 20 = .ok (.athrow, 1) := by decide +kernel
theorem dX2_pass_21 : decode cX2_pass 21 = .ok (.aload_n 0, 1) := by decide +kernel
theorem dX2_pass_22 : decode cX2_pass 22 = .ok (.dup, 1) := by decide +kernel
theorem dX2_pass_23 : decode cX2_pass 23 = .ok (.getfield 40, 3) := by decide +kernel
theorem dX2_pass_26 : decode cX2_pass 26 = .ok (.iload_n 1, 1) := by decide +kernel
theorem dX2_pass_27 : decode cX2_pass 27 = .ok (.iadd, 1) := by decide +kernel
theorem dX2_pass_28 : decode cX2_pass 28 = .ok (.putfield 40, 3) := by decide +kernel
theorem dX2_pass_31 : decode cX2_pass 31 = .ok (.aload_n 0, 1) := by decide +kernel
theorem dX2_pass_32 : decode cX2_pass 32 = .ok (.getfield 40, 3) := by decide +kernel
theorem dX2_pass_35 : decode cX2_pass 35 = .ok (.ireturn, 1) := by decide +kernel
theorem dX2_leases_0 : decode cX2_leases 0 = .ok (.iload_n 1, 1) := by decide +kernel
theorem dX2_leases_1 : decode cX2_leases 1 = .ok (.invokestatic 29, 3) := by decide +kernel
theorem dX2_leases_4 : decode cX2_leases 4 = .ok (.iconst 0, 1) := by decide +kernel
theorem dX2_leases_5 : decode cX2_leases 5 = .ok (.istore_n 2, 1) := by decide +kernel
theorem dX2_leases_6 : decode cX2_leases 6 = .ok (.iconst 0, 1) := by decide +kernel
theorem dX2_leases_7 : decode cX2_leases 7 = .ok (.istore_n 3, 1) := by decide +kernel
theorem dX2_leases_8 : decode cX2_leases 8 = .ok (.iload_n 3, 1) := by decide +kernel
theorem dX2_leases_9 : decode cX2_leases 9 = .ok (.aload_n 0, 1) := by decide +kernel
theorem dX2_leases_10 : decode cX2_leases 10 = .ok (.getfield 11, 3) := by decide +kernel
theorem dX2_leases_13 : decode cX2_leases 13 = .ok (.arraylength, 1) := by decide +kernel
theorem dX2_leases_14 : decode cX2_leases 14 = .ok (.if_icmp .ge 35, 3) := by decide +kernel
theorem dX2_leases_17 : decode cX2_leases 17 = .ok (.aload_n 0, 1) := by decide +kernel
theorem dX2_leases_18 : decode cX2_leases 18 = .ok (.getfield 11, 3) := by decide +kernel
theorem dX2_leases_21 : decode cX2_leases 21 = .ok (.iload_n 3, 1) := by decide +kernel
theorem dX2_leases_22 : decode cX2_leases 22 = .ok (.aaload, 1) := by decide +kernel
theorem dX2_leases_23 : decode cX2_leases 23 = .ok (.astore 4, 2) := by decide +kernel
theorem dX2_leases_25 : decode cX2_leases 25 = .ok (.aload 4, 2) := by decide +kernel
theorem dX2_leases_27 : decode cX2_leases 27 = .ok (.ifnull 16, 3) := by decide +kernel
theorem dX2_leases_30 : decode cX2_leases 30 = .ok (.iload_n 2, 1) := by decide +kernel
theorem dX2_leases_31 : decode cX2_leases 31 = .ok (.aload 4, 2) := by decide +kernel
theorem dX2_leases_33 : decode cX2_leases 33 = .ok (.iload_n 1, 1) := by decide +kernel
theorem dX2_leases_34 : decode cX2_leases 34 = .ok (.aload_n 0, 1) := by decide +kernel
theorem dX2_leases_35 : decode cX2_leases 35 = .ok (.getfield 40, 3) := by decide +kernel
theorem dX2_leases_38 : decode cX2_leases 38 = .ok (.invokevirtual 135, 3) := by decide +kernel
theorem dX2_leases_41 : decode cX2_leases 41 = .ok (.iadd, 1) := by decide +kernel
theorem dX2_leases_42 : decode cX2_leases 42 = .ok (.istore_n 2, 1) := by decide +kernel
theorem dX2_leases_43 : decode cX2_leases 43 = .ok (.iinc 3 1, 3) := by decide +kernel
theorem dX2_leases_46 : decode cX2_leases 46 = .ok (.goto (-38), 3) := by decide +kernel
theorem dX2_leases_49 : decode cX2_leases 49 = .ok (.iload_n 2, 1) := by decide +kernel
theorem dX2_leases_50 : decode cX2_leases 50 = .ok (.ireturn, 1) := by decide +kernel
theorem dX2_recalls_0 : decode cX2_recalls 0 = .ok (.iload_n 1, 1) := by decide +kernel
theorem dX2_recalls_1 : decode cX2_recalls 1 = .ok (.invokestatic 29, 3) := by decide +kernel
theorem dX2_recalls_4 : decode cX2_recalls 4 = .ok (.aload_n 0, 1) := by decide +kernel
theorem dX2_recalls_5 : decode cX2_recalls 5 = .ok (.getfield 15, 3) := by decide +kernel
theorem dX2_recalls_8 : decode cX2_recalls 8 = .ok (.iload_n 1, 1) := by decide +kernel
theorem dX2_recalls_9 : decode cX2_recalls 9 = .ok (.iaload, 1) := by decide +kernel
theorem dX2_recalls_10 : decode cX2_recalls 10 = .ok (.ireturn, 1) := by decide +kernel
theorem dX2_known_0 : decode cX2_known 0 = .ok (.iload_n 1, 1) := by decide +kernel
theorem dX2_known_1 : decode cX2_known 1 = .ok (.invokestatic 29, 3) := by decide +kernel
theorem dX2_known_4 : decode cX2_known 4 = .ok (.aload_n 0, 1) := by decide +kernel
theorem dX2_known_5 : decode cX2_known 5 = .ok (.getfield 19, 3) := by decide +kernel
theorem dX2_known_8 : decode cX2_known 8 = .ok (.iload_n 1, 1) := by decide +kernel
theorem dX2_known_9 : decode cX2_known 9 = .ok (.iaload, 1) := by decide +kernel
theorem dX2_known_10 : decode cX2_known 10 = .ok (.ireturn, 1) := by decide +kernel
theorem dX2_split_0 : decode cX2_split 0 = .ok (.iload_n 2, 1) := by decide +kernel
theorem dX2_split_1 : decode cX2_split 1 = .ok (.invokestatic 139, 3) := by decide +kernel
theorem dX2_split_4 : decode cX2_split 4 = .ok (.aload_n 0, 1) := by decide +kernel
theorem dX2_split_5 : decode cX2_split 5 = .ok (.iload_n 1, 1) := by decide +kernel
theorem dX2_split_6 : decode cX2_split 6 = .ok (.invokevirtual 36, 3) := by decide +kernel
theorem dX2_split_9 : decode cX2_split 9 = .ok (.astore_n 3, 1) := by decide +kernel
theorem dX2_split_10 : decode cX2_split 10 = .ok (.aload_n 3, 1) := by decide +kernel
theorem dX2_split_11 : decode cX2_split 11 = .ok (.iload_n 2, 1) := by decide +kernel
theorem dX2_split_12 : decode cX2_split 12 = .ok (.invokevirtual 142, 3) := by decide +kernel
theorem dX2_split_15 : decode cX2_split 15 = .ok (.astore 4, 2) := by decide +kernel
theorem dX2_split_17 : decode cX2_split 17 = .ok (.aload 4, 2) := by decide +kernel
theorem dX2_split_19 : decode cX2_split 19 = .ok (.getfield 145, 3) := by decide +kernel
theorem dX2_split_22 : decode cX2_split 22 = .ok (.iconst 2, 1) := by decide +kernel
theorem dX2_split_23 : decode cX2_split 23 = .ok (.if_icmp .lt 12, 3) := by decide +kernel
theorem dX2_split_26 : decode cX2_split 26 = .ok (.aload_n 0, 1) := by decide +kernel
theorem dX2_split_27 : decode cX2_split 27 = .ok (.aload 4, 2) := by decide +kernel
theorem dX2_split_29 : decode cX2_split 29 = .ok (.invokevirtual 148, 3) := by decide +kernel
theorem dX2_split_32 : decode cX2_split 32 = .ok (.ifCond .eq 13, 3) := by decide +kernel
theorem dX2_split_35 : decode cX2_split 35 = .ok (.new 68, 3) := by decide +kernel
theorem dX2_split_38 : decode cX2_split 38 = .ok (.dup, 1) := by decide +kernel
theorem dX2_split_39 : decode cX2_split 39 = .ok (.ldc 152, 2) := by decide +kernel
theorem dX2_split_41 : decode cX2_split 41 = .ok (.invokespecial 72, 3) := by decide +kernel
theorem dX2_split_44 : decode cX2_split 44 = .ok (.athrow, 1) := by decide +kernel
theorem dX2_split_45 : decode cX2_split 45 = .ok (.aload_n 3, 1) := by decide +kernel
theorem dX2_split_46 : decode cX2_split 46 = .ok (.aload 4, 2) := by decide +kernel
theorem dX2_split_48 : decode cX2_split 48 = .ok (.invokevirtual 154, 3) := by decide +kernel
theorem dX2_split_51 : decode cX2_split 51 = .ok (.aload_n 3, 1) := by decide +kernel
theorem dX2_split_52 : decode cX2_split 52 = .ok (.invokevirtual 158, 3) := by decide +kernel
theorem dX2_split_55 : decode cX2_split 55 = .ok (.ireturn, 1) := by decide +kernel
theorem dX2_merge_0 : decode cX2_merge 0 = .ok (.iload_n 2, 1) := by decide +kernel
theorem dX2_merge_1 : decode cX2_merge 1 = .ok (.invokestatic 139, 3) := by decide +kernel
theorem dX2_merge_4 : decode cX2_merge 4 = .ok (.aload_n 0, 1) := by decide +kernel
theorem dX2_merge_5 : decode cX2_merge 5 = .ok (.iload_n 1, 1) := by decide +kernel
theorem dX2_merge_6 : decode cX2_merge 6 = .ok (.invokevirtual 36, 3) := by decide +kernel
theorem dX2_merge_9 : decode cX2_merge 9 = .ok (.astore_n 3, 1) := by decide +kernel
theorem dX2_merge_10 : decode cX2_merge 10 = .ok (.aload_n 3, 1) := by decide +kernel
theorem dX2_merge_11 : decode cX2_merge 11 = .ok (.iload_n 2, 1) := by decide +kernel
theorem dX2_merge_12 : decode cX2_merge 12 = .ok (.invokevirtual 142, 3) := by decide +kernel
theorem dX2_merge_15 : decode cX2_merge 15 = .ok (.astore 4, 2) := by decide +kernel
theorem dX2_merge_17 : decode cX2_merge 17 = .ok (.aload 4, 2) := by decide +kernel
theorem dX2_merge_19 : decode cX2_merge 19 = .ok (.getfield 145, 3) := by decide +kernel
theorem dX2_merge_22 : decode cX2_merge 22 = .ok (.bipush 8, 2) := by decide +kernel
theorem dX2_merge_24 : decode cX2_merge 24 = .ok (.if_icmp .lt 13, 3) := by decide +kernel
theorem dX2_merge_27 : decode cX2_merge 27 = .ok (.new 68, 3) := by decide +kernel
theorem dX2_merge_30 : decode cX2_merge 30 = .ok (.dup, 1) := by decide +kernel
theorem dX2_merge_31 : decode cX2_merge 31 = .ok (.ldc 162, 2) := by decide +kernel
theorem dX2_merge_33 : decode cX2_merge 33 = .ok (.invokespecial 72, 3) := by decide +kernel
theorem dX2_merge_36 : decode cX2_merge 36 = .ok (.athrow, 1) := by decide +kernel
theorem dX2_merge_37 : decode cX2_merge 37 = .ok (.aload_n 3, 1) := by decide +kernel
theorem dX2_merge_38 : decode cX2_merge 38 = .ok (.aload 4, 2) := by decide +kernel
theorem dX2_merge_40 : decode cX2_merge 40 = .ok (.getfield 164, 3) := by decide +kernel
theorem dX2_merge_43 : decode cX2_merge 43 = .ok (.aload 4, 2) := by decide +kernel
theorem dX2_merge_45 : decode cX2_merge 45 = .ok (.getfield 145, 3) := by decide +kernel
theorem dX2_merge_48 : decode cX2_merge 48 = .ok (.ixor, 1) := by decide +kernel
theorem dX2_merge_49 : decode cX2_merge 49 = .ok (.invokevirtual 142, 3) := by decide +kernel
theorem dX2_merge_52 : decode cX2_merge 52 = .ok (.astore 5, 2) := by decide +kernel
theorem dX2_merge_54 : decode cX2_merge 54 = .ok (.aload 5, 2) := by decide +kernel
theorem dX2_merge_56 : decode cX2_merge 56 = .ok (.getfield 145, 3) := by decide +kernel
theorem dX2_merge_59 : decode cX2_merge 59 = .ok (.aload 4, 2) := by decide +kernel
theorem dX2_merge_61 : decode cX2_merge 61 = .ok (.getfield 145, 3) := by decide +kernel
theorem dX2_merge_64 : decode cX2_merge 64 = .ok (.if_icmp .ne 16, 3) := by decide +kernel
theorem dX2_merge_67 : decode cX2_merge 67 = .ok (.aload 5, 2) := by decide +kernel
theorem dX2_merge_69 : decode cX2_merge 69 = .ok (.getfield 167, 3) := by decide +kernel
theorem dX2_merge_72 : decode cX2_merge 72 = .ok (.aload 4, 2) := by decide +kernel
theorem dX2_merge_74 : decode cX2_merge 74 = .ok (.getfield 167, 3) := by decide +kernel
theorem dX2_merge_77 : decode cX2_merge 77 = .ok (.if_icmp .eq 13, 3) := by decide +kernel
theorem dX2_merge_80 : decode cX2_merge 80 = .ok (.new 68, 3) := by decide +kernel
theorem dX2_merge_83 : decode cX2_merge 83 = .ok (.dup, 1) := by decide +kernel
theorem dX2_merge_84 : decode cX2_merge 84 = .ok (.ldc 170, 2) := by decide +kernel
theorem dX2_merge_86 : decode cX2_merge 86 = .ok (.invokespecial 72, 3) := by decide +kernel
theorem dX2_merge_89 : decode cX2_merge 89 = .ok (.athrow, 1) := by decide +kernel
theorem dX2_merge_90 : decode cX2_merge 90 = .ok (.aload_n 0, 1) := by decide +kernel
theorem dX2_merge_91 : decode cX2_merge 91 = .ok (.aload 4, 2) := by decide +kernel
theorem dX2_merge_93 : decode cX2_merge 93 = .ok (.invokevirtual 148, 3) := by decide +kernel
theorem dX2_merge_96 : decode cX2_merge 96 = .ok (.ifCond .ne 12, 3) := by decide +kernel
theorem dX2_merge_99 : decode cX2_merge 99 = .ok (.aload_n 0, 1) := by decide +kernel
theorem dX2_merge_100 : decode cX2_merge 100 = .ok (.aload 5, 2) := by decide +kernel
theorem dX2_merge_102 : decode cX2_merge 102 = .ok (.invokevirtual 148, 3) := by decide +kernel
theorem dX2_merge_105 : decode cX2_merge 105 = .ok (.ifCond .eq 13, 3) := by decide +kernel
theorem dX2_merge_108 : decode cX2_merge 108 = .ok (.new 68, 3) := by decide +kernel
theorem dX2_merge_111 : decode cX2_merge 111 = .ok (.dup, 1) := by decide +kernel
theorem dX2_merge_112 : decode cX2_merge 112 = .ok (.ldc 172, 2) := by decide +kernel
theorem dX2_merge_114 : decode cX2_merge 114 = .ok (.invokespecial 72, 3) := by decide +kernel
theorem dX2_merge_117 : decode cX2_merge 117 = .ok (.athrow, 1) := by decide +kernel
theorem dX2_merge_118 : decode cX2_merge 118 = .ok (.aload 4, 2) := by decide +kernel
theorem dX2_merge_120 : decode cX2_merge 120 = .ok (.getfield 164, 3) := by decide +kernel
theorem dX2_merge_123 : decode cX2_merge 123 = .ok (.aload 5, 2) := by decide +kernel
theorem dX2_merge_125 : decode cX2_merge 125 = .ok (.getfield 164, 3) := by decide +kernel
theorem dX2_merge_128 : decode cX2_merge 128 = .ok (.if_icmp .ge 14, 3) := by decide +kernel
theorem dX2_merge_131 : decode cX2_merge 131 = .ok (.aload_n 3, 1) := by decide +kernel
theorem dX2_merge_132 : decode cX2_merge 132 = .ok (.aload 4, 2) := by decide +kernel
theorem dX2_merge_134 : decode cX2_merge 134 = .ok (.aload 5, 2) := by decide +kernel
theorem dX2_merge_136 : decode cX2_merge 136 = .ok (.invokevirtual 174, 3) := by decide +kernel
theorem dX2_merge_139 : decode cX2_merge 139 = .ok (.goto 11, 3) := by decide +kernel
theorem dX2_merge_142 : decode cX2_merge 142 = .ok (.aload_n 3, 1) := by decide +kernel
theorem dX2_merge_143 : decode cX2_merge 143 = .ok (.aload 5, 2) := by decide +kernel
theorem dX2_merge_145 : decode cX2_merge 145 = .ok (.aload 4, 2) := by decide +kernel
theorem dX2_merge_147 : decode cX2_merge 147 = .ok (.invokevirtual 174, 3) := by decide +kernel
theorem dX2_merge_150 : decode cX2_merge 150 = .ok (.aload_n 3, 1) := by decide +kernel
theorem dX2_merge_151 : decode cX2_merge 151 = .ok (.invokevirtual 158, 3) := by decide +kernel
theorem dX2_merge_154 : decode cX2_merge 154 = .ok (.ireturn, 1) := by decide +kernel
theorem dX2_fragments_0 : decode cX2_fragments 0 = .ok (.aload_n 0, 1) := by decide +kernel
theorem dX2_fragments_1 : decode cX2_fragments 1 = .ok (.iload_n 1, 1) := by decide +kernel
theorem dX2_fragments_2 : decode cX2_fragments 2 = .ok (.invokevirtual 36, 3) := by decide +kernel
theorem dX2_fragments_5 : decode cX2_fragments 5 = .ok (.invokevirtual 158, 3) := by decide +kernel
theorem dX2_fragments_8 : decode cX2_fragments 8 = .ok (.ireturn, 1) := by decide +kernel
theorem dX2_serverOf_0 : decode cX2_serverOf 0 = .ok (.iload_n 2, 1) := by decide +kernel
theorem dX2_serverOf_1 : decode cX2_serverOf 1 = .ok (.invokestatic 33, 3) := by decide +kernel
theorem dX2_serverOf_4 : decode cX2_serverOf 4 = .ok (.aload_n 0, 1) := by decide +kernel
theorem dX2_serverOf_5 : decode cX2_serverOf 5 = .ok (.aload_n 0, 1) := by decide +kernel
theorem dX2_serverOf_6 : decode cX2_serverOf 6 = .ok (.iload_n 1, 1) := by decide +kernel
theorem dX2_serverOf_7 : decode cX2_serverOf 7 = .ok (.invokevirtual 36, 3) := by decide +kernel
theorem dX2_serverOf_10 : decode cX2_serverOf 10 = .ok (.iload_n 2, 1) := by decide +kernel
theorem dX2_serverOf_11 : decode cX2_serverOf 11 = .ok (.invokevirtual 47, 3) := by decide +kernel
theorem dX2_serverOf_14 : decode cX2_serverOf 14 = .ok (.invokevirtual 178, 3) := by decide +kernel
theorem dX2_serverOf_17 : decode cX2_serverOf 17 = .ok (.ireturn, 1) := by decide +kernel
theorem dX2_ownerOf_0 : decode cX2_ownerOf 0 = .ok (.iload_n 2, 1) := by decide +kernel
theorem dX2_ownerOf_1 : decode cX2_ownerOf 1 = .ok (.invokestatic 139, 3) := by decide +kernel
theorem dX2_ownerOf_4 : decode cX2_ownerOf 4 = .ok (.aload_n 0, 1) := by decide +kernel
theorem dX2_ownerOf_5 : decode cX2_ownerOf 5 = .ok (.iload_n 1, 1) := by decide +kernel
theorem dX2_ownerOf_6 : decode cX2_ownerOf 6 = .ok (.invokevirtual 36, 3) := by decide +kernel
theorem dX2_ownerOf_9 : decode cX2_ownerOf 9 = .ok (.iload_n 2, 1) := by decide +kernel
theorem dX2_ownerOf_10 : decode cX2_ownerOf 10 = .ok (.invokevirtual 142, 3) := by decide +kernel
theorem dX2_ownerOf_13 : decode cX2_ownerOf 13 = .ok (.getfield 167, 3) := by decide +kernel
theorem dX2_ownerOf_16 : decode cX2_ownerOf 16 = .ok (.ireturn, 1) := by decide +kernel
theorem dX2_load_0 : decode cX2_load 0 = .ok (.iload_n 1, 1) := by decide +kernel
theorem dX2_load_1 : decode cX2_load 1 = .ok (.invokestatic 182, 3) := by decide +kernel
theorem dX2_load_4 : decode cX2_load 4 = .ok (.aload_n 0, 1) := by decide +kernel
theorem dX2_load_5 : decode cX2_load 5 = .ok (.iload_n 1, 1) := by decide +kernel
theorem dX2_load_6 : decode cX2_load 6 = .ok (.invokevirtual 185, 3) := by decide +kernel
theorem dX2_load_9 : decode cX2_load 9 = .ok (.ireturn, 1) := by decide +kernel
theorem dX2_beginMove_0 : decode cX2_beginMove 0 = .ok (.iload_n 2, 1) := by decide +kernel
theorem dX2_beginMove_1 : decode cX2_beginMove 1 = .ok (.invokestatic 139, 3) := by decide +kernel
theorem dX2_beginMove_4 : decode cX2_beginMove 4 = .ok (.iload_n 3, 1) := by decide +kernel
theorem dX2_beginMove_5 : decode cX2_beginMove 5 = .ok (.invokestatic 182, 3) := by decide +kernel
theorem dX2_beginMove_8 : decode cX2_beginMove 8 = .ok (.aload_n 0, 1) := by decide +kernel
theorem dX2_beginMove_9 : decode cX2_beginMove 9 = .ok (.iload_n 1, 1) := by decide +kernel
theorem dX2_beginMove_10 : decode cX2_beginMove 10 = .ok (.invokevirtual 36, 3) := by decide +kernel
theorem dX2_beginMove_13 : decode cX2_beginMove 13 = .ok (.iload_n 2, 1) := by decide +kernel
theorem dX2_beginMove_14 : decode cX2_beginMove 14 = .ok (.invokevirtual 142, 3) := by decide +kernel
theorem dX2_beginMove_17 : decode cX2_beginMove 17 = .ok (.astore 4, 2) := by decide +kernel
theorem dX2_beginMove_19 : decode cX2_beginMove 19 = .ok (.aload_n 0, 1) := by decide +kernel
theorem dX2_beginMove_20 : decode cX2_beginMove 20 = .ok (.invokevirtual 188, 3) := by decide +kernel
theorem dX2_beginMove_23 : decode cX2_beginMove 23 = .ok (.aload_n 0, 1) := by decide +kernel
theorem dX2_beginMove_24 : decode cX2_beginMove 24 = .ok (.aload 4, 2) := by decide +kernel
theorem dX2_beginMove_26 : decode cX2_beginMove 26 = .ok (.invokevirtual 178, 3) := by decide +kernel
theorem dX2_beginMove_29 : decode cX2_beginMove 29 = .ok (.iload_n 3, 1) := by decide +kernel
theorem dX2_beginMove_30 : decode cX2_beginMove 30 = .ok (.if_icmp .ne 13, 3) := by decide +kernel
theorem dX2_beginMove_33 : decode cX2_beginMove 33 = .ok (.new 68, 3) := by decide +kernel
theorem dX2_beginMove_36 : decode cX2_beginMove 36 = .ok (.dup, 1) := by decide +kernel
theorem dX2_beginMove_37 : decode cX2_beginMove 37 = .ok (.ldc 191, 2) := by decide +kernel
theorem dX2_beginMove_39 : decode cX2_beginMove 39 = .ok (.invokespecial 72, 3) := by decide +kernel
theorem dX2_beginMove_42 : decode cX2_beginMove 42 = .ok (.athrow, 1) := by decide +kernel
theorem dX2_beginMove_43 : decode cX2_beginMove 43 = .ok (.aload_n 0, 1) := by decide +kernel
theorem dX2_beginMove_44 : decode cX2_beginMove 44 = .ok (.aload 4, 2) := by decide +kernel
theorem dX2_beginMove_46 : decode cX2_beginMove 46 = .ok (.iload_n 3, 1) := by decide +kernel
theorem dX2_beginMove_47 : decode cX2_beginMove 47 = .ok (.invokevirtual 193, 3) := by decide +kernel
theorem dX2_beginMove_50 : decode cX2_beginMove 50 = .ok (.return_, 1) := by decide +kernel
theorem dX2_stepMove_0 : decode cX2_stepMove 0 = .ok (.aload_n 0, 1) := by decide +kernel
theorem dX2_stepMove_1 : decode cX2_stepMove 1 = .ok (.getfield 197, 3) := by decide +kernel
theorem dX2_stepMove_4 : decode cX2_stepMove 4 = .ok (.ifnonnull 13, 3) := by decide +kernel
theorem dX2_stepMove_7 : decode cX2_stepMove 7 = .ok (.new 68, 3) := by decide +kernel
theorem dX2_stepMove_10 : decode cX2_stepMove 10 = .ok (.dup, 1) := by decide +kernel
theorem dX2_stepMove_11 : decode cX2_stepMove 11 = .ok (.ldc 201, 2) := by decide +kernel
theorem dX2_stepMove_13 : decode cX2_stepMove 13 = .ok (.invokespecial 72, 3) := by decide +kernel
theorem dX2_stepMove_16 : decode cX2_stepMove 16 = .ok (.athrow, 1) := by decide +kernel
theorem dX2_stepMove_17 : decode cX2_stepMove 17 = .ok (.aload_n 0, 1) := by decide +kernel
theorem dX2_stepMove_18 : decode cX2_stepMove 18 = .ok (.dup, 1) := by decide +kernel
theorem dX2_stepMove_19 : decode cX2_stepMove 19 = .ok (.getfield 203, 3) := by decide +kernel
theorem dX2_stepMove_22 : decode cX2_stepMove 22 = .ok (.iconst 1, 1) := by decide +kernel
theorem dX2_stepMove_23 : decode cX2_stepMove 23 = .ok (.iadd, 1) := by decide +kernel
theorem dX2_stepMove_24 : decode cX2_stepMove 24 = .ok (.putfield 203, 3) := by decide +kernel
theorem dX2_stepMove_27 : decode cX2_stepMove 27 = .ok (.aload_n 0, 1) := by decide +kernel
theorem dX2_stepMove_28 : decode cX2_stepMove 28 = .ok (.getfield 203, 3) := by decide +kernel
theorem dX2_stepMove_31 : decode cX2_stepMove 31 = .ok (.iconst 1, 1) := by decide +kernel
theorem dX2_stepMove_32 : decode cX2_stepMove 32 = .ok (.if_icmp .ne 10, 3) := by decide +kernel
theorem dX2_stepMove_35 : decode cX2_stepMove 35 = .ok (.aload_n 0, 1) := by decide +kernel
theorem dX2_stepMove_36 : decode cX2_stepMove 36 = .ok (.invokevirtual 206, 3) := by decide +kernel
theorem dX2_stepMove_39 : decode cX2_stepMove 39 = .ok (.goto 19, 3) := by decide +kernel
theorem dX2_stepMove_42 : decode cX2_stepMove 42 = .ok (.aload_n 0, 1) := by decide +kernel
theorem dX2_stepMove_43 : decode cX2_stepMove 43 = .ok (.getfield 197, 3) := by decide +kernel
theorem dX2_stepMove_46 : decode cX2_stepMove 46 = .ok (.aload_n 0, 1) := by decide +kernel
theorem dX2_stepMove_47 : decode cX2_stepMove 47 = .ok (.getfield 209, 3) := by decide +kernel
theorem dX2_stepMove_50 : decode cX2_stepMove 50 = .ok (.putfield 167, 3) := by decide +kernel
theorem dX2_stepMove_53 : decode cX2_stepMove 53 = .ok (.aload_n 0, 1) := by decide +kernel
theorem dX2_stepMove_54 : decode cX2_stepMove 54 = .ok (.aconst_null, 1) := by decide +kernel
theorem dX2_stepMove_55 : decode cX2_stepMove 55 = .ok (.putfield 197, 3) := by decide +kernel
theorem dX2_stepMove_58 : decode cX2_stepMove 58 = .ok (.aload_n 0, 1) := by decide +kernel
theorem dX2_stepMove_59 : decode cX2_stepMove 59 = .ok (.getfield 203, 3) := by decide +kernel
theorem dX2_stepMove_62 : decode cX2_stepMove 62 = .ok (.ireturn, 1) := by decide +kernel
theorem dX2_giveUpMove_0 : decode cX2_giveUpMove 0 = .ok (.aload_n 0, 1) := by decide +kernel
theorem dX2_giveUpMove_1 : decode cX2_giveUpMove 1 = .ok (.getfield 197, 3) := by decide +kernel
theorem dX2_giveUpMove_4 : decode cX2_giveUpMove 4 = .ok (.ifnonnull 13, 3) := by decide +kernel
theorem dX2_giveUpMove_7 : decode cX2_giveUpMove 7 = .ok (.new 68, 3) := by decide +kernel
theorem dX2_giveUpMove_10 : decode cX2_giveUpMove 10 = .ok (.dup, 1) := by decide +kernel
theorem dX2_giveUpMove_11 : decode cX2_giveUpMove 11 = .ok (.ldc 201, 2) := by decide +kernel
theorem dX2_giveUpMove_13 : decode cX2_giveUpMove 13 = .ok (.invokespecial 72, 3) := by decide +kernel
theorem dX2_giveUpMove_16 : decode cX2_giveUpMove 16 = .ok (.athrow, 1) := by decide +kernel
theorem dX2_giveUpMove_17 : decode cX2_giveUpMove 17 = .ok (.aload_n 0, 1) := by decide +kernel
theorem dX2_giveUpMove_18 : decode cX2_giveUpMove 18 = .ok (.aconst_null, 1) := by decide +kernel
theorem dX2_giveUpMove_19 : decode cX2_giveUpMove 19 = .ok (.putfield 197, 3) := by decide +kernel
theorem dX2_giveUpMove_22 : decode cX2_giveUpMove 22 = .ok (.aload_n 0, 1) := by decide +kernel
theorem dX2_giveUpMove_23 : decode cX2_giveUpMove 23 = .ok (.getfield 203, 3) := by decide +kernel
theorem dX2_giveUpMove_26 : decode cX2_giveUpMove 26 = .ok (.ireturn, 1) := by decide +kernel
theorem dX2_isFrozen_0 : decode cX2_isFrozen 0 = .ok (.iload_n 2, 1) := by decide +kernel
theorem dX2_isFrozen_1 : decode cX2_isFrozen 1 = .ok (.invokestatic 33, 3) := by decide +kernel
theorem dX2_isFrozen_4 : decode cX2_isFrozen 4 = .ok (.aload_n 0, 1) := by decide +kernel
theorem dX2_isFrozen_5 : decode cX2_isFrozen 5 = .ok (.aload_n 0, 1) := by decide +kernel
theorem dX2_isFrozen_6 : decode cX2_isFrozen 6 = .ok (.iload_n 1, 1) := by decide +kernel
theorem dX2_isFrozen_7 : decode cX2_isFrozen 7 = .ok (.invokevirtual 36, 3) := by decide +kernel
theorem dX2_isFrozen_10 : decode cX2_isFrozen 10 = .ok (.iload_n 2, 1) := by decide +kernel
theorem dX2_isFrozen_11 : decode cX2_isFrozen 11 = .ok (.invokevirtual 47, 3) := by decide +kernel
theorem dX2_isFrozen_14 : decode cX2_isFrozen 14 = .ok (.invokevirtual 148, 3) := by decide +kernel
theorem dX2_isFrozen_17 : decode cX2_isFrozen 17 = .ok (.ireturn, 1) := by decide +kernel
theorem dX2_balance_0 : decode cX2_balance 0 = .ok (.aload_n 0, 1) := by decide +kernel
theorem dX2_balance_1 : decode cX2_balance 1 = .ok (.invokevirtual 188, 3) := by decide +kernel
theorem dX2_balance_4 : decode cX2_balance 4 = .ok (.iconst 0, 1) := by decide +kernel
theorem dX2_balance_5 : decode cX2_balance 5 = .ok (.istore_n 1, 1) := by decide +kernel
theorem dX2_balance_6 : decode cX2_balance 6 = .ok (.iconst 0, 1) := by decide +kernel
theorem dX2_balance_7 : decode cX2_balance 7 = .ok (.istore_n 2, 1) := by decide +kernel
theorem dX2_balance_8 : decode cX2_balance 8 = .ok (.aload_n 0, 1) := by decide +kernel
theorem dX2_balance_9 : decode cX2_balance 9 = .ok (.iconst 0, 1) := by decide +kernel
theorem dX2_balance_10 : decode cX2_balance 10 = .ok (.invokevirtual 185, 3) := by decide +kernel
theorem dX2_balance_13 : decode cX2_balance 13 = .ok (.istore_n 3, 1) := by decide +kernel
theorem dX2_balance_14 : decode cX2_balance 14 = .ok (.iload_n 3, 1) := by decide +kernel
theorem dX2_balance_15 : decode cX2_balance 15 = .ok (.istore 4, 2) := by decide +kernel
theorem dX2_balance_17 : decode cX2_balance 17 = .ok (.iconst 1, 1) := by decide +kernel
theorem dX2_balance_18 : decode cX2_balance 18 = .ok (.istore 5, 2) := by decide +kernel
theorem dX2_balance_20 : decode cX2_balance 20 = .ok (.iload 5, 2) := by decide +kernel
theorem dX2_balance_22 : decode cX2_balance 22 = .ok (.iconst 4, 1) := by decide +kernel
theorem dX2_balance_23 : decode cX2_balance 23 = .ok (.if_icmp .ge 43, 3) := by decide +kernel
theorem dX2_balance_26 : decode cX2_balance 26 = .ok (.aload_n 0, 1) := by decide +kernel
theorem dX2_balance_27 : decode cX2_balance 27 = .ok (.iload 5, 2) := by decide +kernel
theorem dX2_balance_29 : decode cX2_balance 29 = .ok (.invokevirtual 185, 3) := by decide +kernel
theorem dX2_balance_32 : decode cX2_balance 32 = .ok (.istore 6, 2) := by decide +kernel
theorem dX2_balance_34 : decode cX2_balance 34 = .ok (.iload 6, 2) := by decide +kernel
theorem dX2_balance_36 : decode cX2_balance 36 = .ok (.iload_n 3, 1) := by decide +kernel
theorem dX2_balance_37 : decode cX2_balance 37 = .ok (.if_icmp .le 9, 3) := by decide +kernel
theorem dX2_balance_40 : decode cX2_balance 40 = .ok (.iload 5, 2) := by decide +kernel
theorem dX2_balance_42 : decode cX2_balance 42 = .ok (.istore_n 1, 1) := by decide +kernel
theorem dX2_balance_43 : decode cX2_balance 43 = .ok (.iload 6, 2) := by decide +kernel
theorem dX2_balance_45 : decode cX2_balance 45 = .ok (.istore_n 3, 1) := by decide +kernel
theorem dX2_balance_46 : decode cX2_balance 46 = .ok (.iload 6, 2) := by decide +kernel
theorem dX2_balance_48 : decode cX2_balance 48 = .ok (.iload 4, 2) := by decide +kernel
theorem dX2_balance_50 : decode cX2_balance 50 = .ok (.if_icmp .ge 10, 3) := by decide +kernel
theorem dX2_balance_53 : decode cX2_balance 53 = .ok (.iload 5, 2) := by decide +kernel
theorem dX2_balance_55 : decode cX2_balance 55 = .ok (.istore_n 2, 1) := by decide +kernel
theorem dX2_balance_56 : decode cX2_balance 56 = .ok (.iload 6, 2) := by decide +kernel
theorem dX2_balance_58 : decode cX2_balance 58 = .ok (.istore 4, 2) := by decide +kernel
theorem dX2_balance_60 : decode cX2_balance 60 = .ok (.iinc 5 1, 3) := by decide +kernel
theorem dX2_balance_63 : decode cX2_balance 63 = .ok (.goto (-43), 3) := by decide +kernel
theorem dX2_balance_66 : decode cX2_balance 66 = .ok (.iload_n 3, 1) := by decide +kernel
theorem dX2_balance_67 : decode cX2_balance 67 = .ok (.iload 4, 2) := by decide +kernel
theorem dX2_balance_69 : decode cX2_balance 69 = .ok (.isub, 1) := by decide +kernel
theorem dX2_balance_70 : decode cX2_balance 70 = .ok (.istore 5, 2) := by decide +kernel
theorem dX2_balance_72 : decode cX2_balance 72 = .ok (.aconst_null, 1) := by decide +kernel
theorem dX2_balance_73 : decode cX2_balance 73 = .ok (.astore 6, 2) := by decide +kernel
theorem dX2_balance_75 : decode cX2_balance 75 = .ok (.iload 5, 2) := by decide +kernel
theorem dX2_balance_77 : decode cX2_balance 77 = .ok (.iconst 4, 1) := by decide +kernel
theorem dX2_balance_78 : decode cX2_balance 78 = .ok (.if_icmp .lt 14, 3) := by decide +kernel
theorem dX2_balance_81 : decode cX2_balance 81 = .ok (.aload_n 0, 1) := by decide +kernel
theorem dX2_balance_82 : decode cX2_balance 82 = .ok (.iload_n 1, 1) := by decide +kernel
theorem dX2_balance_83 : decode cX2_balance 83 = .ok (.iload 5, 2) := by decide +kernel
theorem dX2_balance_85 : decode cX2_balance 85 = .ok (.iconst 2, 1) := by decide +kernel
theorem dX2_balance_86 : decode cX2_balance 86 = .ok (.idiv, 1) := by decide +kernel
theorem dX2_balance_87 : decode cX2_balance 87 = .ok (.invokevirtual 212, 3) := by decide +kernel
theorem dX2_balance_90 : decode cX2_balance 90 = .ok (.astore 6, 2) := by decide +kernel
theorem dX2_balance_92 : decode cX2_balance 92 = .ok (.aload 6, 2) := by decide +kernel
theorem dX2_balance_94 : decode cX2_balance 94 = .ok (.ifnull 10, 3) := by decide +kernel
theorem dX2_balance_97 : decode cX2_balance 97 = .ok (.aload_n 0, 1) := by decide +kernel
theorem dX2_balance_98 : decode cX2_balance 98 = .ok (.aload 6, 2) := by decide +kernel
theorem dX2_balance_100 : decode cX2_balance 100 = .ok (.iload_n 2, 1) := by decide +kernel
theorem dX2_balance_101 : decode cX2_balance 101 = .ok (.invokevirtual 193, 3) := by decide +kernel
theorem dX2_balance_104 : decode cX2_balance 104 = .ok (.aload_n 0, 1) := by decide +kernel
theorem dX2_balance_105 : decode cX2_balance 105 = .ok (.invokevirtual 216, 3) := by decide +kernel
theorem dX2_balance_108 : decode cX2_balance 108 = .ok (.aload 6, 2) := by decide +kernel
theorem dX2_balance_110 : decode cX2_balance 110 = .ok (.ifnonnull 7, 3) := by decide +kernel
theorem dX2_balance_113 : decode cX2_balance 113 = .ok (.iconst (-1), 1) := by decide +kernel
theorem dX2_balance_114 : decode cX2_balance 114 = .ok (.goto 8, 3) := by decide +kernel
theorem dX2_balance_117 : decode cX2_balance 117 = .ok (.aload 6, 2) := by decide +kernel
theorem dX2_balance_119 : decode cX2_balance 119 = .ok (.getfield 219, 3) := by decide +kernel
theorem dX2_balance_122 : decode cX2_balance 122 = .ok (.ireturn, 1) := by decide +kernel
theorem dX2_links_0 : decode cX2_links 0 = .ok (.aload_n 0, 1) := by decide +kernel
theorem dX2_links_1 : decode cX2_links 1 = .ok (.iload_n 1, 1) := by decide +kernel
theorem dX2_links_2 : decode cX2_links 2 = .ok (.invokevirtual 87, 3) := by decide +kernel
theorem dX2_links_5 : decode cX2_links 5 = .ok (.aload_n 0, 1) := by decide +kernel
theorem dX2_links_6 : decode cX2_links 6 = .ok (.iload_n 1, 1) := by decide +kernel
theorem dX2_links_7 : decode cX2_links 7 = .ok (.invokevirtual 90, 3) := by decide +kernel
theorem dX2_links_10 : decode cX2_links 10 = .ok (.ireturn, 1) := by decide +kernel
theorem dX2_anchor_0 : decode cX2_anchor 0 = .ok (.aload_n 0, 1) := by decide +kernel
theorem dX2_anchor_1 : decode cX2_anchor 1 = .ok (.iload_n 1, 1) := by decide +kernel
theorem dX2_anchor_2 : decode cX2_anchor 2 = .ok (.invokevirtual 87, 3) := by decide +kernel
theorem dX2_anchor_5 : decode cX2_anchor 5 = .ok (.iconst (-1), 1) := by decide +kernel
theorem dX2_anchor_6 : decode cX2_anchor 6 = .ok (.istore_n 2, 1) := by decide +kernel
theorem dX2_anchor_7 : decode cX2_anchor 7 = .ok (.iconst 0, 1) := by decide +kernel
theorem dX2_anchor_8 : decode cX2_anchor 8 = .ok (.istore_n 3, 1) := by decide +kernel
theorem dX2_anchor_9 : decode cX2_anchor 9 = .ok (.iconst 0, 1) := by decide +kernel
theorem dX2_anchor_10 : decode cX2_anchor 10 = .ok (.istore 4, 2) := by decide +kernel
theorem dX2_anchor_12 : decode cX2_anchor 12 = .ok (.iload 4, 2) := by decide +kernel
theorem dX2_anchor_14 : decode cX2_anchor 14 = .ok (.aload_n 0, 1) := by decide +kernel
theorem dX2_anchor_15 : decode cX2_anchor 15 = .ok (.getfield 11, 3) := by decide +kernel
theorem dX2_anchor_18 : decode cX2_anchor 18 = .ok (.arraylength, 1) := by decide +kernel
theorem dX2_anchor_19 : decode cX2_anchor 19 = .ok (.if_icmp .ge 71, 3) := by decide +kernel
theorem dX2_anchor_22 : decode cX2_anchor 22 = .ok (.aload_n 0, 1) := by decide +kernel
theorem dX2_anchor_23 : decode cX2_anchor 23 = .ok (.getfield 11, 3) := by decide +kernel
theorem dX2_anchor_26 : decode cX2_anchor 26 = .ok (.iload 4, 2) := by decide +kernel
theorem dX2_anchor_28 : decode cX2_anchor 28 = .ok (.aaload, 1) := by decide +kernel
theorem dX2_anchor_29 : decode cX2_anchor 29 = .ok (.astore 5, 2) := by decide +kernel
theorem dX2_anchor_31 : decode cX2_anchor 31 = .ok (.aload 5, 2) := by decide +kernel
theorem dX2_anchor_33 : decode cX2_anchor 33 = .ok (.ifnull 51, 3) := by decide +kernel
theorem dX2_anchor_36 : decode cX2_anchor 36 = .ok (.aload 5, 2) := by decide +kernel
theorem dX2_anchor_38 : decode cX2_anchor 38 = .ok (.iload_n 1, 1) := by decide +kernel
theorem dX2_anchor_39 : decode cX2_anchor 39 = .ok (.invokevirtual 222, 3) := by decide +kernel
theorem dX2_anchor_42 : decode cX2_anchor 42 = .ok (.istore 6, 2) := by decide +kernel
theorem dX2_anchor_44 : decode cX2_anchor 44 = .ok (.iload 6, 2) := by decide +kernel
theorem dX2_anchor_46 : decode cX2_anchor 46 = .ok (.bipush 50, 2) := by decide +kernel
theorem dX2_anchor_48 : decode cX2_anchor 48 = .ok (.if_icmp .ge 36, 3) := by decide +kernel
theorem dX2_anchor_51 : decode cX2_anchor 51 = .ok (.iload_n 2, 1) := by decide +kernel
theorem dX2_anchor_52 : decode cX2_anchor 52 = .ok (.iconst (-1), 1) := by decide +kernel
theorem dX2_anchor_53 : decode cX2_anchor 53 = .ok (.if_icmp .eq 14, 3) := by decide +kernel
theorem dX2_anchor_56 : decode cX2_anchor 56 = .ok (.aload 5, 2) := by decide +kernel
theorem dX2_anchor_58 : decode cX2_anchor 58 = .ok (.iload 6, 2) := by decide +kernel
theorem dX2_anchor_60 : decode cX2_anchor 60 = .ok (.invokevirtual 120, 3) := by decide +kernel
theorem dX2_anchor_63 : decode cX2_anchor 63 = .ok (.iload_n 3, 1) := by decide +kernel
theorem dX2_anchor_64 : decode cX2_anchor 64 = .ok (.if_icmp .ge 20, 3) := by decide +kernel
theorem dX2_anchor_67 : decode cX2_anchor 67 = .ok (.bipush 100, 2) := by decide +kernel
theorem dX2_anchor_69 : decode cX2_anchor 69 = .ok (.iload 4, 2) := by decide +kernel
theorem dX2_anchor_71 : decode cX2_anchor 71 = .ok (.imul, 1) := by decide +kernel
theorem dX2_anchor_72 : decode cX2_anchor 72 = .ok (.iload 6, 2) := by decide +kernel
theorem dX2_anchor_74 : decode cX2_anchor 74 = .ok (.iadd, 1) := by decide +kernel
theorem dX2_anchor_75 : decode cX2_anchor 75 = .ok (.istore_n 2, 1) := by decide +kernel
theorem dX2_anchor_76 : decode cX2_anchor 76 = .ok (.aload 5, 2) := by decide +kernel
theorem dX2_anchor_78 : decode cX2_anchor 78 = .ok (.iload 6, 2) := by decide +kernel
theorem dX2_anchor_80 : decode cX2_anchor 80 = .ok (.invokevirtual 120, 3) := by decide +kernel
theorem dX2_anchor_83 : decode cX2_anchor 83 = .ok (.istore_n 3, 1) := by decide +kernel
theorem dX2_anchor_84 : decode cX2_anchor 84 = .ok (.iinc 4 1, 3) := by decide +kernel
theorem dX2_anchor_87 : decode cX2_anchor 87 = .ok (.goto (-75), 3) := by decide +kernel
theorem dX2_anchor_90 : decode cX2_anchor 90 = .ok (.iload_n 2, 1) := by decide +kernel
theorem dX2_anchor_91 : decode cX2_anchor 91 = .ok (.ireturn, 1) := by decide +kernel
theorem dX2_byTree_0 : decode cX2_byTree 0 = .ok (.iload_n 2, 1) := by decide +kernel
theorem dX2_byTree_1 : decode cX2_byTree 1 = .ok (.invokestatic 33, 3) := by decide +kernel
theorem dX2_byTree_4 : decode cX2_byTree 4 = .ok (.aload_n 0, 1) := by decide +kernel
theorem dX2_byTree_5 : decode cX2_byTree 5 = .ok (.iload_n 1, 1) := by decide +kernel
theorem dX2_byTree_6 : decode cX2_byTree 6 = .ok (.invokevirtual 36, 3) := by decide +kernel
theorem dX2_byTree_9 : decode cX2_byTree 9 = .ok (.iload_n 2, 1) := by decide +kernel
theorem dX2_byTree_10 : decode cX2_byTree 10 = .ok (.invokevirtual 60, 3) := by decide +kernel
theorem dX2_byTree_13 : decode cX2_byTree 13 = .ok (.ireturn, 1) := by decide +kernel
theorem dX2_size_0 : decode cX2_size 0 = .ok (.aload_n 0, 1) := by decide +kernel
theorem dX2_size_1 : decode cX2_size 1 = .ok (.iload_n 1, 1) := by decide +kernel
theorem dX2_size_2 : decode cX2_size 2 = .ok (.invokevirtual 36, 3) := by decide +kernel
theorem dX2_size_5 : decode cX2_size 5 = .ok (.invokevirtual 225, 3) := by decide +kernel
theorem dX2_size_8 : decode cX2_size 8 = .ok (.ireturn, 1) := by decide +kernel
theorem dX2_needClient_0 : decode cX2_needClient 0 = .ok (.iload_n 0, 1) := by decide +kernel
theorem dX2_needClient_1 : decode cX2_needClient 1 = .ok (.ifCond .lt 8, 3) := by decide +kernel
theorem dX2_needClient_4 : decode cX2_needClient 4 = .ok (.iload_n 0, 1) := by decide +kernel
theorem dX2_needClient_5 : decode cX2_needClient 5 = .ok (.iconst 4, 1) := by decide +kernel
theorem dX2_needClient_6 : decode cX2_needClient 6 = .ok (.if_icmp .lt 13, 3) := by decide +kernel
theorem dX2_needClient_9 : decode cX2_needClient 9 = .ok (.new 130, 3) := by decide +kernel
theorem dX2_needClient_12 : decode cX2_needClient 12 = .ok (.dup, 1) := by decide +kernel
theorem dX2_needClient_13 : decode cX2_needClient 13 = .ok (.ldc 228, 2) := by decide +kernel
theorem dX2_needClient_15 : decode cX2_needClient 15 = .ok (.invokespecial 134, 3) := by decide +kernel
theorem dX2_needClient_18 : decode cX2_needClient 18 = .ok (.athrow, 1) := by decide +kernel
theorem dX2_needClient_19 : decode cX2_needClient 19 = .ok (.return_, 1) := by decide +kernel
theorem dX2_needServer_0 : decode cX2_needServer 0 = .ok (.iload_n 0, 1) := by decide +kernel
theorem dX2_needServer_1 : decode cX2_needServer 1 = .ok (.ifCond .lt 8, 3) := by decide +kernel
theorem dX2_needServer_4 : decode cX2_needServer 4 = .ok (.iload_n 0, 1) := by decide +kernel
theorem dX2_needServer_5 : decode cX2_needServer 5 = .ok (.iconst 4, 1) := by decide +kernel
theorem dX2_needServer_6 : decode cX2_needServer 6 = .ok (.if_icmp .lt 13, 3) := by decide +kernel
theorem dX2_needServer_9 : decode cX2_needServer 9 = .ok (.new 130, 3) := by decide +kernel
theorem dX2_needServer_12 : decode cX2_needServer 12 = .ok (.dup, 1) := by decide +kernel
theorem dX2_needServer_13 : decode cX2_needServer 13 = .ok (.ldc 230, 2) := by decide +kernel
theorem dX2_needServer_15 : decode cX2_needServer 15 = .ok (.invokespecial 134, 3) := by decide +kernel
theorem dX2_needServer_18 : decode cX2_needServer 18 = .ok (.athrow, 1) := by decide +kernel
theorem dX2_needServer_19 : decode cX2_needServer 19 = .ok (.return_, 1) := by decide +kernel
theorem dX2_needName_0 : decode cX2_needName 0 = .ok (.iload_n 0, 1) := by decide +kernel
theorem dX2_needName_1 : decode cX2_needName 1 = .ok (.ifCond .lt 9, 3) := by decide +kernel
theorem dX2_needName_4 : decode cX2_needName 4 = .ok (.iload_n 0, 1) := by decide +kernel
theorem dX2_needName_5 : decode cX2_needName 5 = .ok (.bipush 50, 2) := by decide +kernel
theorem dX2_needName_7 : decode cX2_needName 7 = .ok (.if_icmp .lt 13, 3) := by decide +kernel
theorem dX2_needName_10 : decode cX2_needName 10 = .ok (.new 130, 3) := by decide +kernel
theorem dX2_needName_13 : decode cX2_needName 13 = .ok (.dup, 1) := by decide +kernel
theorem dX2_needName_14 : decode cX2_needName 14 = .ok (.ldc 232, 2) := by decide +kernel
theorem dX2_needName_16 : decode cX2_needName 16 = .ok (.invokespecial 134, 3) := by decide +kernel
theorem dX2_needName_19 : decode cX2_needName 19 = .ok (.athrow, 1) := by decide +kernel
theorem dX2_needName_20 : decode cX2_needName 20 = .ok (.return_, 1) := by decide +kernel
theorem dX2_needHash_0 : decode cX2_needHash 0 = .ok (.iload_n 0, 1) := by decide +kernel
theorem dX2_needHash_1 : decode cX2_needHash 1 = .ok (.ifCond .lt 9, 3) := by decide +kernel
theorem dX2_needHash_4 : decode cX2_needHash 4 = .ok (.iload_n 0, 1) := by decide +kernel
theorem dX2_needHash_5 : decode cX2_needHash 5 = .ok (.bipush 8, 2) := by decide +kernel
theorem dX2_needHash_7 : decode cX2_needHash 7 = .ok (.if_icmp .lt 13, 3) := by decide +kernel
theorem dX2_needHash_10 : decode cX2_needHash 10 = .ok (.new 130, 3) := by decide +kernel
theorem dX2_needHash_13 : decode cX2_needHash 13 = .ok (.dup, 1) := by decide +kernel
theorem dX2_needHash_14 : decode cX2_needHash 14 = .ok (.ldc 234, 2) := by decide +kernel
theorem dX2_needHash_16 : decode cX2_needHash 16 = .ok (.invokespecial 134, 3) := by decide +kernel
theorem dX2_needHash_19 : decode cX2_needHash 19 = .ok (.athrow, 1) := by decide +kernel
theorem dX2_needHash_20 : decode cX2_needHash 20 = .ok (.return_, 1) := by decide +kernel
theorem dX2_needDirectory_0 : decode cX2_needDirectory 0 = .ok (.aload_n 0, 1) := by decide +kernel
theorem dX2_needDirectory_1 : decode cX2_needDirectory 1 = .ok (.iload_n 1, 1) := by decide +kernel
theorem dX2_needDirectory_2 : decode cX2_needDirectory 2 = .ok (.invokevirtual 236, 3) := by decide +kernel
theorem dX2_needDirectory_5 : decode cX2_needDirectory 5 = .ok (.astore_n 2, 1) := by decide +kernel
theorem dX2_needDirectory_6 : decode cX2_needDirectory 6 = .ok (.aload_n 2, 1) := by decide +kernel
theorem dX2_needDirectory_7 : decode cX2_needDirectory 7 = .ok (.ifnonnull 13, 3) := by decide +kernel
theorem dX2_needDirectory_10 : decode cX2_needDirectory 10 = .ok (.new 93, 3) := by decide +kernel
theorem dX2_needDirectory_13 : decode cX2_needDirectory 13 = .ok (.dup, 1) := by decide +kernel
theorem dX2_needDirectory_14 : decode cX2_needDirectory 14 = .ok (.ldc 239, 2) := by decide +kernel
theorem dX2_needDirectory_16 : decode cX2_needDirectory 16 = .ok (.invokespecial 97, 3) := by decide +kernel
theorem dX2_needDirectory_19 : decode cX2_needDirectory 19 = .ok (.athrow, 1) := by decide +kernel
theorem dX2_needDirectory_20 : decode cX2_needDirectory 20 = .ok (.aload_n 2, 1) := by decide +kernel
theorem dX2_needDirectory_21 : decode cX2_needDirectory 21 = .ok (.areturn, 1) := by decide +kernel
theorem dX2_needFile_0 : decode cX2_needFile 0 = .ok (.iload_n 1, 1) := by decide +kernel
theorem dX2_needFile_1 : decode cX2_needFile 1 = .ok (.ifCond .lt 11, 3) := by decide +kernel
theorem dX2_needFile_4 : decode cX2_needFile 4 = .ok (.iload_n 1, 1) := by decide +kernel
theorem dX2_needFile_5 : decode cX2_needFile 5 = .ok (.aload_n 0, 1) := by decide +kernel
theorem dX2_needFile_6 : decode cX2_needFile 6 = .ok (.getfield 79, 3) := by decide +kernel
theorem dX2_needFile_9 : decode cX2_needFile 9 = .ok (.if_icmp .lt 13, 3) := by decide +kernel
theorem dX2_needFile_12 : decode cX2_needFile 12 = .ok (.new 93, 3) := by decide +kernel
theorem dX2_needFile_15 : decode cX2_needFile 15 = .ok (.dup, 1) := by decide +kernel
theorem dX2_needFile_16 : decode cX2_needFile 16 = .ok (.ldc 241, 2) := by decide +kernel
theorem dX2_needFile_18 : decode cX2_needFile 18 = .ok (.invokespecial 97, 3) := by decide +kernel
theorem dX2_needFile_21 : decode cX2_needFile 21 = .ok (.athrow, 1) := by decide +kernel
theorem dX2_needFile_22 : decode cX2_needFile 22 = .ok (.return_, 1) := by decide +kernel
theorem dX2_needFree_0 : decode cX2_needFree 0 = .ok (.aload_n 1, 1) := by decide +kernel
theorem dX2_needFree_1 : decode cX2_needFree 1 = .ok (.iload_n 2, 1) := by decide +kernel
theorem dX2_needFree_2 : decode cX2_needFree 2 = .ok (.invokevirtual 60, 3) := by decide +kernel
theorem dX2_needFree_5 : decode cX2_needFree 5 = .ok (.iconst (-1), 1) := by decide +kernel
theorem dX2_needFree_6 : decode cX2_needFree 6 = .ok (.if_icmp .ne 15, 3) := by decide +kernel
theorem dX2_needFree_9 : decode cX2_needFree 9 = .ok (.aload_n 0, 1) := by decide +kernel
theorem dX2_needFree_10 : decode cX2_needFree 10 = .ok (.aload_n 1, 1) := by decide +kernel
theorem dX2_needFree_11 : decode cX2_needFree 11 = .ok (.iload_n 2, 1) := by decide +kernel
theorem dX2_needFree_12 : decode cX2_needFree 12 = .ok (.invokevirtual 47, 3) := by decide +kernel
theorem dX2_needFree_15 : decode cX2_needFree 15 = .ok (.invokevirtual 148, 3) := by decide +kernel
theorem dX2_needFree_18 : decode cX2_needFree 18 = .ok (.ifCond .eq 13, 3) := by decide +kernel
theorem dX2_needFree_21 : decode cX2_needFree 21 = .ok (.new 68, 3) := by decide +kernel
theorem dX2_needFree_24 : decode cX2_needFree 24 = .ok (.dup, 1) := by decide +kernel
theorem dX2_needFree_25 : decode cX2_needFree 25 = .ok (.ldc 243, 2) := by decide +kernel
theorem dX2_needFree_27 : decode cX2_needFree 27 = .ok (.invokespecial 72, 3) := by decide +kernel
theorem dX2_needFree_30 : decode cX2_needFree 30 = .ok (.athrow, 1) := by decide +kernel
theorem dX2_needFree_31 : decode cX2_needFree 31 = .ok (.return_, 1) := by decide +kernel
theorem dX2_needTaken_0 : decode cX2_needTaken 0 = .ok (.aload_n 1, 1) := by decide +kernel
theorem dX2_needTaken_1 : decode cX2_needTaken 1 = .ok (.iload_n 2, 1) := by decide +kernel
theorem dX2_needTaken_2 : decode cX2_needTaken 2 = .ok (.invokevirtual 60, 3) := by decide +kernel
theorem dX2_needTaken_5 : decode cX2_needTaken 5 = .ok (.iconst (-1), 1) := by decide +kernel
theorem dX2_needTaken_6 : decode cX2_needTaken 6 = .ok (.if_icmp .eq 15, 3) := by decide +kernel
theorem dX2_needTaken_9 : decode cX2_needTaken 9 = .ok (.aload_n 0, 1) := by decide +kernel
theorem dX2_needTaken_10 : decode cX2_needTaken 10 = .ok (.aload_n 1, 1) := by decide +kernel
theorem dX2_needTaken_11 : decode cX2_needTaken 11 = .ok (.iload_n 2, 1) := by decide +kernel
theorem dX2_needTaken_12 : decode cX2_needTaken 12 = .ok (.invokevirtual 47, 3) := by decide +kernel
theorem dX2_needTaken_15 : decode cX2_needTaken 15 = .ok (.invokevirtual 148, 3) := by decide +kernel
theorem dX2_needTaken_18 : decode cX2_needTaken 18 = .ok (.ifCond .eq 13, 3) := by decide +kernel
theorem dX2_needTaken_21 : decode cX2_needTaken 21 = .ok (.new 68, 3) := by decide +kernel
theorem dX2_needTaken_24 : decode cX2_needTaken 24 = .ok (.dup, 1) := by decide +kernel
theorem dX2_needTaken_25 : decode cX2_needTaken 25 = .ok (.ldc 245, 2) := by decide +kernel
theorem dX2_needTaken_27 : decode cX2_needTaken 27 = .ok (.invokespecial 72, 3) := by decide +kernel
theorem dX2_needTaken_30 : decode cX2_needTaken 30 = .ok (.athrow, 1) := by decide +kernel
theorem dX2_needTaken_31 : decode cX2_needTaken 31 = .ok (.return_, 1) := by decide +kernel
theorem dX2_needRemovable_0 : decode cX2_needRemovable 0 = .ok (.aload_n 1, 1) := by decide +kernel
theorem dX2_needRemovable_1 : decode cX2_needRemovable 1 = .ok (.invokevirtual 225, 3) := by decide +kernel
theorem dX2_needRemovable_4 : decode cX2_needRemovable 4 = .ok (.ifCond .le 13, 3) := by decide +kernel
theorem dX2_needRemovable_7 : decode cX2_needRemovable 7 = .ok (.new 68, 3) := by decide +kernel
theorem dX2_needRemovable_10 : decode cX2_needRemovable 10 = .ok (.dup, 1) := by decide +kernel
theorem dX2_needRemovable_11 : decode cX2_needRemovable 11 = .ok (.ldc 247, 2) := by decide +kernel
theorem dX2_needRemovable_13 : decode cX2_needRemovable 13 = .ok (.invokespecial 72, 3) := by decide +kernel
theorem dX2_needRemovable_16 : decode cX2_needRemovable 16 = .ok (.athrow, 1) := by decide +kernel
theorem dX2_needRemovable_17 : decode cX2_needRemovable 17 = .ok (.aload_n 0, 1) := by decide +kernel
theorem dX2_needRemovable_18 : decode cX2_needRemovable 18 = .ok (.getfield 197, 3) := by decide +kernel
theorem dX2_needRemovable_21 : decode cX2_needRemovable 21 = .ok (.ifnull 27, 3) := by decide +kernel
theorem dX2_needRemovable_24 : decode cX2_needRemovable 24 = .ok (.aload_n 0, 1) := by decide +kernel
theorem dX2_needRemovable_25 : decode cX2_needRemovable 25 = .ok (.getfield 197, 3) := by decide +kernel
theorem dX2_needRemovable_28 : decode cX2_needRemovable 28 = .ok (.getfield 219, 3) := by decide +kernel
theorem dX2_needRemovable_31 : decode cX2_needRemovable 31 = .ok (.aload_n 1, 1) := by decide +kernel
theorem dX2_needRemovable_32 : decode cX2_needRemovable 32 = .ok (.getfield 108, 3) := by decide +kernel
theorem dX2_needRemovable_35 : decode cX2_needRemovable 35 = .ok (.if_icmp .ne 13, 3) := by decide +kernel
theorem dX2_needRemovable_38 : decode cX2_needRemovable 38 = .ok (.new 68, 3) := by decide +kernel
theorem dX2_needRemovable_41 : decode cX2_needRemovable 41 = .ok (.dup, 1) := by decide +kernel
theorem dX2_needRemovable_42 : decode cX2_needRemovable 42 = .ok (.ldc 249, 2) := by decide +kernel
theorem dX2_needRemovable_44 : decode cX2_needRemovable 44 = .ok (.invokespecial 72, 3) := by decide +kernel
theorem dX2_needRemovable_47 : decode cX2_needRemovable 47 = .ok (.athrow, 1) := by decide +kernel
theorem dX2_needRemovable_48 : decode cX2_needRemovable 48 = .ok (.return_, 1) := by decide +kernel
theorem dX2_needNoMove_0 : decode cX2_needNoMove 0 = .ok (.aload_n 0, 1) := by decide +kernel
theorem dX2_needNoMove_1 : decode cX2_needNoMove 1 = .ok (.getfield 197, 3) := by decide +kernel
theorem dX2_needNoMove_4 : decode cX2_needNoMove 4 = .ok (.ifnull 13, 3) := by decide +kernel
theorem dX2_needNoMove_7 : decode cX2_needNoMove 7 = .ok (.new 68, 3) := by decide +kernel
theorem dX2_needNoMove_10 : decode cX2_needNoMove 10 = .ok (.dup, 1) := by decide +kernel
theorem dX2_needNoMove_11 : decode cX2_needNoMove 11 = .ok (.ldc 251, 2) := by decide +kernel
theorem dX2_needNoMove_13 : decode cX2_needNoMove 13 = .ok (.invokespecial 72, 3) := by decide +kernel
theorem dX2_needNoMove_16 : decode cX2_needNoMove 16 = .ok (.athrow, 1) := by decide +kernel
theorem dX2_needNoMove_17 : decode cX2_needNoMove 17 = .ok (.return_, 1) := by decide +kernel
theorem dX2_directoryNumbered_0 : decode cX2_directoryNumbered 0 = .ok (.iload_n 1, 1) := by decide +kernel
theorem dX2_directoryNumbered_1 : decode cX2_directoryNumbered 1 = .ok (.ifCond .lt 12, 3) := by decide +kernel
theorem dX2_directoryNumbered_4 : decode cX2_directoryNumbered 4 = .ok (.iload_n 1, 1) := by decide +kernel
theorem dX2_directoryNumbered_5 : decode cX2_directoryNumbered 5 = .ok (.aload_n 0, 1) := by decide +kernel
theorem dX2_directoryNumbered_6 : decode cX2_directoryNumbered 6 = .ok (.getfield 11, 3) := by decide +kernel
theorem dX2_directoryNumbered_9 : decode cX2_directoryNumbered 9 = .ok (.arraylength, 1) := by decide +kernel
theorem dX2_directoryNumbered_10 : decode cX2_directoryNumbered 10 = .ok (.if_icmp .lt 5, 3) := by decide +kernel
theorem dX2_directoryNumbered_13 : decode cX2_directoryNumbered 13 = .ok (.aconst_null, 1) := by decide +kernel
theorem dX2_directoryNumbered_14 : decode cX2_directoryNumbered 14 = .ok (.areturn, 1) := by decide +kernel
theorem dX2_directoryNumbered_15 : decode cX2_directoryNumbered 15 = .ok (.aload_n 0, 1) := by decide +kernel
theorem dX2_directoryNumbered_16 : decode cX2_directoryNumbered 16 = .ok (.getfield 11, 3) := by decide +kernel
theorem dX2_directoryNumbered_19 : decode cX2_directoryNumbered 19 = .ok (.iload_n 1, 1) := by decide +kernel
theorem dX2_directoryNumbered_20 : decode cX2_directoryNumbered 20 = .ok (.aaload, 1) := by decide +kernel
theorem dX2_directoryNumbered_21 : decode cX2_directoryNumbered 21 = .ok (.areturn, 1) := by decide +kernel
theorem dX2_directoryMeant_0 : decode cX2_directoryMeant 0 = .ok (.iload_n 1, 1) := by decide +kernel
theorem dX2_directoryMeant_1 : decode cX2_directoryMeant 1 = .ok (.bipush (-2), 2) := by decide +kernel
theorem dX2_directoryMeant_3 : decode cX2_directoryMeant 3 = .ok (.if_icmp .gt 14, 3) := by decide +kernel
theorem dX2_directoryMeant_6 : decode cX2_directoryMeant 6 = .ok (.aload_n 0, 1) := by decide +kernel
theorem dX2_directoryMeant_7 : decode cX2_directoryMeant 7 = .ok (.bipush (-2), 2) := by decide +kernel
theorem dX2_directoryMeant_9 : decode cX2_directoryMeant 9 = .ok (.iload_n 1, 1) := by decide +kernel
theorem dX2_directoryMeant_10 : decode cX2_directoryMeant 10 = .ok (.isub, 1) := by decide +kernel
theorem dX2_directoryMeant_11 : decode cX2_directoryMeant 11 = .ok (.invokevirtual 236, 3) := by decide +kernel
theorem dX2_directoryMeant_14 : decode cX2_directoryMeant 14 = .ok (.goto 4, 3) := by decide +kernel
theorem dX2_directoryMeant_17 : decode cX2_directoryMeant 17 = .ok (.aconst_null, 1) := by decide +kernel
theorem dX2_directoryMeant_18 : decode cX2_directoryMeant 18 = .ok (.areturn, 1) := by decide +kernel
theorem dX2_dropDirectory_0 : decode cX2_dropDirectory 0 = .ok (.iload_n 1, 1) := by decide +kernel
theorem dX2_dropDirectory_1 : decode cX2_dropDirectory 1 = .ok (.ifCond .lt 19, 3) := by decide +kernel
theorem dX2_dropDirectory_4 : decode cX2_dropDirectory 4 = .ok (.iload_n 1, 1) := by decide +kernel
theorem dX2_dropDirectory_5 : decode cX2_dropDirectory 5 = .ok (.aload_n 0, 1) := by decide +kernel
theorem dX2_dropDirectory_6 : decode cX2_dropDirectory 6 = .ok (.getfield 11, 3) := by decide +kernel
theorem dX2_dropDirectory_9 : decode cX2_dropDirectory 9 = .ok (.arraylength, 1) := by decide +kernel
theorem dX2_dropDirectory_10 : decode cX2_dropDirectory 10 = .ok (.if_icmp .ge 10, 3) := by decide +kernel
theorem dX2_dropDirectory_13 : decode cX2_dropDirectory 13 = .ok (.aload_n 0, 1) := by decide +kernel
theorem dX2_dropDirectory_14 : decode cX2_dropDirectory 14 = .ok (.getfield 11, 3) := by decide +kernel
theorem dX2_dropDirectory_17 : decode cX2_dropDirectory 17 = .ok (.iload_n 1, 1) := by decide +kernel
theorem dX2_dropDirectory_18 : decode cX2_dropDirectory 18 = .ok (.aconst_null, 1) := by decide +kernel
theorem dX2_dropDirectory_19 : decode cX2_dropDirectory 19 = .ok (.aastore, 1) := by decide +kernel
theorem dX2_dropDirectory_20 : decode cX2_dropDirectory 20 = .ok (.return_, 1) := by decide +kernel
theorem dX2_makeLink_0 : decode cX2_makeLink 0 = .ok (.aload_n 0, 1) := by decide +kernel
theorem dX2_makeLink_1 : decode cX2_makeLink 1 = .ok (.dup, 1) := by decide +kernel
theorem dX2_makeLink_2 : decode cX2_makeLink 2 = .ok (.getfield 253, 3) := by decide +kernel
theorem dX2_makeLink_5 : decode cX2_makeLink 5 = .ok (.iconst 1, 1) := by decide +kernel
theorem dX2_makeLink_6 : decode cX2_makeLink 6 = .ok (.iadd, 1) := by decide +kernel
theorem dX2_makeLink_7 : decode cX2_makeLink 7 = .ok (.putfield 253, 3) := by decide +kernel
theorem dX2_makeLink_10 : decode cX2_makeLink 10 = .ok (.aload_n 0, 1) := by decide +kernel
theorem dX2_makeLink_11 : decode cX2_makeLink 11 = .ok (.iload_n 1, 1) := by decide +kernel
theorem dX2_makeLink_12 : decode cX2_makeLink 12 = .ok (.aload_n 2, 1) := by decide +kernel
theorem dX2_makeLink_13 : decode cX2_makeLink 13 = .ok (.iload_n 3, 1) := by decide +kernel
theorem dX2_makeLink_14 : decode cX2_makeLink 14 = .ok (.iload 4, 2) := by decide +kernel
theorem dX2_makeLink_16 : decode cX2_makeLink 16 = .ok (.aload_n 0, 1) := by decide +kernel
theorem dX2_makeLink_17 : decode cX2_makeLink 17 = .ok (.getfield 253, 3) := by decide +kernel
theorem dX2_makeLink_20 : decode cX2_makeLink 20 = .ok (.invokevirtual 75, 3) := by decide +kernel
theorem dX2_makeLink_23 : decode cX2_makeLink 23 = .ok (.return_, 1) := by decide +kernel
theorem dX2_changeName_0 : decode cX2_changeName 0 = .ok (.aload_n 2, 1) := by decide +kernel
theorem dX2_changeName_1 : decode cX2_changeName 1 = .ok (.iload_n 3, 1) := by decide +kernel
theorem dX2_changeName_2 : decode cX2_changeName 2 = .ok (.iload 4, 2) := by decide +kernel
theorem dX2_changeName_4 : decode cX2_changeName 4 = .ok (.iload 5, 2) := by decide +kernel
theorem dX2_changeName_6 : decode cX2_changeName 6 = .ok (.invokevirtual 256, 3) := by decide +kernel
theorem dX2_changeName_9 : decode cX2_changeName 9 = .ok (.aload_n 2, 1) := by decide +kernel
theorem dX2_changeName_10 : decode cX2_changeName 10 = .ok (.iload_n 3, 1) := by decide +kernel
theorem dX2_changeName_11 : decode cX2_changeName 11 = .ok (.invokevirtual 47, 3) := by decide +kernel
theorem dX2_changeName_14 : decode cX2_changeName 14 = .ok (.dup, 1) := by decide +kernel
theorem dX2_changeName_15 : decode cX2_changeName 15 = .ok (.getfield 51, 3) := by decide +kernel
theorem dX2_changeName_18 : decode cX2_changeName 18 = .ok (.iconst 1, 1) := by decide +kernel
theorem dX2_changeName_19 : decode cX2_changeName 19 = .ok (.iadd, 1) := by decide +kernel
theorem dX2_changeName_20 : decode cX2_changeName 20 = .ok (.putfield 51, 3) := by decide +kernel
theorem dX2_changeName_23 : decode cX2_changeName 23 = .ok (.aload_n 0, 1) := by decide +kernel
theorem dX2_changeName_24 : decode cX2_changeName 24 = .ok (.aload_n 2, 1) := by decide +kernel
theorem dX2_changeName_25 : decode cX2_changeName 25 = .ok (.iload_n 3, 1) := by decide +kernel
theorem dX2_changeName_26 : decode cX2_changeName 26 = .ok (.iload_n 1, 1) := by decide +kernel
theorem dX2_changeName_27 : decode cX2_changeName 27 = .ok (.invokevirtual 259, 3) := by decide +kernel
theorem dX2_changeName_30 : decode cX2_changeName 30 = .ok (.return_, 1) := by decide +kernel
theorem dX2_endLeases_0 : decode cX2_endLeases 0 = .ok (.iconst 0, 1) := by decide +kernel
theorem dX2_endLeases_1 : decode cX2_endLeases 1 = .ok (.istore 4, 2) := by decide +kernel
theorem dX2_endLeases_3 : decode cX2_endLeases 3 = .ok (.iload 4, 2) := by decide +kernel
theorem dX2_endLeases_5 : decode cX2_endLeases 5 = .ok (.iconst 4, 1) := by decide +kernel
theorem dX2_endLeases_6 : decode cX2_endLeases 6 = .ok (.if_icmp .ge 51, 3) := by decide +kernel
theorem dX2_endLeases_9 : decode cX2_endLeases 9 = .ok (.aload_n 1, 1) := by decide +kernel
theorem dX2_endLeases_10 : decode cX2_endLeases 10 = .ok (.iload 4, 2) := by decide +kernel
theorem dX2_endLeases_12 : decode cX2_endLeases 12 = .ok (.iload_n 2, 1) := by decide +kernel
theorem dX2_endLeases_13 : decode cX2_endLeases 13 = .ok (.aload_n 0, 1) := by decide +kernel
theorem dX2_endLeases_14 : decode cX2_endLeases 14 = .ok (.getfield 40, 3) := by decide +kernel
theorem dX2_endLeases_17 : decode cX2_endLeases 17 = .ok (.invokevirtual 43, 3) := by decide +kernel
theorem dX2_endLeases_20 : decode cX2_endLeases 20 = .ok (.ifCond .eq 31, 3) := by decide +kernel
theorem dX2_endLeases_23 : decode cX2_endLeases 23 = .ok (.aload_n 1, 1) := by decide +kernel
theorem dX2_endLeases_24 : decode cX2_endLeases 24 = .ok (.iload 4, 2) := by decide +kernel
theorem dX2_endLeases_26 : decode cX2_endLeases 26 = .ok (.iload_n 2, 1) := by decide +kernel
theorem dX2_endLeases_27 : decode cX2_endLeases 27 = .ok (.aload_n 0, 1) := by decide +kernel
theorem dX2_endLeases_28 : decode cX2_endLeases 28 = .ok (.getfield 40, 3) := by decide +kernel
theorem dX2_endLeases_31 : decode cX2_endLeases 31 = .ok (.invokevirtual 56, 3) := by decide +kernel
theorem dX2_endLeases_34 : decode cX2_endLeases 34 = .ok (.iload 4, 2) := by decide +kernel
theorem dX2_endLeases_36 : decode cX2_endLeases 36 = .ok (.iload_n 3, 1) := by decide +kernel
theorem dX2_endLeases_37 : decode cX2_endLeases 37 = .ok (.if_icmp .eq 14, 3) := by decide +kernel
theorem dX2_endLeases_40 : decode cX2_endLeases 40 = .ok (.aload_n 0, 1) := by decide +kernel
theorem dX2_endLeases_41 : decode cX2_endLeases 41 = .ok (.getfield 15, 3) := by decide +kernel
theorem dX2_endLeases_44 : decode cX2_endLeases 44 = .ok (.iload 4, 2) := by decide +kernel
theorem dX2_endLeases_46 : decode cX2_endLeases 46 = .ok (.dup2, 1) := by decide +kernel
theorem dX2_endLeases_47 : decode cX2_endLeases 47 = .ok (.iaload, 1) := by decide +kernel
theorem dX2_endLeases_48 : decode cX2_endLeases 48 = .ok (.iconst 1, 1) := by decide +kernel
theorem dX2_endLeases_49 : decode cX2_endLeases 49 = .ok (.iadd, 1) := by decide +kernel
theorem dX2_endLeases_50 : decode cX2_endLeases 50 = .ok (.iastore, 1) := by decide +kernel
theorem dX2_endLeases_51 : decode cX2_endLeases 51 = .ok (.iinc 4 1, 3) := by decide +kernel
theorem dX2_endLeases_54 : decode cX2_endLeases 54 = .ok (.goto (-51), 3) := by decide +kernel
theorem dX2_endLeases_57 : decode cX2_endLeases 57 = .ok (.return_, 1) := by decide +kernel
theorem dX2_recallFrozenNames_0 : decode cX2_recallFrozenNames 0 = .ok (.iconst 0, 1) := by decide +kernel
theorem dX2_recallFrozenNames_1 : decode cX2_recallFrozenNames 1 = .ok (.istore_n 1, 1) := by decide +kernel
theorem dX2_recallFrozenNames_2 : decode cX2_recallFrozenNames 2 = .ok (.iload_n 1, 1) := by decide +kernel
theorem dX2_recallFrozenNames_3 : decode cX2_recallFrozenNames 3 = .ok (.aload_n 0, 1) := by decide +kernel
theorem dX2_recallFrozenNames_4 : decode cX2_recallFrozenNames 4 = .ok (.getfield 11, 3) := by decide +kernel
theorem dX2_recallFrozenNames_7 : decode cX2_recallFrozenNames 7 = .ok (.arraylength, 1) := by decide +kernel
theorem dX2_recallFrozenNames_8 : decode cX2_recallFrozenNames 8 = .ok (.if_icmp .ge 25, 3) := by decide +kernel
theorem dX2_recallFrozenNames_11 : decode cX2_recallFrozenNames 11 = .ok (.aload_n 0, 1) := by decide +kernel
theorem dX2_recallFrozenNames_12 : decode cX2_recallFrozenNames 12 = .ok (.getfield 11, 3) := by decide +kernel
theorem dX2_recallFrozenNames_15 : decode cX2_recallFrozenNames 15 = .ok (.iload_n 1, 1) := by decide +kernel
theorem dX2_recallFrozenNames_16 : decode cX2_recallFrozenNames 16 = .ok (.aaload, 1) := by decide +kernel
theorem dX2_recallFrozenNames_17 : decode cX2_recallFrozenNames 17 = .ok (.astore_n 2, 1) := by decide +kernel
theorem dX2_recallFrozenNames_18 : decode cX2_recallFrozenNames 18 = .ok (.aload_n 2, 1) := by decide +kernel
theorem dX2_recallFrozenNames_19 : decode cX2_recallFrozenNames 19 = .ok (.ifnull 8, 3) := by decide +kernel
theorem dX2_recallFrozenNames_22 : decode cX2_recallFrozenNames 22 = .ok (.aload_n 0, 1) := by decide +kernel
theorem dX2_recallFrozenNames_23 : decode cX2_recallFrozenNames 23 = .ok (.aload_n 2, 1) := by decide +kernel
theorem dX2_recallFrozenNames_24 : decode cX2_recallFrozenNames 24 = .ok (.invokevirtual 263, 3) := by decide +kernel
theorem dX2_recallFrozenNames_27 : decode cX2_recallFrozenNames 27 = .ok (.iinc 1 1, 3) := by decide +kernel
theorem dX2_recallFrozenNames_30 : decode cX2_recallFrozenNames 30 = .ok (.goto (-28), 3) := by decide +kernel
theorem dX2_recallFrozenNames_33 : decode cX2_recallFrozenNames 33 = .ok (.return_, 1) := by decide +kernel
theorem dX2_recallFrozenNamesOf_0 : decode cX2_recallFrozenNamesOf 0 = .ok (.iconst 0, 1) := by decide +kernel
theorem dX2_recallFrozenNamesOf_1 : decode cX2_recallFrozenNamesOf 1 = .ok (.istore_n 2, 1) := by decide +kernel
theorem dX2_recallFrozenNamesOf_2 : decode cX2_recallFrozenNamesOf 2 = .ok (.iload_n 2, 1) := by decide +kernel
theorem dX2_recallFrozenNamesOf_3 : decode cX2_recallFrozenNamesOf 3 = .ok (.bipush 50, 2) := by decide +kernel
theorem dX2_recallFrozenNamesOf_5 : decode cX2_recallFrozenNamesOf 5 = .ok (.if_icmp .ge 28, 3) := by decide +kernel
theorem dX2_recallFrozenNamesOf_8 : decode cX2_recallFrozenNamesOf 8 = .ok (.aload_n 0, 1) := by decide +kernel
theorem dX2_recallFrozenNamesOf_9 : decode cX2_recallFrozenNamesOf 9 = .ok (.aload_n 1, 1) := by decide +kernel
theorem dX2_recallFrozenNamesOf_10 : decode cX2_recallFrozenNamesOf 10 = .ok (.iload_n 2, 1) := by decide +kernel
theorem dX2_recallFrozenNamesOf_11 : decode cX2_recallFrozenNamesOf 11 = .ok (.invokevirtual 47, 3) := by decide +kernel
theorem dX2_recallFrozenNamesOf_14 : decode cX2_recallFrozenNamesOf 14 = .ok (.invokevirtual 148, 3) := by decide +kernel
theorem dX2_recallFrozenNamesOf_17 : decode cX2_recallFrozenNamesOf 17 = .ok (.ifCond .eq 10, 3) := by decide +kernel
theorem dX2_recallFrozenNamesOf_20 : decode cX2_recallFrozenNamesOf 20 = .ok (.aload_n 0, 1) := by decide +kernel
theorem dX2_recallFrozenNamesOf_21 : decode cX2_recallFrozenNamesOf 21 = .ok (.aload_n 1, 1) := by decide +kernel
theorem dX2_recallFrozenNamesOf_22 : decode cX2_recallFrozenNamesOf 22 = .ok (.iload_n 2, 1) := by decide +kernel
theorem dX2_recallFrozenNamesOf_23 : decode cX2_recallFrozenNamesOf 23 = .ok (.iconst (-1), 1) := by decide +kernel
theorem dX2_recallFrozenNamesOf_24 : decode cX2_recallFrozenNamesOf 24 = .ok (.invokevirtual 259, 3) := by decide +kernel
theorem dX2_recallFrozenNamesOf_27 : decode cX2_recallFrozenNamesOf 27 = .ok (.iinc 2 1, 3) := by decide +kernel
theorem dX2_recallFrozenNamesOf_30 : decode cX2_recallFrozenNamesOf 30 = .ok (.goto (-28), 3) := by decide +kernel
theorem dX2_recallFrozenNamesOf_33 : decode cX2_recallFrozenNamesOf 33 = .ok (.return_, 1) := by decide +kernel
theorem dX2_countLinks_0 : decode cX2_countLinks 0 = .ok (.iconst 0, 1) := by decide +kernel
theorem dX2_countLinks_1 : decode cX2_countLinks 1 = .ok (.istore_n 2, 1) := by decide +kernel
theorem dX2_countLinks_2 : decode cX2_countLinks 2 = .ok (.iconst 0, 1) := by decide +kernel
theorem dX2_countLinks_3 : decode cX2_countLinks 3 = .ok (.istore_n 3, 1) := by decide +kernel
theorem dX2_countLinks_4 : decode cX2_countLinks 4 = .ok (.iload_n 3, 1) := by decide +kernel
theorem dX2_countLinks_5 : decode cX2_countLinks 5 = .ok (.aload_n 0, 1) := by decide +kernel
theorem dX2_countLinks_6 : decode cX2_countLinks 6 = .ok (.getfield 11, 3) := by decide +kernel
theorem dX2_countLinks_9 : decode cX2_countLinks 9 = .ok (.arraylength, 1) := by decide +kernel
theorem dX2_countLinks_10 : decode cX2_countLinks 10 = .ok (.if_icmp .ge 31, 3) := by decide +kernel
theorem dX2_countLinks_13 : decode cX2_countLinks 13 = .ok (.aload_n 0, 1) := by decide +kernel
theorem dX2_countLinks_14 : decode cX2_countLinks 14 = .ok (.getfield 11, 3) := by decide +kernel
theorem dX2_countLinks_17 : decode cX2_countLinks 17 = .ok (.iload_n 3, 1) := by decide +kernel
theorem dX2_countLinks_18 : decode cX2_countLinks 18 = .ok (.aaload, 1) := by decide +kernel
theorem dX2_countLinks_19 : decode cX2_countLinks 19 = .ok (.astore 4, 2) := by decide +kernel
theorem dX2_countLinks_21 : decode cX2_countLinks 21 = .ok (.aload 4, 2) := by decide +kernel
theorem dX2_countLinks_23 : decode cX2_countLinks 23 = .ok (.ifnull 12, 3) := by decide +kernel
theorem dX2_countLinks_26 : decode cX2_countLinks 26 = .ok (.iload_n 2, 1) := by decide +kernel
theorem dX2_countLinks_27 : decode cX2_countLinks 27 = .ok (.aload 4, 2) := by decide +kernel
theorem dX2_countLinks_29 : decode cX2_countLinks 29 = .ok (.iload_n 1, 1) := by decide +kernel
theorem dX2_countLinks_30 : decode cX2_countLinks 30 = .ok (.invokevirtual 266, 3) := by decide +kernel
theorem dX2_countLinks_33 : decode cX2_countLinks 33 = .ok (.iadd, 1) := by decide +kernel
theorem dX2_countLinks_34 : decode cX2_countLinks 34 = .ok (.istore_n 2, 1) := by decide +kernel
theorem dX2_countLinks_35 : decode cX2_countLinks 35 = .ok (.iinc 3 1, 3) := by decide +kernel
theorem dX2_countLinks_38 : decode cX2_countLinks 38 = .ok (.goto (-34), 3) := by decide +kernel
theorem dX2_countLinks_41 : decode cX2_countLinks 41 = .ok (.iload_n 2, 1) := by decide +kernel
theorem dX2_countLinks_42 : decode cX2_countLinks 42 = .ok (.ireturn, 1) := by decide +kernel
theorem dX2_serverOfFragment_0 : decode cX2_serverOfFragment 0 = .ok (.aload_n 1, 1) := by decide +kernel
theorem dX2_serverOfFragment_1 : decode cX2_serverOfFragment 1 = .ok (.astore_n 2, 1) := by decide +kernel
theorem dX2_serverOfFragment_2 : decode cX2_serverOfFragment 2 = .ok (.iconst 0, 1) := by decide +kernel
theorem dX2_serverOfFragment_3 : decode cX2_serverOfFragment 3 = .ok (.istore_n 3, 1) := by decide +kernel
theorem dX2_serverOfFragment_4 : decode cX2_serverOfFragment 4 = .ok (.aload_n 2, 1) := by decide +kernel
theorem dX2_serverOfFragment_5 : decode cX2_serverOfFragment 5 = .ok (.ifnull 34, 3) := by decide +kernel
theorem dX2_serverOfFragment_8 : decode cX2_serverOfFragment 8 = .ok (.iload_n 3, 1) := by decide +kernel
theorem dX2_serverOfFragment_9 : decode cX2_serverOfFragment 9 = .ok (.bipush 12, 2) := by decide +kernel
theorem dX2_serverOfFragment_11 : decode cX2_serverOfFragment 11 = .ok (.if_icmp .ge 28, 3) := by decide +kernel
theorem dX2_serverOfFragment_14 : decode cX2_serverOfFragment 14 = .ok (.aload_n 2, 1) := by decide +kernel
theorem dX2_serverOfFragment_15 : decode cX2_serverOfFragment 15 = .ok (.getfield 167, 3) := by decide +kernel
theorem dX2_serverOfFragment_18 : decode cX2_serverOfFragment 18 = .ok (.iconst (-1), 1) := by decide +kernel
theorem dX2_serverOfFragment_19 : decode cX2_serverOfFragment 19 = .ok (.if_icmp .eq 8, 3) := by decide +kernel
theorem dX2_serverOfFragment_22 : decode cX2_serverOfFragment 22 = .ok (.aload_n 2, 1) := by decide +kernel
theorem dX2_serverOfFragment_23 : decode cX2_serverOfFragment 23 = .ok (.getfield 167, 3) := by decide +kernel
theorem dX2_serverOfFragment_26 : decode cX2_serverOfFragment 26 = .ok (.ireturn, 1) := by decide +kernel
theorem dX2_serverOfFragment_27 : decode cX2_serverOfFragment 27 = .ok (.aload_n 0, 1) := by decide +kernel
theorem dX2_serverOfFragment_28 : decode cX2_serverOfFragment 28 = .ok (.aload_n 2, 1) := by decide +kernel
theorem dX2_serverOfFragment_29 : decode cX2_serverOfFragment 29 = .ok (.invokevirtual 269, 3) := by decide +kernel
theorem dX2_serverOfFragment_32 : decode cX2_serverOfFragment 32 = .ok (.astore_n 2, 1) := by decide +kernel
theorem dX2_serverOfFragment_33 : decode cX2_serverOfFragment 33 = .ok (.iinc 3 1, 3) := by decide +kernel
theorem dX2_serverOfFragment_36 : decode cX2_serverOfFragment 36 = .ok (.goto (-32), 3) := by decide +kernel
theorem dX2_serverOfFragment_39 : decode cX2_serverOfFragment 39 = .ok (.iconst 0, 1) := by decide +kernel
theorem dX2_serverOfFragment_40 : decode cX2_serverOfFragment 40 = .ok (.ireturn, 1) := by decide +kernel
theorem dX2_fragmentAbove_0 : decode cX2_fragmentAbove 0 = .ok (.aload_n 0, 1) := by decide +kernel
theorem dX2_fragmentAbove_1 : decode cX2_fragmentAbove 1 = .ok (.aload_n 1, 1) := by decide +kernel
theorem dX2_fragmentAbove_2 : decode cX2_fragmentAbove 2 = .ok (.getfield 219, 3) := by decide +kernel
theorem dX2_fragmentAbove_5 : decode cX2_fragmentAbove 5 = .ok (.invokevirtual 236, 3) := by decide +kernel
theorem dX2_fragmentAbove_8 : decode cX2_fragmentAbove 8 = .ok (.astore_n 2, 1) := by decide +kernel
theorem dX2_fragmentAbove_9 : decode cX2_fragmentAbove 9 = .ok (.aload_n 2, 1) := by decide +kernel
theorem dX2_fragmentAbove_10 : decode cX2_fragmentAbove 10 = .ok (.ifnull 10, 3) := by decide +kernel
theorem dX2_fragmentAbove_13 : decode cX2_fragmentAbove 13 = .ok (.aload_n 2, 1) := by decide +kernel
theorem dX2_fragmentAbove_14 : decode cX2_fragmentAbove 14 = .ok (.getfield 123, 3) := by decide +kernel
theorem dX2_fragmentAbove_17 : decode cX2_fragmentAbove 17 = .ok (.ifnonnull 5, 3) := by decide +kernel
theorem dX2_fragmentAbove_20 : decode cX2_fragmentAbove 20 = .ok (.aconst_null, 1) := by decide +kernel
theorem dX2_fragmentAbove_21 : decode cX2_fragmentAbove 21 = .ok (.areturn, 1) := by decide +kernel
theorem dX2_fragmentAbove_22 : decode cX2_fragmentAbove 22 = .ok (.aload_n 2, 1) := by decide +kernel
theorem dX2_fragmentAbove_23 : decode cX2_fragmentAbove 23 = .ok (.getfield 123, 3) := by decide +kernel
theorem dX2_fragmentAbove_26 : decode cX2_fragmentAbove 26 = .ok (.aload_n 2, 1) := by decide +kernel
theorem dX2_fragmentAbove_27 : decode cX2_fragmentAbove 27 = .ok (.getfield 127, 3) := by decide +kernel
theorem dX2_fragmentAbove_30 : decode cX2_fragmentAbove 30 = .ok (.invokevirtual 47, 3) := by decide +kernel
theorem dX2_fragmentAbove_33 : decode cX2_fragmentAbove 33 = .ok (.areturn, 1) := by decide +kernel
theorem dX2_frozen_0 : decode cX2_frozen 0 = .ok (.aload_n 1, 1) := by decide +kernel
theorem dX2_frozen_1 : decode cX2_frozen 1 = .ok (.astore_n 2, 1) := by decide +kernel
theorem dX2_frozen_2 : decode cX2_frozen 2 = .ok (.iconst 0, 1) := by decide +kernel
theorem dX2_frozen_3 : decode cX2_frozen 3 = .ok (.istore_n 3, 1) := by decide +kernel
theorem dX2_frozen_4 : decode cX2_frozen 4 = .ok (.aload_n 2, 1) := by decide +kernel
theorem dX2_frozen_5 : decode cX2_frozen 5 = .ok (.ifnull 41, 3) := by decide +kernel
theorem dX2_frozen_8 : decode cX2_frozen 8 = .ok (.iload_n 3, 1) := by decide +kernel
theorem dX2_frozen_9 : decode cX2_frozen 9 = .ok (.bipush 12, 2) := by decide +kernel
theorem dX2_frozen_11 : decode cX2_frozen 11 = .ok (.if_icmp .ge 35, 3) := by decide +kernel
theorem dX2_frozen_14 : decode cX2_frozen 14 = .ok (.aload_n 2, 1) := by decide +kernel
theorem dX2_frozen_15 : decode cX2_frozen 15 = .ok (.aload_n 0, 1) := by decide +kernel
theorem dX2_frozen_16 : decode cX2_frozen 16 = .ok (.getfield 197, 3) := by decide +kernel
theorem dX2_frozen_19 : decode cX2_frozen 19 = .ok (.if_acmp .ne 5, 3) := by decide +kernel
theorem dX2_frozen_22 : decode cX2_frozen 22 = .ok (.iconst 1, 1) := by decide +kernel
theorem dX2_frozen_23 : decode cX2_frozen 23 = .ok (.ireturn, 1) := by decide +kernel
theorem dX2_frozen_24 : decode cX2_frozen 24 = .ok (.aload_n 2, 1) := by decide +kernel
theorem dX2_frozen_25 : decode cX2_frozen 25 = .ok (.getfield 167, 3) := by decide +kernel
theorem dX2_frozen_28 : decode cX2_frozen 28 = .ok (.iconst (-1), 1) := by decide +kernel
theorem dX2_frozen_29 : decode cX2_frozen 29 = .ok (.if_icmp .eq 5, 3) := by decide +kernel
theorem dX2_frozen_32 : decode cX2_frozen 32 = .ok (.iconst 0, 1) := by decide +kernel
theorem dX2_frozen_33 : decode cX2_frozen 33 = .ok (.ireturn, 1) := by decide +kernel
theorem dX2_frozen_34 : decode cX2_frozen 34 = .ok (.aload_n 0, 1) := by decide +kernel
theorem dX2_frozen_35 : decode cX2_frozen 35 = .ok (.aload_n 2, 1) := by decide +kernel
theorem dX2_frozen_36 : decode cX2_frozen 36 = .ok (.invokevirtual 269, 3) := by decide +kernel
theorem dX2_frozen_39 : decode cX2_frozen 39 = .ok (.astore_n 2, 1) := by decide +kernel
theorem dX2_frozen_40 : decode cX2_frozen 40 = .ok (.iinc 3 1, 3) := by decide +kernel
theorem dX2_frozen_43 : decode cX2_frozen 43 = .ok (.goto (-39), 3) := by decide +kernel
theorem dX2_frozen_46 : decode cX2_frozen 46 = .ok (.iconst 0, 1) := by decide +kernel
theorem dX2_frozen_47 : decode cX2_frozen 47 = .ok (.ireturn, 1) := by decide +kernel
theorem dX2_startMove_0 : decode cX2_startMove 0 = .ok (.aload_n 0, 1) := by decide +kernel
theorem dX2_startMove_1 : decode cX2_startMove 1 = .ok (.aload_n 1, 1) := by decide +kernel
theorem dX2_startMove_2 : decode cX2_startMove 2 = .ok (.putfield 197, 3) := by decide +kernel
theorem dX2_startMove_5 : decode cX2_startMove 5 = .ok (.aload_n 0, 1) := by decide +kernel
theorem dX2_startMove_6 : decode cX2_startMove 6 = .ok (.iload_n 2, 1) := by decide +kernel
theorem dX2_startMove_7 : decode cX2_startMove 7 = .ok (.putfield 209, 3) := by decide +kernel
theorem dX2_startMove_10 : decode cX2_startMove 10 = .ok (.aload_n 0, 1) := by decide +kernel
theorem dX2_startMove_11 : decode cX2_startMove 11 = .ok (.iconst 0, 1) := by decide +kernel
theorem dX2_startMove_12 : decode cX2_startMove 12 = .ok (.putfield 203, 3) := by decide +kernel
theorem dX2_startMove_15 : decode cX2_startMove 15 = .ok (.return_, 1) := by decide +kernel
theorem dX2_loadOfServer_0 : decode cX2_loadOfServer 0 = .ok (.iconst 0, 1) := by decide +kernel
theorem dX2_loadOfServer_1 : decode cX2_loadOfServer 1 = .ok (.istore_n 2, 1) := by decide +kernel
theorem dX2_loadOfServer_2 : decode cX2_loadOfServer 2 = .ok (.iconst 0, 1) := by decide +kernel
theorem dX2_loadOfServer_3 : decode cX2_loadOfServer 3 = .ok (.istore_n 3, 1) := by decide +kernel
theorem dX2_loadOfServer_4 : decode cX2_loadOfServer 4 = .ok (.iload_n 3, 1) := by decide +kernel
theorem dX2_loadOfServer_5 : decode cX2_loadOfServer 5 = .ok (.bipush 96, 2) := by decide +kernel
theorem dX2_loadOfServer_7 : decode cX2_loadOfServer 7 = .ok (.if_icmp .ge 39, 3) := by decide +kernel
theorem dX2_loadOfServer_10 : decode cX2_loadOfServer 10 = .ok (.aload_n 0, 1) := by decide +kernel
theorem dX2_loadOfServer_11 : decode cX2_loadOfServer 11 = .ok (.iload_n 3, 1) := by decide +kernel
theorem dX2_loadOfServer_12 : decode cX2_loadOfServer 12 = .ok (.invokevirtual 273, 3) := by decide +kernel
theorem dX2_loadOfServer_15 : decode cX2_loadOfServer 15 = .ok (.astore 4, 2) := by decide +kernel
theorem dX2_loadOfServer_17 : decode cX2_loadOfServer 17 = .ok (.aload 4, 2) := by decide +kernel
theorem dX2_loadOfServer_19 : decode cX2_loadOfServer 19 = .ok (.ifnull 21, 3) := by decide +kernel
theorem dX2_loadOfServer_22 : decode cX2_loadOfServer 22 = .ok (.aload_n 0, 1) := by decide +kernel
theorem dX2_loadOfServer_23 : decode cX2_loadOfServer 23 = .ok (.aload 4, 2) := by decide +kernel
theorem dX2_loadOfServer_25 : decode cX2_loadOfServer 25 = .ok (.invokevirtual 178, 3) := by decide +kernel
theorem dX2_loadOfServer_28 : decode cX2_loadOfServer 28 = .ok (.iload_n 1, 1) := by decide +kernel
theorem dX2_loadOfServer_29 : decode cX2_loadOfServer 29 = .ok (.if_icmp .ne 11, 3) := by decide +kernel
theorem dX2_loadOfServer_32 : decode cX2_loadOfServer 32 = .ok (.iload_n 2, 1) := by decide +kernel
theorem dX2_loadOfServer_33 : decode cX2_loadOfServer 33 = .ok (.aload 4, 2) := by decide +kernel
theorem dX2_loadOfServer_35 : decode cX2_loadOfServer 35 = .ok (.getfield 51, 3) := by decide +kernel
theorem dX2_loadOfServer_38 : decode cX2_loadOfServer 38 = .ok (.iadd, 1) := by decide +kernel
theorem dX2_loadOfServer_39 : decode cX2_loadOfServer 39 = .ok (.istore_n 2, 1) := by decide +kernel
theorem dX2_loadOfServer_40 : decode cX2_loadOfServer 40 = .ok (.iinc 3 1, 3) := by decide +kernel
theorem dX2_loadOfServer_43 : decode cX2_loadOfServer 43 = .ok (.goto (-39), 3) := by decide +kernel
theorem dX2_loadOfServer_46 : decode cX2_loadOfServer 46 = .ok (.iload_n 2, 1) := by decide +kernel
theorem dX2_loadOfServer_47 : decode cX2_loadOfServer 47 = .ok (.ireturn, 1) := by decide +kernel
theorem dX2_heaviestFragment_0 : decode cX2_heaviestFragment 0 = .ok (.aconst_null, 1) := by decide +kernel
theorem dX2_heaviestFragment_1 : decode cX2_heaviestFragment 1 = .ok (.astore_n 3, 1) := by decide +kernel
theorem dX2_heaviestFragment_2 : decode cX2_heaviestFragment 2 = .ok (.iconst 0, 1) := by decide +kernel
theorem dX2_heaviestFragment_3 : decode cX2_heaviestFragment 3 = .ok (.istore 4, 2) := by decide +kernel
theorem dX2_heaviestFragment_5 : decode cX2_heaviestFragment 5 = .ok (.iconst 0, 1) := by decide +kernel
theorem dX2_heaviestFragment_6 : decode cX2_heaviestFragment 6 = .ok (.istore 5, 2) := by decide +kernel
theorem dX2_heaviestFragment_8 : decode cX2_heaviestFragment 8 = .ok (.iload 5, 2) := by decide +kernel
theorem dX2_heaviestFragment_10 : decode cX2_heaviestFragment 10 = .ok (.bipush 96, 2) := by decide +kernel
theorem dX2_heaviestFragment_12 : decode cX2_heaviestFragment 12 = .ok (.if_icmp .ge 61, 3) := by decide +kernel
theorem dX2_heaviestFragment_15 : decode cX2_heaviestFragment 15 = .ok (.aload_n 0, 1) := by decide +kernel
theorem dX2_heaviestFragment_16 : decode cX2_heaviestFragment 16 = .ok (.iload 5, 2) := by decide +kernel
theorem dX2_heaviestFragment_18 : decode cX2_heaviestFragment 18 = .ok (.invokevirtual 273, 3) := by decide +kernel
theorem dX2_heaviestFragment_21 : decode cX2_heaviestFragment 21 = .ok (.astore 6, 2) := by decide +kernel
theorem dX2_heaviestFragment_23 : decode cX2_heaviestFragment 23 = .ok (.aload 6, 2) := by decide +kernel
theorem dX2_heaviestFragment_25 : decode cX2_heaviestFragment 25 = .ok (.ifnull 42, 3) := by decide +kernel
theorem dX2_heaviestFragment_28 : decode cX2_heaviestFragment 28 = .ok (.aload 6, 2) := by decide +kernel
theorem dX2_heaviestFragment_30 : decode cX2_heaviestFragment 30 = .ok (.getfield 51, 3) := by decide +kernel
theorem dX2_heaviestFragment_33 : decode cX2_heaviestFragment 33 = .ok (.iload 4, 2) := by decide +kernel
theorem dX2_heaviestFragment_35 : decode cX2_heaviestFragment 35 = .ok (.if_icmp .le 32, 3) := by decide +kernel
theorem dX2_heaviestFragment_38 : decode cX2_heaviestFragment 38 = .ok (.aload 6, 2) := by decide +kernel
theorem dX2_heaviestFragment_40 : decode cX2_heaviestFragment 40 = .ok (.getfield 51, 3) := by decide +kernel
theorem dX2_heaviestFragment_43 : decode cX2_heaviestFragment 43 = .ok (.iload_n 2, 1) := by decide +kernel
theorem dX2_heaviestFragment_44 : decode cX2_heaviestFragment 44 = .ok (.if_icmp .gt 23, 3) := by decide +kernel
theorem dX2_heaviestFragment_47 : decode cX2_heaviestFragment 47 = .ok (.aload_n 0, 1) := by decide +kernel
theorem dX2_heaviestFragment_48 : decode cX2_heaviestFragment 48 = .ok (.aload 6, 2) := by decide +kernel
theorem dX2_heaviestFragment_50 : decode cX2_heaviestFragment 50 = .ok (.invokevirtual 178, 3) := by decide +kernel
theorem dX2_heaviestFragment_53 : decode cX2_heaviestFragment 53 = .ok (.iload_n 1, 1) := by decide +kernel
theorem dX2_heaviestFragment_54 : decode cX2_heaviestFragment 54 = .ok (.if_icmp .ne 13, 3) := by decide +kernel
theorem dX2_heaviestFragment_57 : decode cX2_heaviestFragment 57 = .ok (.aload 6, 2) := by decide +kernel
theorem dX2_heaviestFragment_59 : decode cX2_heaviestFragment 59 = .ok (.astore_n 3, 1) := by decide +kernel
theorem dX2_heaviestFragment_60 : decode cX2_heaviestFragment 60 = .ok (.aload 6, 2) := by decide +kernel
theorem dX2_heaviestFragment_62 : decode cX2_heaviestFragment 62 = .ok (.getfield 51, 3) := by decide +kernel
theorem dX2_heaviestFragment_65 : decode cX2_heaviestFragment 65 = .ok (.istore 4, 2) := by decide +kernel
theorem dX2_heaviestFragment_67 : decode cX2_heaviestFragment 67 = .ok (.iinc 5 1, 3) := by decide +kernel
theorem dX2_heaviestFragment_70 : decode cX2_heaviestFragment 70 = .ok (.goto (-62), 3) := by decide +kernel
theorem dX2_heaviestFragment_73 : decode cX2_heaviestFragment 73 = .ok (.aload_n 3, 1) := by decide +kernel
theorem dX2_heaviestFragment_74 : decode cX2_heaviestFragment 74 = .ok (.areturn, 1) := by decide +kernel
theorem dX2_halveLoads_0 : decode cX2_halveLoads 0 = .ok (.iconst 0, 1) := by decide +kernel
theorem dX2_halveLoads_1 : decode cX2_halveLoads 1 = .ok (.istore_n 1, 1) := by decide +kernel
theorem dX2_halveLoads_2 : decode cX2_halveLoads 2 = .ok (.iload_n 1, 1) := by decide +kernel
theorem dX2_halveLoads_3 : decode cX2_halveLoads 3 = .ok (.bipush 96, 2) := by decide +kernel
theorem dX2_halveLoads_5 : decode cX2_halveLoads 5 = .ok (.if_icmp .ge 29, 3) := by decide +kernel
theorem dX2_halveLoads_8 : decode cX2_halveLoads 8 = .ok (.aload_n 0, 1) := by decide +kernel
theorem dX2_halveLoads_9 : decode cX2_halveLoads 9 = .ok (.iload_n 1, 1) := by decide +kernel
theorem dX2_halveLoads_10 : decode cX2_halveLoads 10 = .ok (.invokevirtual 273, 3) := by decide +kernel
theorem dX2_halveLoads_13 : decode cX2_halveLoads 13 = .ok (.astore_n 2, 1) := by decide +kernel
theorem dX2_halveLoads_14 : decode cX2_halveLoads 14 = .ok (.aload_n 2, 1) := by decide +kernel
theorem dX2_halveLoads_15 : decode cX2_halveLoads 15 = .ok (.ifnull 13, 3) := by decide +kernel
theorem dX2_halveLoads_18 : decode cX2_halveLoads 18 = .ok (.aload_n 2, 1) := by decide +kernel
theorem dX2_halveLoads_19 : decode cX2_halveLoads 19 = .ok (.dup, 1) := by decide +kernel
theorem dX2_halveLoads_20 : decode cX2_halveLoads 20 = .ok (.getfield 51, 3) := by decide +kernel
theorem dX2_halveLoads_23 : decode cX2_halveLoads 23 = .ok (.iconst 2, 1) := by decide +kernel
theorem dX2_halveLoads_24 : decode cX2_halveLoads 24 = .ok (.idiv, 1) := by decide +kernel
theorem dX2_halveLoads_25 : decode cX2_halveLoads 25 = .ok (.putfield 51, 3) := by decide +kernel
theorem dX2_halveLoads_28 : decode cX2_halveLoads 28 = .ok (.iinc 1 1, 3) := by decide +kernel
theorem dX2_halveLoads_31 : decode cX2_halveLoads 31 = .ok (.goto (-29), 3) := by decide +kernel
theorem dX2_halveLoads_34 : decode cX2_halveLoads 34 = .ok (.return_, 1) := by decide +kernel
theorem dX2_fragmentInSlot_0 : decode cX2_fragmentInSlot 0 = .ok (.aload_n 0, 1) := by decide +kernel
theorem dX2_fragmentInSlot_1 : decode cX2_fragmentInSlot 1 = .ok (.iload_n 1, 1) := by decide +kernel
theorem dX2_fragmentInSlot_2 : decode cX2_fragmentInSlot 2 = .ok (.bipush 8, 2) := by decide +kernel
theorem dX2_fragmentInSlot_4 : decode cX2_fragmentInSlot 4 = .ok (.idiv, 1) := by decide +kernel
theorem dX2_fragmentInSlot_5 : decode cX2_fragmentInSlot 5 = .ok (.invokevirtual 236, 3) := by decide +kernel
theorem dX2_fragmentInSlot_8 : decode cX2_fragmentInSlot 8 = .ok (.astore_n 2, 1) := by decide +kernel
theorem dX2_fragmentInSlot_9 : decode cX2_fragmentInSlot 9 = .ok (.aload_n 2, 1) := by decide +kernel
theorem dX2_fragmentInSlot_10 : decode cX2_fragmentInSlot 10 = .ok (.ifnonnull 7, 3) := by decide +kernel
theorem dX2_fragmentInSlot_13 : decode cX2_fragmentInSlot 13 = .ok (.aconst_null, 1) := by decide +kernel
theorem dX2_fragmentInSlot_14 : decode cX2_fragmentInSlot 14 = .ok (.goto 11, 3) := by decide +kernel
theorem dX2_fragmentInSlot_17 : decode cX2_fragmentInSlot 17 = .ok (.aload_n 2, 1) := by decide +kernel
theorem dX2_fragmentInSlot_18 : decode cX2_fragmentInSlot 18 = .ok (.iload_n 1, 1) := by decide +kernel
theorem dX2_fragmentInSlot_19 : decode cX2_fragmentInSlot 19 = .ok (.bipush 8, 2) := by decide +kernel
theorem dX2_fragmentInSlot_21 : decode cX2_fragmentInSlot 21 = .ok (.irem, 1) := by decide +kernel
theorem dX2_fragmentInSlot_22 : decode cX2_fragmentInSlot 22 = .ok (.invokevirtual 276, 3) := by decide +kernel
theorem dX2_fragmentInSlot_25 : decode cX2_fragmentInSlot 25 = .ok (.areturn, 1) := by decide +kernel
theorem dX3_init_0 : decode cX3_init 0 = .ok (.aload_n 0, 1) := by decide +kernel
theorem dX3_init_1 : decode cX3_init 1 = .ok (.invokespecial 1, 3) := by decide +kernel
theorem dX3_init_4 : decode cX3_init 4 = .ok (.aload_n 0, 1) := by decide +kernel
theorem dX3_init_5 : decode cX3_init 5 = .ok (.iconst 1, 1) := by decide +kernel
theorem dX3_init_6 : decode cX3_init 6 = .ok (.putfield 7, 3) := by decide +kernel
theorem dX3_init_9 : decode cX3_init 9 = .ok (.aload_n 0, 1) := by decide +kernel
theorem dX3_init_10 : decode cX3_init 10 = .ok (.bipush 12, 2) := by decide +kernel
theorem dX3_init_12 : decode cX3_init 12 = .ok (.newarray .boolean, 2) := by decide +kernel
theorem dX3_init_14 : decode cX3_init 14 = .ok (.putfield 13, 3) := by decide +kernel
theorem dX3_init_17 : decode cX3_init 17 = .ok (.aload_n 0, 1) := by decide +kernel
theorem dX3_init_18 : decode cX3_init 18 = .ok (.bipush 12, 2) := by decide +kernel
theorem dX3_init_20 : decode cX3_init 20 = .ok (.newarray .int, 2) := by decide +kernel
theorem dX3_init_22 : decode cX3_init 22 = .ok (.putfield 17, 3) := by decide +kernel
theorem dX3_init_25 : decode cX3_init 25 = .ok (.aload_n 0, 1) := by decide +kernel
theorem dX3_init_26 : decode cX3_init 26 = .ok (.bipush 12, 2) := by decide +kernel
theorem dX3_init_28 : decode cX3_init 28 = .ok (.newarray .int, 2) := by decide +kernel
theorem dX3_init_30 : decode cX3_init 30 = .ok (.putfield 21, 3) := by decide +kernel
theorem dX3_init_33 : decode cX3_init 33 = .ok (.aload_n 0, 1) := by decide +kernel
theorem dX3_init_34 : decode cX3_init 34 = .ok (.sipush 600, 3) := by decide +kernel
theorem dX3_init_37 : decode cX3_init 37 = .ok (.newarray .int, 2) := by decide +kernel
theorem dX3_init_39 : decode cX3_init 39 = .ok (.putfield 24, 3) := by decide +kernel
theorem dX3_init_42 : decode cX3_init 42 = .ok (.aload_n 0, 1) := by decide +kernel
theorem dX3_init_43 : decode cX3_init 43 = .ok (.sipush 600, 3) := by decide +kernel
theorem dX3_init_46 : decode cX3_init 46 = .ok (.newarray .int, 2) := by decide +kernel
theorem dX3_init_48 : decode cX3_init 48 = .ok (.putfield 27, 3) := by decide +kernel
theorem dX3_init_51 : decode cX3_init 51 = .ok (.aload_n 0, 1) := by decide +kernel
theorem dX3_init_52 : decode cX3_init 52 = .ok (.bipush 96, 2) := by decide +kernel
theorem dX3_init_54 : decode cX3_init 54 = .ok (.newarray .int, 2) := by decide +kernel
theorem dX3_init_56 : decode cX3_init 56 = .ok (.putfield 30, 3) := by decide +kernel
theorem dX3_init_59 : decode cX3_init 59 = .ok (.aload_n 0, 1) := by decide +kernel
theorem dX3_init_60 : decode cX3_init 60 = .ok (.bipush 96, 2) := by decide +kernel
theorem dX3_init_62 : decode cX3_init 62 = .ok (.newarray .int, 2) := by decide +kernel
theorem dX3_init_64 : decode cX3_init 64 = .ok (.putfield 33, 3) := by decide +kernel
theorem dX3_init_67 : decode cX3_init 67 = .ok (.aload_n 0, 1) := by decide +kernel
theorem dX3_init_68 : decode cX3_init 68 = .ok (.bipush 96, 2) := by decide +kernel
theorem dX3_init_70 : decode cX3_init 70 = .ok (.newarray .int, 2) := by decide +kernel
theorem dX3_init_72 : decode cX3_init 72 = .ok (.putfield 36, 3) := by decide +kernel
theorem dX3_init_75 : decode cX3_init 75 = .ok (.aload_n 0, 1) := by decide +kernel
theorem dX3_init_76 : decode cX3_init 76 = .ok (.sipush 2400, 3) := by decide +kernel
theorem dX3_init_79 : decode cX3_init 79 = .ok (.newarray .int, 2) := by decide +kernel
theorem dX3_init_81 : decode cX3_init 81 = .ok (.putfield 39, 3) := by decide +kernel
theorem dX3_init_84 : decode cX3_init 84 = .ok (.aload_n 0, 1) := by decide +kernel
theorem dX3_init_85 : decode cX3_init 85 = .ok (.iconst 4, 1) := by decide +kernel
theorem dX3_init_86 : decode cX3_init 86 = .ok (.newarray .int, 2) := by decide +kernel
theorem dX3_init_88 : decode cX3_init 88 = .ok (.putfield 42, 3) := by decide +kernel
theorem dX3_init_91 : decode cX3_init 91 = .ok (.aload_n 0, 1) := by decide +kernel
theorem dX3_init_92 : decode cX3_init 92 = .ok (.iconst 4, 1) := by decide +kernel
theorem dX3_init_93 : decode cX3_init 93 = .ok (.newarray .int, 2) := by decide +kernel
theorem dX3_init_95 : decode cX3_init 95 = .ok (.putfield 45, 3) := by decide +kernel
theorem dX3_init_98 : decode cX3_init 98 = .ok (.aload_n 0, 1) := by decide +kernel
theorem dX3_init_99 : decode cX3_init 99 = .ok (.iconst (-1), 1) := by decide +kernel
theorem dX3_init_100 : decode cX3_init 100 = .ok (.putfield 48, 3) := by decide +kernel
theorem dX3_init_103 : decode cX3_init 103 = .ok (.iconst 0, 1) := by decide +kernel
theorem dX3_init_104 : decode cX3_init 104 = .ok (.istore_n 1, 1) := by decide +kernel
theorem dX3_init_105 : decode cX3_init 105 = .ok (.iload_n 1, 1) := by decide +kernel
theorem dX3_init_106 : decode cX3_init 106 = .ok (.sipush 600, 3) := by decide +kernel
theorem dX3_init_109 : decode cX3_init 109 = .ok (.if_icmp .ge 16, 3) := by decide +kernel
theorem dX3_init_112 : decode cX3_init 112 = .ok (.aload_n 0, 1) := by decide +kernel
theorem dX3_init_113 : decode cX3_init 113 = .ok (.getfield 24, 3) := by decide +kernel
theorem dX3_init_116 : decode cX3_init 116 = .ok (.iload_n 1, 1) := by decide +kernel
theorem dX3_init_117 : decode cX3_init 117 = .ok (.iconst (-1), 1) := by decide +kernel
theorem dX3_init_118 : decode cX3_init 118 = .ok (.iastore, 1) := by decide +kernel
theorem dX3_init_119 : decode cX3_init 119 = .ok (.iinc 1 1, 3) := by decide +kernel
theorem dX3_init_122 : decode cX3_init 122 = .ok (.goto (-17), 3) := by decide +kernel
theorem dX3_init_125 : decode cX3_init 125 = .ok (.aload_n 0, 1) := by decide +kernel
theorem dX3_init_126 : decode cX3_init 126 = .ok (.iconst 0, 1) := by decide +kernel
theorem dX3_init_127 : decode cX3_init 127 = .ok (.iconst 0, 1) := by decide +kernel
theorem dX3_init_128 : decode cX3_init 128 = .ok (.invokevirtual 51, 3) := by decide +kernel
theorem dX3_init_131 : decode cX3_init 131 = .ok (.return_, 1) := by decide +kernel
theorem dX3_thrown_0 : decode cX3_thrown 0 = .ok (.aload_n 0, 1) := by decide +kernel
theorem dX3_thrown_1 : decode cX3_thrown 1 = .ok (.getfield 55, 3) := by decide +kernel
theorem dX3_thrown_4 : decode cX3_thrown 4 = .ok (.ireturn, 1) := by decide +kernel
theorem dX3_fails_0 : decode cX3_fails 0 = .ok (.aload_n 0, 1) := by decide +kernel
theorem dX3_fails_1 : decode cX3_fails 1 = .ok (.iload_n 1, 1) := by decide +kernel
theorem dX3_fails_2 : decode cX3_fails 2 = .ok (.putfield 55, 3) := by decide +kernel
theorem dX3_fails_5 : decode cX3_fails 5 = .ok (.iconst 0, 1) := by decide +kernel
theorem dX3_fails_6 : decode cX3_fails 6 = .ok (.ireturn, 1) := by decide +kernel
theorem dX3_in_0 : decode cX3_in 0 = .ok (.iload_n 0, 1) := by decide +kernel
theorem dX3_in_1 : decode cX3_in 1 = .ok (.iload_n 1, 1) := by decide +kernel
theorem dX3_in_2 : decode cX3_in 2 = .ok (.if_icmp .lt 12, 3) := by decide +kernel
theorem dX3_in_5 : decode cX3_in 5 = .ok (.iload_n 0, 1) := by decide +kernel
theorem dX3_in_6 : decode cX3_in 6 = .ok (.iload_n 2, 1) := by decide +kernel
theorem dX3_in_7 : decode cX3_in 7 = .ok (.if_icmp .gt 7, 3) := by decide +kernel
theorem dX3_in_10 : decode cX3_in 10 = .ok (.iconst 1, 1) := by decide +kernel
theorem dX3_in_11 : decode cX3_in 11 = .ok (.goto 4, 3) := by decide +kernel
theorem dX3_in_14 : decode cX3_in 14 = .ok (.iconst 0, 1) := by decide +kernel
theorem dX3_in_15 : decode cX3_in 15 = .ok (.ireturn, 1) := by decide +kernel
theorem dX3_isName_0 : decode cX3_isName 0 = .ok (.iload_n 0, 1) := by decide +kernel
theorem dX3_isName_1 : decode cX3_isName 1 = .ok (.iconst 0, 1) := by decide +kernel
theorem dX3_isName_2 : decode cX3_isName 2 = .ok (.bipush 49, 2) := by decide +kernel
theorem dX3_isName_4 : decode cX3_isName 4 = .ok (.invokestatic 58, 3) := by decide +kernel
theorem dX3_isName_7 : decode cX3_isName 7 = .ok (.ireturn, 1) := by decide +kernel
theorem dX3_isHash_0 : decode cX3_isHash 0 = .ok (.iload_n 0, 1) := by decide +kernel
theorem dX3_isHash_1 : decode cX3_isHash 1 = .ok (.iconst 0, 1) := by decide +kernel
theorem dX3_isHash_2 : decode cX3_isHash 2 = .ok (.bipush 7, 2) := by decide +kernel
theorem dX3_isHash_4 : decode cX3_isHash 4 = .ok (.invokestatic 58, 3) := by decide +kernel
theorem dX3_isHash_7 : decode cX3_isHash 7 = .ok (.ireturn, 1) := by decide +kernel
theorem dX3_isClient_0 : decode cX3_isClient 0 = .ok (.iload_n 0, 1) := by decide +kernel
theorem dX3_isClient_1 : decode cX3_isClient 1 = .ok (.iconst 0, 1) := by decide +kernel
theorem dX3_isClient_2 : decode cX3_isClient 2 = .ok (.iconst 3, 1) := by decide +kernel
theorem dX3_isClient_3 : decode cX3_isClient 3 = .ok (.invokestatic 58, 3) := by decide +kernel
theorem dX3_isClient_6 : decode cX3_isClient 6 = .ok (.ireturn, 1) := by decide +kernel
theorem dX3_isDirectory_0 : decode cX3_isDirectory 0 = .ok (.iload_n 1, 1) := by decide +kernel
theorem dX3_isDirectory_1 : decode cX3_isDirectory 1 = .ok (.iconst 0, 1) := by decide +kernel
theorem dX3_isDirectory_2 : decode cX3_isDirectory 2 = .ok (.aload_n 0, 1) := by decide +kernel
theorem dX3_isDirectory_3 : decode cX3_isDirectory 3 = .ok (.getfield 7, 3) := by decide +kernel
theorem dX3_isDirectory_6 : decode cX3_isDirectory 6 = .ok (.iconst 1, 1) := by decide +kernel
theorem dX3_isDirectory_7 : decode cX3_isDirectory 7 = .ok (.isub, 1) := by decide +kernel
theorem dX3_isDirectory_8 : decode cX3_isDirectory 8 = .ok (.invokestatic 58, 3) := by decide +kernel
theorem dX3_isDirectory_11 : decode cX3_isDirectory 11 = .ok (.ifCond .eq 16, 3) := by decide +kernel
theorem dX3_isDirectory_14 : decode cX3_isDirectory 14 = .ok (.aload_n 0, 1) := by decide +kernel
theorem dX3_isDirectory_15 : decode cX3_isDirectory 15 = .ok (.getfield 13, 3) := by decide +kernel
theorem dX3_isDirectory_18 : decode cX3_isDirectory 18 = .ok (.iload_n 1, 1) := by decide +kernel
theorem dX3_isDirectory_19 : decode cX3_isDirectory 19 = .ok (.baload, 1) := by decide +kernel
theorem dX3_isDirectory_20 : decode cX3_isDirectory 20 = .ok (.ifCond .eq 7, 3) := by decide +kernel
theorem dX3_isDirectory_23 : decode cX3_isDirectory 23 = .ok (.iconst 1, 1) := by decide +kernel
theorem dX3_isDirectory_24 : decode cX3_isDirectory 24 = .ok (.goto 4, 3) := by decide +kernel
theorem dX3_isDirectory_27 : decode cX3_isDirectory 27 = .ok (.iconst 0, 1) := by decide +kernel
theorem dX3_isDirectory_28 : decode cX3_isDirectory 28 = .ok (.ireturn, 1) := by decide +kernel
theorem dX3_at_0 : decode cX3_at 0 = .ok (.bipush 50, 2) := by decide +kernel
theorem dX3_at_2 : decode cX3_at 2 = .ok (.iload_n 0, 1) := by decide +kernel
theorem dX3_at_3 : decode cX3_at 3 = .ok (.imul, 1) := by decide +kernel
theorem dX3_at_4 : decode cX3_at 4 = .ok (.iload_n 1, 1) := by decide +kernel
theorem dX3_at_5 : decode cX3_at 5 = .ok (.iadd, 1) := by decide +kernel
theorem dX3_at_6 : decode cX3_at 6 = .ok (.ireturn, 1) := by decide +kernel
theorem dX3_hash_0 : decode cX3_hash 0 = .ok (.iconst 5, 1) := by decide +kernel
theorem dX3_hash_1 : decode cX3_hash 1 = .ok (.iload_n 0, 1) := by decide +kernel
theorem dX3_hash_2 : decode cX3_hash 2 = .ok (.imul, 1) := by decide +kernel
theorem dX3_hash_3 : decode cX3_hash 3 = .ok (.iconst 3, 1) := by decide +kernel
theorem dX3_hash_4 : decode cX3_hash 4 = .ok (.iadd, 1) := by decide +kernel
theorem dX3_hash_5 : decode cX3_hash 5 = .ok (.bipush 8, 2) := by decide +kernel
theorem dX3_hash_7 : decode cX3_hash 7 = .ok (.irem, 1) := by decide +kernel
theorem dX3_hash_8 : decode cX3_hash 8 = .ok (.ireturn, 1) := by decide +kernel
theorem dX3_begins_0 : decode cX3_begins 0 = .ok (.aload_n 0, 1) := by decide +kernel
theorem dX3_begins_1 : decode cX3_begins 1 = .ok (.getfield 13, 3) := by decide +kernel
theorem dX3_begins_4 : decode cX3_begins 4 = .ok (.iload_n 1, 1) := by decide +kernel
theorem dX3_begins_5 : decode cX3_begins 5 = .ok (.iconst 1, 1) := by decide +kernel
theorem dX3_begins_6 : decode cX3_begins 6 = .ok (.bastore, 1) := by decide +kernel
theorem dX3_begins_7 : decode cX3_begins 7 = .ok (.iconst 0, 1) := by decide +kernel
theorem dX3_begins_8 : decode cX3_begins 8 = .ok (.istore_n 3, 1) := by decide +kernel
theorem dX3_begins_9 : decode cX3_begins 9 = .ok (.iload_n 3, 1) := by decide +kernel
theorem dX3_begins_10 : decode cX3_begins 10 = .ok (.bipush 8, 2) := by decide +kernel
theorem dX3_begins_12 : decode cX3_begins 12 = .ok (.if_icmp .ge 62, 3) := by decide +kernel
theorem dX3_begins_15 : decode cX3_begins 15 = .ok (.aload_n 0, 1) := by decide +kernel
theorem dX3_begins_16 : decode cX3_begins 16 = .ok (.getfield 30, 3) := by decide +kernel
theorem dX3_begins_19 : decode cX3_begins 19 = .ok (.bipush 8, 2) := by decide +kernel
theorem dX3_begins_21 : decode cX3_begins 21 = .ok (.iload_n 1, 1) := by decide +kernel
theorem dX3_begins_22 : decode cX3_begins 22 = .ok (.imul, 1) := by decide +kernel
theorem dX3_begins_23 : decode cX3_begins 23 = .ok (.iload_n 3, 1) := by decide +kernel
theorem dX3_begins_24 : decode cX3_begins 24 = .ok (.iadd, 1) := by decide +kernel
theorem dX3_begins_25 : decode cX3_begins 25 = .ok (.iload_n 3, 1) := by decide +kernel
theorem dX3_begins_26 : decode cX3_begins 26 = .ok (.ifCond .ne 8, 3) := by decide +kernel
theorem dX3_begins_29 : decode cX3_begins 29 = .ok (.bipush 8, 2) := by decide +kernel
theorem dX3_begins_31 : decode cX3_begins 31 = .ok (.goto 4, 3) := by decide +kernel
theorem dX3_begins_34 : decode cX3_begins 34 = .ok (.iconst 0, 1) := by decide +kernel
theorem dX3_begins_35 : decode cX3_begins 35 = .ok (.iastore, 1) := by decide +kernel
theorem dX3_begins_36 : decode cX3_begins 36 = .ok (.aload_n 0, 1) := by decide +kernel
theorem dX3_begins_37 : decode cX3_begins 37 = .ok (.getfield 33, 3) := by decide +kernel
theorem dX3_begins_40 : decode cX3_begins 40 = .ok (.bipush 8, 2) := by decide +kernel
theorem dX3_begins_42 : decode cX3_begins 42 = .ok (.iload_n 1, 1) := by decide +kernel
theorem dX3_begins_43 : decode cX3_begins 43 = .ok (.imul, 1) := by decide +kernel
theorem dX3_begins_44 : decode cX3_begins 44 = .ok (.iload_n 3, 1) := by decide +kernel
theorem dX3_begins_45 : decode cX3_begins 45 = .ok (.iadd, 1) := by decide +kernel
theorem dX3_begins_46 : decode cX3_begins 46 = .ok (.iload_n 3, 1) := by decide +kernel
theorem dX3_begins_47 : decode cX3_begins 47 = .ok (.ifCond .ne 7, 3) := by decide +kernel
theorem dX3_begins_50 : decode cX3_begins 50 = .ok (.iload_n 2, 1) := by decide +kernel
theorem dX3_begins_51 : decode cX3_begins 51 = .ok (.goto 4, 3) := by decide +kernel
theorem dX3_begins_54 : decode cX3_begins 54 = .ok (.iconst (-1), 1) := by decide +kernel
theorem dX3_begins_55 : decode cX3_begins 55 = .ok (.iastore, 1) := by decide +kernel
theorem dX3_begins_56 : decode cX3_begins 56 = .ok (.aload_n 0, 1) := by decide +kernel
theorem dX3_begins_57 : decode cX3_begins 57 = .ok (.getfield 36, 3) := by decide +kernel
theorem dX3_begins_60 : decode cX3_begins 60 = .ok (.bipush 8, 2) := by decide +kernel
theorem dX3_begins_62 : decode cX3_begins 62 = .ok (.iload_n 1, 1) := by decide +kernel
theorem dX3_begins_63 : decode cX3_begins 63 = .ok (.imul, 1) := by decide +kernel
theorem dX3_begins_64 : decode cX3_begins 64 = .ok (.iload_n 3, 1) := by decide +kernel
theorem dX3_begins_65 : decode cX3_begins 65 = .ok (.iadd, 1) := by decide +kernel
theorem dX3_begins_66 : decode cX3_begins 66 = .ok (.iconst 0, 1) := by decide +kernel
theorem dX3_begins_67 : decode cX3_begins 67 = .ok (.iastore, 1) := by decide +kernel
theorem dX3_begins_68 : decode cX3_begins 68 = .ok (.iinc 3 1, 3) := by decide +kernel
theorem dX3_begins_71 : decode cX3_begins 71 = .ok (.goto (-62), 3) := by decide +kernel
theorem dX3_begins_74 : decode cX3_begins 74 = .ok (.return_, 1) := by decide +kernel
theorem dX3_fragment_0 : decode cX3_fragment 0 = .ok (.bipush 8, 2) := by decide +kernel
theorem dX3_fragment_2 : decode cX3_fragment 2 = .ok (.iload_n 1, 1) := by decide +kernel
theorem dX3_fragment_3 : decode cX3_fragment 3 = .ok (.imul, 1) := by decide +kernel
theorem dX3_fragment_4 : decode cX3_fragment 4 = .ok (.iload_n 2, 1) := by decide +kernel
theorem dX3_fragment_5 : decode cX3_fragment 5 = .ok (.iadd, 1) := by decide +kernel
theorem dX3_fragment_6 : decode cX3_fragment 6 = .ok (.istore_n 3, 1) := by decide +kernel
theorem dX3_fragment_7 : decode cX3_fragment 7 = .ok (.aload_n 0, 1) := by decide +kernel
theorem dX3_fragment_8 : decode cX3_fragment 8 = .ok (.getfield 30, 3) := by decide +kernel
theorem dX3_fragment_11 : decode cX3_fragment 11 = .ok (.iload_n 3, 1) := by decide +kernel
theorem dX3_fragment_12 : decode cX3_fragment 12 = .ok (.iaload, 1) := by decide +kernel
theorem dX3_fragment_13 : decode cX3_fragment 13 = .ok (.ifCond .ne 9, 3) := by decide +kernel
theorem dX3_fragment_16 : decode cX3_fragment 16 = .ok (.iinc 3 (-1), 3) := by decide +kernel
theorem dX3_fragment_19 : decode cX3_fragment 19 = .ok (.goto (-12), 3) := by decide +kernel
theorem dX3_fragment_22 : decode cX3_fragment 22 = .ok (.iload_n 3, 1) := by decide +kernel
theorem dX3_fragment_23 : decode cX3_fragment 23 = .ok (.ireturn, 1) := by decide +kernel
theorem dX3_fragmentOfName_0 : decode cX3_fragmentOfName 0 = .ok (.aload_n 0, 1) := by decide +kernel
theorem dX3_fragmentOfName_1 : decode cX3_fragmentOfName 1 = .ok (.iload_n 1, 1) := by decide +kernel
theorem dX3_fragmentOfName_2 : decode cX3_fragmentOfName 2 = .ok (.iload_n 2, 1) := by decide +kernel
theorem dX3_fragmentOfName_3 : decode cX3_fragmentOfName 3 = .ok (.invokestatic 62, 3) := by decide +kernel
theorem dX3_fragmentOfName_6 : decode cX3_fragmentOfName 6 = .ok (.invokevirtual 66, 3) := by decide +kernel
theorem dX3_fragmentOfName_9 : decode cX3_fragmentOfName 9 = .ok (.ireturn, 1) := by decide +kernel
theorem dX3_inherited_0 : decode cX3_inherited 0 = .ok (.iload_n 1, 1) := by decide +kernel
theorem dX3_inherited_1 : decode cX3_inherited 1 = .ok (.bipush 8, 2) := by decide +kernel
theorem dX3_inherited_3 : decode cX3_inherited 3 = .ok (.idiv, 1) := by decide +kernel
theorem dX3_inherited_4 : decode cX3_inherited 4 = .ok (.istore_n 2, 1) := by decide +kernel
theorem dX3_inherited_5 : decode cX3_inherited 5 = .ok (.aload_n 0, 1) := by decide +kernel
theorem dX3_inherited_6 : decode cX3_inherited 6 = .ok (.aload_n 0, 1) := by decide +kernel
theorem dX3_inherited_7 : decode cX3_inherited 7 = .ok (.getfield 17, 3) := by decide +kernel
theorem dX3_inherited_10 : decode cX3_inherited 10 = .ok (.iload_n 2, 1) := by decide +kernel
theorem dX3_inherited_11 : decode cX3_inherited 11 = .ok (.iaload, 1) := by decide +kernel
theorem dX3_inherited_12 : decode cX3_inherited 12 = .ok (.aload_n 0, 1) := by decide +kernel
theorem dX3_inherited_13 : decode cX3_inherited 13 = .ok (.getfield 21, 3) := by decide +kernel
theorem dX3_inherited_16 : decode cX3_inherited 16 = .ok (.iload_n 2, 1) := by decide +kernel
theorem dX3_inherited_17 : decode cX3_inherited 17 = .ok (.iaload, 1) := by decide +kernel
theorem dX3_inherited_18 : decode cX3_inherited 18 = .ok (.invokevirtual 70, 3) := by decide +kernel
theorem dX3_inherited_21 : decode cX3_inherited 21 = .ok (.ireturn, 1) := by decide +kernel
theorem dX3_server_0 : decode cX3_server 0 = .ok (.iload_n 1, 1) := by decide +kernel
theorem dX3_server_1 : decode cX3_server 1 = .ok (.istore_n 2, 1) := by decide +kernel
theorem dX3_server_2 : decode cX3_server 2 = .ok (.aload_n 0, 1) := by decide +kernel
theorem dX3_server_3 : decode cX3_server 3 = .ok (.getfield 33, 3) := by decide +kernel
theorem dX3_server_6 : decode cX3_server 6 = .ok (.iload_n 2, 1) := by decide +kernel
theorem dX3_server_7 : decode cX3_server 7 = .ok (.iaload, 1) := by decide +kernel
theorem dX3_server_8 : decode cX3_server 8 = .ok (.iconst (-1), 1) := by decide +kernel
theorem dX3_server_9 : decode cX3_server 9 = .ok (.if_icmp .ne 12, 3) := by decide +kernel
theorem dX3_server_12 : decode cX3_server 12 = .ok (.aload_n 0, 1) := by decide +kernel
theorem dX3_server_13 : decode cX3_server 13 = .ok (.iload_n 2, 1) := by decide +kernel
theorem dX3_server_14 : decode cX3_server 14 = .ok (.invokevirtual 73, 3) := by decide +kernel
theorem dX3_server_17 : decode cX3_server 17 = .ok (.istore_n 2, 1) := by decide +kernel
theorem dX3_server_18 : decode cX3_server 18 = .ok (.goto (-16), 3) := by decide +kernel
theorem dX3_server_21 : decode cX3_server 21 = .ok (.aload_n 0, 1) := by decide +kernel
theorem dX3_server_22 : decode cX3_server 22 = .ok (.getfield 33, 3) := by decide +kernel
theorem dX3_server_25 : decode cX3_server 25 = .ok (.iload_n 2, 1) := by decide +kernel
theorem dX3_server_26 : decode cX3_server 26 = .ok (.iaload, 1) := by decide +kernel
theorem dX3_server_27 : decode cX3_server 27 = .ok (.ireturn, 1) := by decide +kernel
theorem dX3_frozen_0 : decode cX3_frozen 0 = .ok (.iload_n 1, 1) := by decide +kernel
theorem dX3_frozen_1 : decode cX3_frozen 1 = .ok (.istore_n 2, 1) := by decide +kernel
theorem dX3_frozen_2 : decode cX3_frozen 2 = .ok (.aload_n 0, 1) := by decide +kernel
theorem dX3_frozen_3 : decode cX3_frozen 3 = .ok (.getfield 48, 3) := by decide +kernel
theorem dX3_frozen_6 : decode cX3_frozen 6 = .ok (.iconst (-1), 1) := by decide +kernel
theorem dX3_frozen_7 : decode cX3_frozen 7 = .ok (.if_icmp .eq 30, 3) := by decide +kernel
theorem dX3_frozen_10 : decode cX3_frozen 10 = .ok (.iload_n 2, 1) := by decide +kernel
theorem dX3_frozen_11 : decode cX3_frozen 11 = .ok (.aload_n 0, 1) := by decide +kernel
theorem dX3_frozen_12 : decode cX3_frozen 12 = .ok (.getfield 48, 3) := by decide +kernel
theorem dX3_frozen_15 : decode cX3_frozen 15 = .ok (.if_icmp .eq 22, 3) := by decide +kernel
theorem dX3_frozen_18 : decode cX3_frozen 18 = .ok (.aload_n 0, 1) := by decide +kernel
theorem dX3_frozen_19 : decode cX3_frozen 19 = .ok (.getfield 33, 3) := by decide +kernel
theorem dX3_frozen_22 : decode cX3_frozen 22 = .ok (.iload_n 2, 1) := by decide +kernel
theorem dX3_frozen_23 : decode cX3_frozen 23 = .ok (.iaload, 1) := by decide +kernel
theorem dX3_frozen_24 : decode cX3_frozen 24 = .ok (.iconst (-1), 1) := by decide +kernel
theorem dX3_frozen_25 : decode cX3_frozen 25 = .ok (.if_icmp .ne 12, 3) := by decide +kernel
theorem dX3_frozen_28 : decode cX3_frozen 28 = .ok (.aload_n 0, 1) := by decide +kernel
theorem dX3_frozen_29 : decode cX3_frozen 29 = .ok (.iload_n 2, 1) := by decide +kernel
theorem dX3_frozen_30 : decode cX3_frozen 30 = .ok (.invokevirtual 73, 3) := by decide +kernel
theorem dX3_frozen_33 : decode cX3_frozen 33 = .ok (.istore_n 2, 1) := by decide +kernel
theorem dX3_frozen_34 : decode cX3_frozen 34 = .ok (.goto (-32), 3) := by decide +kernel
theorem dX3_frozen_37 : decode cX3_frozen 37 = .ok (.aload_n 0, 1) := by decide +kernel
theorem dX3_frozen_38 : decode cX3_frozen 38 = .ok (.getfield 48, 3) := by decide +kernel
theorem dX3_frozen_41 : decode cX3_frozen 41 = .ok (.iconst (-1), 1) := by decide +kernel
theorem dX3_frozen_42 : decode cX3_frozen 42 = .ok (.if_icmp .eq 15, 3) := by decide +kernel
theorem dX3_frozen_45 : decode cX3_frozen 45 = .ok (.iload_n 2, 1) := by decide +kernel
theorem dX3_frozen_46 : decode cX3_frozen 46 = .ok (.aload_n 0, 1) := by decide +kernel
theorem dX3_frozen_47 : decode cX3_frozen 47 = .ok (.getfield 48, 3) := by decide +kernel
theorem dX3_frozen_50 : decode cX3_frozen 50 = .ok (.if_icmp .ne 7, 3) := by decide +kernel
theorem dX3_frozen_53 : decode cX3_frozen 53 = .ok (.iconst 1, 1) := by decide +kernel
theorem dX3_frozen_54 : decode cX3_frozen 54 = .ok (.goto 4, 3) := by decide +kernel
theorem dX3_frozen_57 : decode cX3_frozen 57 = .ok (.iconst 0, 1) := by decide +kernel
theorem dX3_frozen_58 : decode cX3_frozen 58 = .ok (.ireturn, 1) := by decide +kernel
theorem dX3_isFrozenName_0 : decode cX3_isFrozenName 0 = .ok (.aload_n 0, 1) := by decide +kernel
theorem dX3_isFrozenName_1 : decode cX3_isFrozenName 1 = .ok (.aload_n 0, 1) := by decide +kernel
theorem dX3_isFrozenName_2 : decode cX3_isFrozenName 2 = .ok (.iload_n 1, 1) := by decide +kernel
theorem dX3_isFrozenName_3 : decode cX3_isFrozenName 3 = .ok (.iload_n 2, 1) := by decide +kernel
theorem dX3_isFrozenName_4 : decode cX3_isFrozenName 4 = .ok (.invokevirtual 70, 3) := by decide +kernel
theorem dX3_isFrozenName_7 : decode cX3_isFrozenName 7 = .ok (.invokevirtual 76, 3) := by decide +kernel
theorem dX3_isFrozenName_10 : decode cX3_isFrozenName 10 = .ok (.ireturn, 1) := by decide +kernel
theorem dX3_runs_0 : decode cX3_runs 0 = .ok (.aload_n 0, 1) := by decide +kernel
theorem dX3_runs_1 : decode cX3_runs 1 = .ok (.getfield 39, 3) := by decide +kernel
theorem dX3_runs_4 : decode cX3_runs 4 = .ok (.sipush 600, 3) := by decide +kernel
theorem dX3_runs_7 : decode cX3_runs 7 = .ok (.iload_n 1, 1) := by decide +kernel
theorem dX3_runs_8 : decode cX3_runs 8 = .ok (.imul, 1) := by decide +kernel
theorem dX3_runs_9 : decode cX3_runs 9 = .ok (.iload_n 2, 1) := by decide +kernel
theorem dX3_runs_10 : decode cX3_runs 10 = .ok (.iadd, 1) := by decide +kernel
theorem dX3_runs_11 : decode cX3_runs 11 = .ok (.iaload, 1) := by decide +kernel
theorem dX3_runs_12 : decode cX3_runs 12 = .ok (.aload_n 0, 1) := by decide +kernel
theorem dX3_runs_13 : decode cX3_runs 13 = .ok (.getfield 80, 3) := by decide +kernel
theorem dX3_runs_16 : decode cX3_runs 16 = .ok (.if_icmp .le 7, 3) := by decide +kernel
theorem dX3_runs_19 : decode cX3_runs 19 = .ok (.iconst 1, 1) := by decide +kernel
theorem dX3_runs_20 : decode cX3_runs 20 = .ok (.goto 4, 3) := by decide +kernel
theorem dX3_runs_23 : decode cX3_runs 23 = .ok (.iconst 0, 1) := by decide +kernel
theorem dX3_runs_24 : decode cX3_runs 24 = .ok (.ireturn, 1) := by decide +kernel
theorem dX3_ends_0 : decode cX3_ends 0 = .ok (.iconst 0, 1) := by decide +kernel
theorem dX3_ends_1 : decode cX3_ends 1 = .ok (.istore_n 3, 1) := by decide +kernel
theorem dX3_ends_2 : decode cX3_ends 2 = .ok (.iload_n 3, 1) := by decide +kernel
theorem dX3_ends_3 : decode cX3_ends 3 = .ok (.iconst 4, 1) := by decide +kernel
theorem dX3_ends_4 : decode cX3_ends 4 = .ok (.if_icmp .ge 50, 3) := by decide +kernel
theorem dX3_ends_7 : decode cX3_ends 7 = .ok (.aload_n 0, 1) := by decide +kernel
theorem dX3_ends_8 : decode cX3_ends 8 = .ok (.getfield 42, 3) := by decide +kernel
theorem dX3_ends_11 : decode cX3_ends 11 = .ok (.iload_n 3, 1) := by decide +kernel
theorem dX3_ends_12 : decode cX3_ends 12 = .ok (.dup2, 1) := by decide +kernel
theorem dX3_ends_13 : decode cX3_ends 13 = .ok (.iaload, 1) := by decide +kernel
theorem dX3_ends_14 : decode cX3_ends 14 = .ok (.iload_n 3, 1) := by decide +kernel
theorem dX3_ends_15 : decode cX3_ends 15 = .ok (.iload_n 2, 1) := by decide +kernel
theorem dX3_ends_16 : decode cX3_ends 16 = .ok (.if_icmp .eq 16, 3) := by decide +kernel
theorem dX3_ends_19 : decode cX3_ends 19 = .ok (.aload_n 0, 1) := by decide +kernel
theorem dX3_ends_20 : decode cX3_ends 20 = .ok (.iload_n 3, 1) := by decide +kernel
theorem dX3_ends_21 : decode cX3_ends 21 = .ok (.iload_n 1, 1) := by decide +kernel
theorem dX3_ends_22 : decode cX3_ends 22 = .ok (.invokevirtual 83, 3) := by decide +kernel
theorem dX3_ends_25 : decode cX3_ends 25 = .ok (.ifCond .eq 7, 3) := by decide +kernel
theorem dX3_ends_28 : decode cX3_ends 28 = .ok (.iconst 1, 1) := by decide +kernel
theorem dX3_ends_29 : decode cX3_ends 29 = .ok (.goto 4, 3) := by decide +kernel
theorem dX3_ends_32 : decode cX3_ends 32 = .ok (.iconst 0, 1) := by decide +kernel
theorem dX3_ends_33 : decode cX3_ends 33 = .ok (.iadd, 1) := by decide +kernel
theorem dX3_ends_34 : decode cX3_ends 34 = .ok (.iastore, 1) := by decide +kernel
theorem dX3_ends_35 : decode cX3_ends 35 = .ok (.aload_n 0, 1) := by decide +kernel
theorem dX3_ends_36 : decode cX3_ends 36 = .ok (.getfield 39, 3) := by decide +kernel
theorem dX3_ends_39 : decode cX3_ends 39 = .ok (.sipush 600, 3) := by decide +kernel
theorem dX3_ends_42 : decode cX3_ends 42 = .ok (.iload_n 3, 1) := by decide +kernel
theorem dX3_ends_43 : decode cX3_ends 43 = .ok (.imul, 1) := by decide +kernel
theorem dX3_ends_44 : decode cX3_ends 44 = .ok (.iload_n 1, 1) := by decide +kernel
theorem dX3_ends_45 : decode cX3_ends 45 = .ok (.iadd, 1) := by decide +kernel
theorem dX3_ends_46 : decode cX3_ends 46 = .ok (.iconst 0, 1) := by decide +kernel
theorem dX3_ends_47 : decode cX3_ends 47 = .ok (.iastore, 1) := by decide +kernel
theorem dX3_ends_48 : decode cX3_ends 48 = .ok (.iinc 3 1, 3) := by decide +kernel
theorem dX3_ends_51 : decode cX3_ends 51 = .ok (.goto (-49), 3) := by decide +kernel
theorem dX3_ends_54 : decode cX3_ends 54 = .ok (.return_, 1) := by decide +kernel
theorem dX3_changes_0 : decode cX3_changes 0 = .ok (.aload_n 0, 1) := by decide +kernel
theorem dX3_changes_1 : decode cX3_changes 1 = .ok (.getfield 36, 3) := by decide +kernel
theorem dX3_changes_4 : decode cX3_changes 4 = .ok (.aload_n 0, 1) := by decide +kernel
theorem dX3_changes_5 : decode cX3_changes 5 = .ok (.iload_n 2, 1) := by decide +kernel
theorem dX3_changes_6 : decode cX3_changes 6 = .ok (.iload_n 3, 1) := by decide +kernel
theorem dX3_changes_7 : decode cX3_changes 7 = .ok (.invokevirtual 70, 3) := by decide +kernel
theorem dX3_changes_10 : decode cX3_changes 10 = .ok (.dup2, 1) := by decide +kernel
theorem dX3_changes_11 : decode cX3_changes 11 = .ok (.iaload, 1) := by decide +kernel
theorem dX3_changes_12 : decode cX3_changes 12 = .ok (.iconst 1, 1) := by decide +kernel
theorem dX3_changes_13 : decode cX3_changes 13 = .ok (.iadd, 1) := by decide +kernel
theorem dX3_changes_14 : decode cX3_changes 14 = .ok (.iastore, 1) := by decide +kernel
theorem dX3_changes_15 : decode cX3_changes 15 = .ok (.aload_n 0, 1) := by decide +kernel
theorem dX3_changes_16 : decode cX3_changes 16 = .ok (.iload_n 2, 1) := by decide +kernel
theorem dX3_changes_17 : decode cX3_changes 17 = .ok (.iload_n 3, 1) := by decide +kernel
theorem dX3_changes_18 : decode cX3_changes 18 = .ok (.invokestatic 87, 3) := by decide +kernel
theorem dX3_changes_21 : decode cX3_changes 21 = .ok (.iload_n 1, 1) := by decide +kernel
theorem dX3_changes_22 : decode cX3_changes 22 = .ok (.invokevirtual 90, 3) := by decide +kernel
theorem dX3_changes_25 : decode cX3_changes 25 = .ok (.return_, 1) := by decide +kernel
theorem dX3_barsName_0 : decode cX3_barsName 0 = .ok (.iload_n 1, 1) := by decide +kernel
theorem dX3_barsName_1 : decode cX3_barsName 1 = .ok (.invokestatic 93, 3) := by decide +kernel
theorem dX3_barsName_4 : decode cX3_barsName 4 = .ok (.ifCond .eq 10, 3) := by decide +kernel
theorem dX3_barsName_7 : decode cX3_barsName 7 = .ok (.iload_n 3, 1) := by decide +kernel
theorem dX3_barsName_8 : decode cX3_barsName 8 = .ok (.invokestatic 96, 3) := by decide +kernel
theorem dX3_barsName_11 : decode cX3_barsName 11 = .ok (.ifCond .ne 7, 3) := by decide +kernel
theorem dX3_barsName_14 : decode cX3_barsName 14 = .ok (.iconst 1, 1) := by decide +kernel
theorem dX3_barsName_15 : decode cX3_barsName 15 = .ok (.goto 16, 3) := by decide +kernel
theorem dX3_barsName_18 : decode cX3_barsName 18 = .ok (.aload_n 0, 1) := by decide +kernel
theorem dX3_barsName_19 : decode cX3_barsName 19 = .ok (.iload_n 2, 1) := by decide +kernel
theorem dX3_barsName_20 : decode cX3_barsName 20 = .ok (.invokevirtual 99, 3) := by decide +kernel
theorem dX3_barsName_23 : decode cX3_barsName 23 = .ok (.ifCond .eq 7, 3) := by decide +kernel
theorem dX3_barsName_26 : decode cX3_barsName 26 = .ok (.iconst 0, 1) := by decide +kernel
theorem dX3_barsName_27 : decode cX3_barsName 27 = .ok (.goto 4, 3) := by decide +kernel
theorem dX3_barsName_30 : decode cX3_barsName 30 = .ok (.iconst 2, 1) := by decide +kernel
theorem dX3_barsName_31 : decode cX3_barsName 31 = .ok (.ireturn, 1) := by decide +kernel
theorem dX3_lookup_0 : decode cX3_lookup 0 = .ok (.aload_n 0, 1) := by decide +kernel
theorem dX3_lookup_1 : decode cX3_lookup 1 = .ok (.aload_n 0, 1) := by decide +kernel
theorem dX3_lookup_2 : decode cX3_lookup 2 = .ok (.iload_n 1, 1) := by decide +kernel
theorem dX3_lookup_3 : decode cX3_lookup 3 = .ok (.iload_n 2, 1) := by decide +kernel
theorem dX3_lookup_4 : decode cX3_lookup 4 = .ok (.iload_n 3, 1) := by decide +kernel
theorem dX3_lookup_5 : decode cX3_lookup 5 = .ok (.invokevirtual 102, 3) := by decide +kernel
theorem dX3_lookup_8 : decode cX3_lookup 8 = .ok (.putfield 55, 3) := by decide +kernel
theorem dX3_lookup_11 : decode cX3_lookup 11 = .ok (.aload_n 0, 1) := by decide +kernel
theorem dX3_lookup_12 : decode cX3_lookup 12 = .ok (.getfield 55, 3) := by decide +kernel
theorem dX3_lookup_15 : decode cX3_lookup 15 = .ok (.ifCond .le 5, 3) := by decide +kernel
theorem dX3_lookup_18 : decode cX3_lookup 18 = .ok (.iconst 0, 1) := by decide +kernel
theorem dX3_lookup_19 : decode cX3_lookup 19 = .ok (.ireturn, 1) := by decide +kernel
theorem dX3_lookup_20 : decode cX3_lookup 20 = .ok (.iload_n 2, 1) := by decide +kernel
theorem dX3_lookup_21 : decode cX3_lookup 21 = .ok (.iload_n 3, 1) := by decide +kernel
theorem dX3_lookup_22 : decode cX3_lookup 22 = .ok (.invokestatic 87, 3) := by decide +kernel
theorem dX3_lookup_25 : decode cX3_lookup 25 = .ok (.istore 4, 2) := by decide +kernel
theorem dX3_lookup_27 : decode cX3_lookup 27 = .ok (.aload_n 0, 1) := by decide +kernel
theorem dX3_lookup_28 : decode cX3_lookup 28 = .ok (.iload_n 1, 1) := by decide +kernel
theorem dX3_lookup_29 : decode cX3_lookup 29 = .ok (.iload 4, 2) := by decide +kernel
theorem dX3_lookup_31 : decode cX3_lookup 31 = .ok (.invokevirtual 83, 3) := by decide +kernel
theorem dX3_lookup_34 : decode cX3_lookup 34 = .ok (.ifCond .eq 16, 3) := by decide +kernel
theorem dX3_lookup_37 : decode cX3_lookup 37 = .ok (.aload_n 0, 1) := by decide +kernel
theorem dX3_lookup_38 : decode cX3_lookup 38 = .ok (.getfield 45, 3) := by decide +kernel
theorem dX3_lookup_41 : decode cX3_lookup 41 = .ok (.iload_n 1, 1) := by decide +kernel
theorem dX3_lookup_42 : decode cX3_lookup 42 = .ok (.dup2, 1) := by decide +kernel
theorem dX3_lookup_43 : decode cX3_lookup 43 = .ok (.iaload, 1) := by decide +kernel
theorem dX3_lookup_44 : decode cX3_lookup 44 = .ok (.iconst 1, 1) := by decide +kernel
theorem dX3_lookup_45 : decode cX3_lookup 45 = .ok (.iadd, 1) := by decide +kernel
theorem dX3_lookup_46 : decode cX3_lookup 46 = .ok (.iastore, 1) := by decide +kernel
theorem dX3_lookup_47 : decode cX3_lookup 47 = .ok (.goto 38, 3) := by decide +kernel
theorem dX3_lookup_50 : decode cX3_lookup 50 = .ok (.aload_n 0, 1) := by decide +kernel
theorem dX3_lookup_51 : decode cX3_lookup 51 = .ok (.getfield 36, 3) := by decide +kernel
theorem dX3_lookup_54 : decode cX3_lookup 54 = .ok (.aload_n 0, 1) := by decide +kernel
theorem dX3_lookup_55 : decode cX3_lookup 55 = .ok (.iload_n 2, 1) := by decide +kernel
theorem dX3_lookup_56 : decode cX3_lookup 56 = .ok (.iload_n 3, 1) := by decide +kernel
theorem dX3_lookup_57 : decode cX3_lookup 57 = .ok (.invokevirtual 70, 3) := by decide +kernel
theorem dX3_lookup_60 : decode cX3_lookup 60 = .ok (.dup2, 1) := by decide +kernel
theorem dX3_lookup_61 : decode cX3_lookup 61 = .ok (.iaload, 1) := by decide +kernel
theorem dX3_lookup_62 : decode cX3_lookup 62 = .ok (.iconst 1, 1) := by decide +kernel
theorem dX3_lookup_63 : decode cX3_lookup 63 = .ok (.iadd, 1) := by decide +kernel
theorem dX3_lookup_64 : decode cX3_lookup 64 = .ok (.iastore, 1) := by decide +kernel
theorem dX3_lookup_65 : decode cX3_lookup 65 = .ok (.aload_n 0, 1) := by decide +kernel
theorem dX3_lookup_66 : decode cX3_lookup 66 = .ok (.getfield 39, 3) := by decide +kernel
theorem dX3_lookup_69 : decode cX3_lookup 69 = .ok (.sipush 600, 3) := by decide +kernel
theorem dX3_lookup_72 : decode cX3_lookup 72 = .ok (.iload_n 1, 1) := by decide +kernel
theorem dX3_lookup_73 : decode cX3_lookup 73 = .ok (.imul, 1) := by decide +kernel
theorem dX3_lookup_74 : decode cX3_lookup 74 = .ok (.iload 4, 2) := by decide +kernel
theorem dX3_lookup_76 : decode cX3_lookup 76 = .ok (.iadd, 1) := by decide +kernel
theorem dX3_lookup_77 : decode cX3_lookup 77 = .ok (.aload_n 0, 1) := by decide +kernel
theorem dX3_lookup_78 : decode cX3_lookup 78 = .ok (.getfield 80, 3) := by decide +kernel
theorem dX3_lookup_81 : decode cX3_lookup 81 = .ok (.bipush 10, 2) := by decide +kernel
theorem dX3_lookup_83 : decode cX3_lookup 83 = .ok (.iadd, 1) := by decide +kernel
theorem dX3_lookup_84 : decode cX3_lookup 84 = .ok (.iastore, 1) := by decide +kernel
theorem dX3_lookup_85 : decode cX3_lookup 85 = .ok (.aload_n 0, 1) := by decide +kernel
theorem dX3_lookup_86 : decode cX3_lookup 86 = .ok (.getfield 24, 3) := by decide +kernel
theorem dX3_lookup_89 : decode cX3_lookup 89 = .ok (.iload 4, 2) := by decide +kernel
theorem dX3_lookup_91 : decode cX3_lookup 91 = .ok (.iaload, 1) := by decide +kernel
theorem dX3_lookup_92 : decode cX3_lookup 92 = .ok (.ireturn, 1) := by decide +kernel
theorem dX3_barsNew_0 : decode cX3_barsNew 0 = .ok (.aload_n 0, 1) := by decide +kernel
theorem dX3_barsNew_1 : decode cX3_barsNew 1 = .ok (.iload_n 1, 1) := by decide +kernel
theorem dX3_barsNew_2 : decode cX3_barsNew 2 = .ok (.iload_n 2, 1) := by decide +kernel
theorem dX3_barsNew_3 : decode cX3_barsNew 3 = .ok (.iload_n 3, 1) := by decide +kernel
theorem dX3_barsNew_4 : decode cX3_barsNew 4 = .ok (.invokevirtual 102, 3) := by decide +kernel
theorem dX3_barsNew_7 : decode cX3_barsNew 7 = .ok (.istore 4, 2) := by decide +kernel
theorem dX3_barsNew_9 : decode cX3_barsNew 9 = .ok (.iload 4, 2) := by decide +kernel
theorem dX3_barsNew_11 : decode cX3_barsNew 11 = .ok (.ifCond .le 8, 3) := by decide +kernel
theorem dX3_barsNew_14 : decode cX3_barsNew 14 = .ok (.iload 4, 2) := by decide +kernel
theorem dX3_barsNew_16 : decode cX3_barsNew 16 = .ok (.goto 31, 3) := by decide +kernel
theorem dX3_barsNew_19 : decode cX3_barsNew 19 = .ok (.aload_n 0, 1) := by decide +kernel
theorem dX3_barsNew_20 : decode cX3_barsNew 20 = .ok (.getfield 24, 3) := by decide +kernel
theorem dX3_barsNew_23 : decode cX3_barsNew 23 = .ok (.iload_n 2, 1) := by decide +kernel
theorem dX3_barsNew_24 : decode cX3_barsNew 24 = .ok (.iload_n 3, 1) := by decide +kernel
theorem dX3_barsNew_25 : decode cX3_barsNew 25 = .ok (.invokestatic 87, 3) := by decide +kernel
theorem dX3_barsNew_28 : decode cX3_barsNew 28 = .ok (.iaload, 1) := by decide +kernel
theorem dX3_barsNew_29 : decode cX3_barsNew 29 = .ok (.iconst (-1), 1) := by decide +kernel
theorem dX3_barsNew_30 : decode cX3_barsNew 30 = .ok (.if_icmp .ne 12, 3) := by decide +kernel
theorem dX3_barsNew_33 : decode cX3_barsNew 33 = .ok (.aload_n 0, 1) := by decide +kernel
theorem dX3_barsNew_34 : decode cX3_barsNew 34 = .ok (.iload_n 2, 1) := by decide +kernel
theorem dX3_barsNew_35 : decode cX3_barsNew 35 = .ok (.iload_n 3, 1) := by decide +kernel
theorem dX3_barsNew_36 : decode cX3_barsNew 36 = .ok (.invokevirtual 106, 3) := by decide +kernel
theorem dX3_barsNew_39 : decode cX3_barsNew 39 = .ok (.ifCond .eq 7, 3) := by decide +kernel
theorem dX3_barsNew_42 : decode cX3_barsNew 42 = .ok (.iconst 3, 1) := by decide +kernel
theorem dX3_barsNew_43 : decode cX3_barsNew 43 = .ok (.goto 4, 3) := by decide +kernel
theorem dX3_barsNew_46 : decode cX3_barsNew 46 = .ok (.iconst 0, 1) := by decide +kernel
theorem dX3_barsNew_47 : decode cX3_barsNew 47 = .ok (.ireturn, 1) := by decide +kernel
theorem dX3_makeDirectory_0 : decode cX3_makeDirectory 0 = .ok (.aload_n 0, 1) := by decide +kernel
theorem dX3_makeDirectory_1 : decode cX3_makeDirectory 1 = .ok (.aload_n 0, 1) := by decide +kernel
theorem dX3_makeDirectory_2 : decode cX3_makeDirectory 2 = .ok (.iload_n 1, 1) := by decide +kernel
theorem dX3_makeDirectory_3 : decode cX3_makeDirectory 3 = .ok (.iload_n 2, 1) := by decide +kernel
theorem dX3_makeDirectory_4 : decode cX3_makeDirectory 4 = .ok (.iload_n 3, 1) := by decide +kernel
theorem dX3_makeDirectory_5 : decode cX3_makeDirectory 5 = .ok (.invokevirtual 109, 3) := by decide +kernel
theorem dX3_makeDirectory_8 : decode cX3_makeDirectory 8 = .ok (.putfield 55, 3) := by decide +kernel
theorem dX3_makeDirectory_11 : decode cX3_makeDirectory 11 = .ok (.aload_n 0, 1) := by decide +kernel
theorem dX3_makeDirectory_12 : decode cX3_makeDirectory 12 = .ok (.aload_n 0, 1) := by decide +kernel
theorem dX3_makeDirectory_13 : decode cX3_makeDirectory 13 = .ok (.getfield 55, 3) := by decide +kernel
theorem dX3_makeDirectory_16 : decode cX3_makeDirectory 16 = .ok (.ifCond .ne 16, 3) := by decide +kernel
theorem dX3_makeDirectory_19 : decode cX3_makeDirectory 19 = .ok (.aload_n 0, 1) := by decide +kernel
theorem dX3_makeDirectory_20 : decode cX3_makeDirectory 20 = .ok (.getfield 7, 3) := by decide +kernel
theorem dX3_makeDirectory_23 : decode cX3_makeDirectory 23 = .ok (.bipush 12, 2) := by decide +kernel
theorem dX3_makeDirectory_25 : decode cX3_makeDirectory 25 = .ok (.if_icmp .ne 7, 3) := by decide +kernel
theorem dX3_makeDirectory_28 : decode cX3_makeDirectory 28 = .ok (.iconst 3, 1) := by decide +kernel
theorem dX3_makeDirectory_29 : decode cX3_makeDirectory 29 = .ok (.goto 7, 3) := by decide +kernel
theorem dX3_makeDirectory_32 : decode cX3_makeDirectory 32 = .ok (.aload_n 0, 1) := by decide +kernel
theorem dX3_makeDirectory_33 : decode cX3_makeDirectory 33 = .ok (.getfield 55, 3) := by decide +kernel
theorem dX3_makeDirectory_36 : decode cX3_makeDirectory 36 = .ok (.putfield 55, 3) := by decide +kernel
theorem dX3_makeDirectory_39 : decode cX3_makeDirectory 39 = .ok (.aload_n 0, 1) := by decide +kernel
theorem dX3_makeDirectory_40 : decode cX3_makeDirectory 40 = .ok (.getfield 55, 3) := by decide +kernel
theorem dX3_makeDirectory_43 : decode cX3_makeDirectory 43 = .ok (.ifCond .le 5, 3) := by decide +kernel
theorem dX3_makeDirectory_46 : decode cX3_makeDirectory 46 = .ok (.iconst 0, 1) := by decide +kernel
theorem dX3_makeDirectory_47 : decode cX3_makeDirectory 47 = .ok (.ireturn, 1) := by decide +kernel
theorem dX3_makeDirectory_48 : decode cX3_makeDirectory 48 = .ok (.aload_n 0, 1) := by decide +kernel
theorem dX3_makeDirectory_49 : decode cX3_makeDirectory 49 = .ok (.getfield 7, 3) := by decide +kernel
theorem dX3_makeDirectory_52 : decode cX3_makeDirectory 52 = .ok (.istore 4, 2) := by decide +kernel
theorem dX3_makeDirectory_54 : decode cX3_makeDirectory 54 = .ok (.aload_n 0, 1) := by decide +kernel
theorem dX3_makeDirectory_55 : decode cX3_makeDirectory 55 = .ok (.dup, 1) := by decide +kernel
theorem dX3_makeDirectory_56 : decode cX3_makeDirectory 56 = .ok (.getfield 7, 3) := by decide +kernel
theorem dX3_makeDirectory_59 : decode cX3_makeDirectory 59 = .ok (.iconst 1, 1) := by decide +kernel
theorem dX3_makeDirectory_60 : decode cX3_makeDirectory 60 = .ok (.iadd, 1) := by decide +kernel
theorem dX3_makeDirectory_61 : decode cX3_makeDirectory 61 = .ok (.putfield 7, 3) := by decide +kernel
theorem dX3_makeDirectory_64 : decode cX3_makeDirectory 64 = .ok (.aload_n 0, 1) := by decide +kernel
theorem dX3_makeDirectory_65 : decode cX3_makeDirectory 65 = .ok (.iload_n 1, 1) := by decide +kernel
theorem dX3_makeDirectory_66 : decode cX3_makeDirectory 66 = .ok (.iload_n 2, 1) := by decide +kernel
theorem dX3_makeDirectory_67 : decode cX3_makeDirectory 67 = .ok (.iload_n 3, 1) := by decide +kernel
theorem dX3_makeDirectory_68 : decode cX3_makeDirectory 68 = .ok (.invokevirtual 112, 3) := by decide +kernel
theorem dX3_makeDirectory_71 : decode cX3_makeDirectory 71 = .ok (.aload_n 0, 1) := by decide +kernel
theorem dX3_makeDirectory_72 : decode cX3_makeDirectory 72 = .ok (.getfield 24, 3) := by decide +kernel
theorem dX3_makeDirectory_75 : decode cX3_makeDirectory 75 = .ok (.iload_n 2, 1) := by decide +kernel
theorem dX3_makeDirectory_76 : decode cX3_makeDirectory 76 = .ok (.iload_n 3, 1) := by decide +kernel
theorem dX3_makeDirectory_77 : decode cX3_makeDirectory 77 = .ok (.invokestatic 87, 3) := by decide +kernel
theorem dX3_makeDirectory_80 : decode cX3_makeDirectory 80 = .ok (.bipush (-2), 2) := by decide +kernel
theorem dX3_makeDirectory_82 : decode cX3_makeDirectory 82 = .ok (.iload 4, 2) := by decide +kernel
theorem dX3_makeDirectory_84 : decode cX3_makeDirectory 84 = .ok (.isub, 1) := by decide +kernel
theorem dX3_makeDirectory_85 : decode cX3_makeDirectory 85 = .ok (.iastore, 1) := by decide +kernel
theorem dX3_makeDirectory_86 : decode cX3_makeDirectory 86 = .ok (.aload_n 0, 1) := by decide +kernel
theorem dX3_makeDirectory_87 : decode cX3_makeDirectory 87 = .ok (.getfield 17, 3) := by decide +kernel
theorem dX3_makeDirectory_90 : decode cX3_makeDirectory 90 = .ok (.iload 4, 2) := by decide +kernel
theorem dX3_makeDirectory_92 : decode cX3_makeDirectory 92 = .ok (.iload_n 2, 1) := by decide +kernel
theorem dX3_makeDirectory_93 : decode cX3_makeDirectory 93 = .ok (.iastore, 1) := by decide +kernel
theorem dX3_makeDirectory_94 : decode cX3_makeDirectory 94 = .ok (.aload_n 0, 1) := by decide +kernel
theorem dX3_makeDirectory_95 : decode cX3_makeDirectory 95 = .ok (.getfield 21, 3) := by decide +kernel
theorem dX3_makeDirectory_98 : decode cX3_makeDirectory 98 = .ok (.iload 4, 2) := by decide +kernel
theorem dX3_makeDirectory_100 : decode cX3_makeDirectory 100 = .ok (.iload_n 3, 1) := by decide +kernel
theorem dX3_makeDirectory_101 : decode cX3_makeDirectory 101 = .ok (.iastore, 1) := by decide +kernel
theorem dX3_makeDirectory_102 : decode cX3_makeDirectory 102 = .ok (.aload_n 0, 1) := by decide +kernel
theorem dX3_makeDirectory_103 : decode cX3_makeDirectory 103 = .ok (.iload 4, 2) := by decide +kernel
theorem dX3_makeDirectory_105 : decode cX3_makeDirectory 105 = .ok (.iconst (-1), 1) := by decide +kernel
theorem dX3_makeDirectory_106 : decode cX3_makeDirectory 106 = .ok (.invokevirtual 51, 3) := by decide +kernel
theorem dX3_makeDirectory_109 : decode cX3_makeDirectory 109 = .ok (.iload 4, 2) := by decide +kernel
theorem dX3_makeDirectory_111 : decode cX3_makeDirectory 111 = .ok (.ireturn, 1) := by decide +kernel
theorem dX3_links_0 : decode cX3_links 0 = .ok (.aload_n 0, 1) := by decide +kernel
theorem dX3_links_1 : decode cX3_links 1 = .ok (.getfield 24, 3) := by decide +kernel
theorem dX3_links_4 : decode cX3_links 4 = .ok (.iload_n 1, 1) := by decide +kernel
theorem dX3_links_5 : decode cX3_links 5 = .ok (.iload_n 2, 1) := by decide +kernel
theorem dX3_links_6 : decode cX3_links 6 = .ok (.iastore, 1) := by decide +kernel
theorem dX3_links_7 : decode cX3_links 7 = .ok (.aload_n 0, 1) := by decide +kernel
theorem dX3_links_8 : decode cX3_links 8 = .ok (.getfield 27, 3) := by decide +kernel
theorem dX3_links_11 : decode cX3_links 11 = .ok (.iload_n 1, 1) := by decide +kernel
theorem dX3_links_12 : decode cX3_links 12 = .ok (.aload_n 0, 1) := by decide +kernel
theorem dX3_links_13 : decode cX3_links 13 = .ok (.getfield 116, 3) := by decide +kernel
theorem dX3_links_16 : decode cX3_links 16 = .ok (.iastore, 1) := by decide +kernel
theorem dX3_links_17 : decode cX3_links 17 = .ok (.aload_n 0, 1) := by decide +kernel
theorem dX3_links_18 : decode cX3_links 18 = .ok (.dup, 1) := by decide +kernel
theorem dX3_links_19 : decode cX3_links 19 = .ok (.getfield 116, 3) := by decide +kernel
theorem dX3_links_22 : decode cX3_links 22 = .ok (.iconst 1, 1) := by decide +kernel
theorem dX3_links_23 : decode cX3_links 23 = .ok (.iadd, 1) := by decide +kernel
theorem dX3_links_24 : decode cX3_links 24 = .ok (.putfield 116, 3) := by decide +kernel
theorem dX3_links_27 : decode cX3_links 27 = .ok (.return_, 1) := by decide +kernel
theorem dX3_makeFile_0 : decode cX3_makeFile 0 = .ok (.aload_n 0, 1) := by decide +kernel
theorem dX3_makeFile_1 : decode cX3_makeFile 1 = .ok (.aload_n 0, 1) := by decide +kernel
theorem dX3_makeFile_2 : decode cX3_makeFile 2 = .ok (.iload_n 1, 1) := by decide +kernel
theorem dX3_makeFile_3 : decode cX3_makeFile 3 = .ok (.iload_n 2, 1) := by decide +kernel
theorem dX3_makeFile_4 : decode cX3_makeFile 4 = .ok (.iload_n 3, 1) := by decide +kernel
theorem dX3_makeFile_5 : decode cX3_makeFile 5 = .ok (.invokevirtual 109, 3) := by decide +kernel
theorem dX3_makeFile_8 : decode cX3_makeFile 8 = .ok (.putfield 55, 3) := by decide +kernel
theorem dX3_makeFile_11 : decode cX3_makeFile 11 = .ok (.aload_n 0, 1) := by decide +kernel
theorem dX3_makeFile_12 : decode cX3_makeFile 12 = .ok (.aload_n 0, 1) := by decide +kernel
theorem dX3_makeFile_13 : decode cX3_makeFile 13 = .ok (.getfield 55, 3) := by decide +kernel
theorem dX3_makeFile_16 : decode cX3_makeFile 16 = .ok (.ifCond .ne 16, 3) := by decide +kernel
theorem dX3_makeFile_19 : decode cX3_makeFile 19 = .ok (.aload_n 0, 1) := by decide +kernel
theorem dX3_makeFile_20 : decode cX3_makeFile 20 = .ok (.getfield 119, 3) := by decide +kernel
theorem dX3_makeFile_23 : decode cX3_makeFile 23 = .ok (.bipush 30, 2) := by decide +kernel
theorem dX3_makeFile_25 : decode cX3_makeFile 25 = .ok (.if_icmp .ne 7, 3) := by decide +kernel
theorem dX3_makeFile_28 : decode cX3_makeFile 28 = .ok (.iconst 3, 1) := by decide +kernel
theorem dX3_makeFile_29 : decode cX3_makeFile 29 = .ok (.goto 7, 3) := by decide +kernel
theorem dX3_makeFile_32 : decode cX3_makeFile 32 = .ok (.aload_n 0, 1) := by decide +kernel
theorem dX3_makeFile_33 : decode cX3_makeFile 33 = .ok (.getfield 55, 3) := by decide +kernel
theorem dX3_makeFile_36 : decode cX3_makeFile 36 = .ok (.putfield 55, 3) := by decide +kernel
theorem dX3_makeFile_39 : decode cX3_makeFile 39 = .ok (.aload_n 0, 1) := by decide +kernel
theorem dX3_makeFile_40 : decode cX3_makeFile 40 = .ok (.getfield 55, 3) := by decide +kernel
theorem dX3_makeFile_43 : decode cX3_makeFile 43 = .ok (.ifCond .le 5, 3) := by decide +kernel
theorem dX3_makeFile_46 : decode cX3_makeFile 46 = .ok (.iconst 0, 1) := by decide +kernel
theorem dX3_makeFile_47 : decode cX3_makeFile 47 = .ok (.ireturn, 1) := by decide +kernel
theorem dX3_makeFile_48 : decode cX3_makeFile 48 = .ok (.aload_n 0, 1) := by decide +kernel
theorem dX3_makeFile_49 : decode cX3_makeFile 49 = .ok (.iload_n 1, 1) := by decide +kernel
theorem dX3_makeFile_50 : decode cX3_makeFile 50 = .ok (.iload_n 2, 1) := by decide +kernel
theorem dX3_makeFile_51 : decode cX3_makeFile 51 = .ok (.iload_n 3, 1) := by decide +kernel
theorem dX3_makeFile_52 : decode cX3_makeFile 52 = .ok (.invokevirtual 112, 3) := by decide +kernel
theorem dX3_makeFile_55 : decode cX3_makeFile 55 = .ok (.aload_n 0, 1) := by decide +kernel
theorem dX3_makeFile_56 : decode cX3_makeFile 56 = .ok (.iload_n 2, 1) := by decide +kernel
theorem dX3_makeFile_57 : decode cX3_makeFile 57 = .ok (.iload_n 3, 1) := by decide +kernel
theorem dX3_makeFile_58 : decode cX3_makeFile 58 = .ok (.invokestatic 87, 3) := by decide +kernel
theorem dX3_makeFile_61 : decode cX3_makeFile 61 = .ok (.aload_n 0, 1) := by decide +kernel
theorem dX3_makeFile_62 : decode cX3_makeFile 62 = .ok (.getfield 119, 3) := by decide +kernel
theorem dX3_makeFile_65 : decode cX3_makeFile 65 = .ok (.invokevirtual 122, 3) := by decide +kernel
theorem dX3_makeFile_68 : decode cX3_makeFile 68 = .ok (.aload_n 0, 1) := by decide +kernel
theorem dX3_makeFile_69 : decode cX3_makeFile 69 = .ok (.dup, 1) := by decide +kernel
theorem dX3_makeFile_70 : decode cX3_makeFile 70 = .ok (.getfield 119, 3) := by decide +kernel
theorem dX3_makeFile_73 : decode cX3_makeFile 73 = .ok (.iconst 1, 1) := by decide +kernel
theorem dX3_makeFile_74 : decode cX3_makeFile 74 = .ok (.iadd, 1) := by decide +kernel
theorem dX3_makeFile_75 : decode cX3_makeFile 75 = .ok (.putfield 119, 3) := by decide +kernel
theorem dX3_makeFile_78 : decode cX3_makeFile 78 = .ok (.aload_n 0, 1) := by decide +kernel
theorem dX3_makeFile_79 : decode cX3_makeFile 79 = .ok (.getfield 119, 3) := by decide +kernel
theorem dX3_makeFile_82 : decode cX3_makeFile 82 = .ok (.iconst 1, 1) := by decide +kernel
theorem dX3_makeFile_83 : decode cX3_makeFile 83 = .ok (.isub, 1) := by decide +kernel
theorem dX3_makeFile_84 : decode cX3_makeFile 84 = .ok (.ireturn, 1) := by decide +kernel
theorem dX3_countLinks_0 : decode cX3_countLinks 0 = .ok (.iconst 0, 1) := by decide +kernel
theorem dX3_countLinks_1 : decode cX3_countLinks 1 = .ok (.istore_n 2, 1) := by decide +kernel
theorem dX3_countLinks_2 : decode cX3_countLinks 2 = .ok (.iconst 0, 1) := by decide +kernel
theorem dX3_countLinks_3 : decode cX3_countLinks 3 = .ok (.istore_n 3, 1) := by decide +kernel
theorem dX3_countLinks_4 : decode cX3_countLinks 4 = .ok (.iload_n 3, 1) := by decide +kernel
theorem dX3_countLinks_5 : decode cX3_countLinks 5 = .ok (.sipush 600, 3) := by decide +kernel
theorem dX3_countLinks_8 : decode cX3_countLinks 8 = .ok (.if_icmp .ge 27, 3) := by decide +kernel
theorem dX3_countLinks_11 : decode cX3_countLinks 11 = .ok (.iload_n 2, 1) := by decide +kernel
theorem dX3_countLinks_12 : decode cX3_countLinks 12 = .ok (.aload_n 0, 1) := by decide +kernel
theorem dX3_countLinks_13 : decode cX3_countLinks 13 = .ok (.getfield 24, 3) := by decide +kernel
theorem dX3_countLinks_16 : decode cX3_countLinks 16 = .ok (.iload_n 3, 1) := by decide +kernel
theorem dX3_countLinks_17 : decode cX3_countLinks 17 = .ok (.iaload, 1) := by decide +kernel
theorem dX3_countLinks_18 : decode cX3_countLinks 18 = .ok (.iload_n 1, 1) := by decide +kernel
theorem dX3_countLinks_19 : decode cX3_countLinks 19 = .ok (.if_icmp .ne 7, 3) := by decide +kernel
theorem dX3_countLinks_22 : decode cX3_countLinks 22 = .ok (.iconst 1, 1) := by decide +kernel
theorem dX3_countLinks_23 : decode cX3_countLinks 23 = .ok (.goto 4, 3) := by decide +kernel
theorem dX3_countLinks_26 : decode cX3_countLinks 26 = .ok (.iconst 0, 1) := by decide +kernel
theorem dX3_countLinks_27 : decode cX3_countLinks 27 = .ok (.iadd, 1) := by decide +kernel
theorem dX3_countLinks_28 : decode cX3_countLinks 28 = .ok (.istore_n 2, 1) := by decide +kernel
theorem dX3_countLinks_29 : decode cX3_countLinks 29 = .ok (.iinc 3 1, 3) := by decide +kernel
theorem dX3_countLinks_32 : decode cX3_countLinks 32 = .ok (.goto (-28), 3) := by decide +kernel
theorem dX3_countLinks_35 : decode cX3_countLinks 35 = .ok (.iload_n 2, 1) := by decide +kernel
theorem dX3_countLinks_36 : decode cX3_countLinks 36 = .ok (.ireturn, 1) := by decide +kernel
theorem dX3_isFile_0 : decode cX3_isFile 0 = .ok (.iload_n 1, 1) := by decide +kernel
theorem dX3_isFile_1 : decode cX3_isFile 1 = .ok (.iconst 0, 1) := by decide +kernel
theorem dX3_isFile_2 : decode cX3_isFile 2 = .ok (.aload_n 0, 1) := by decide +kernel
theorem dX3_isFile_3 : decode cX3_isFile 3 = .ok (.getfield 119, 3) := by decide +kernel
theorem dX3_isFile_6 : decode cX3_isFile 6 = .ok (.iconst 1, 1) := by decide +kernel
theorem dX3_isFile_7 : decode cX3_isFile 7 = .ok (.isub, 1) := by decide +kernel
theorem dX3_isFile_8 : decode cX3_isFile 8 = .ok (.invokestatic 58, 3) := by decide +kernel
theorem dX3_isFile_11 : decode cX3_isFile 11 = .ok (.ifCond .eq 15, 3) := by decide +kernel
theorem dX3_isFile_14 : decode cX3_isFile 14 = .ok (.aload_n 0, 1) := by decide +kernel
theorem dX3_isFile_15 : decode cX3_isFile 15 = .ok (.iload_n 1, 1) := by decide +kernel
theorem dX3_isFile_16 : decode cX3_isFile 16 = .ok (.invokevirtual 124, 3) := by decide +kernel
theorem dX3_isFile_19 : decode cX3_isFile 19 = .ok (.ifCond .le 7, 3) := by decide +kernel
theorem dX3_isFile_22 : decode cX3_isFile 22 = .ok (.iconst 1, 1) := by decide +kernel
theorem dX3_isFile_23 : decode cX3_isFile 23 = .ok (.goto 4, 3) := by decide +kernel
theorem dX3_isFile_26 : decode cX3_isFile 26 = .ok (.iconst 0, 1) := by decide +kernel
theorem dX3_isFile_27 : decode cX3_isFile 27 = .ok (.ireturn, 1) := by decide +kernel
theorem dX3_link_0 : decode cX3_link 0 = .ok (.aload_n 0, 1) := by decide +kernel
theorem dX3_link_1 : decode cX3_link 1 = .ok (.iload_n 1, 1) := by decide +kernel
theorem dX3_link_2 : decode cX3_link 2 = .ok (.iload_n 2, 1) := by decide +kernel
theorem dX3_link_3 : decode cX3_link 3 = .ok (.iload_n 3, 1) := by decide +kernel
theorem dX3_link_4 : decode cX3_link 4 = .ok (.invokevirtual 109, 3) := by decide +kernel
theorem dX3_link_7 : decode cX3_link 7 = .ok (.istore 5, 2) := by decide +kernel
theorem dX3_link_9 : decode cX3_link 9 = .ok (.aload_n 0, 1) := by decide +kernel
theorem dX3_link_10 : decode cX3_link 10 = .ok (.iload 5, 2) := by decide +kernel
theorem dX3_link_12 : decode cX3_link 12 = .ok (.iconst 1, 1) := by decide +kernel
theorem dX3_link_13 : decode cX3_link 13 = .ok (.if_icmp .ne 7, 3) := by decide +kernel
theorem dX3_link_16 : decode cX3_link 16 = .ok (.iconst 1, 1) := by decide +kernel
theorem dX3_link_17 : decode cX3_link 17 = .ok (.goto 24, 3) := by decide +kernel
theorem dX3_link_20 : decode cX3_link 20 = .ok (.iload 5, 2) := by decide +kernel
theorem dX3_link_22 : decode cX3_link 22 = .ok (.iconst 2, 1) := by decide +kernel
theorem dX3_link_23 : decode cX3_link 23 = .ok (.if_icmp .eq 12, 3) := by decide +kernel
theorem dX3_link_26 : decode cX3_link 26 = .ok (.aload_n 0, 1) := by decide +kernel
theorem dX3_link_27 : decode cX3_link 27 = .ok (.iload 4, 2) := by decide +kernel
theorem dX3_link_29 : decode cX3_link 29 = .ok (.invokevirtual 127, 3) := by decide +kernel
theorem dX3_link_32 : decode cX3_link 32 = .ok (.ifCond .ne 7, 3) := by decide +kernel
theorem dX3_link_35 : decode cX3_link 35 = .ok (.iconst 2, 1) := by decide +kernel
theorem dX3_link_36 : decode cX3_link 36 = .ok (.goto 5, 3) := by decide +kernel
theorem dX3_link_39 : decode cX3_link 39 = .ok (.iload 5, 2) := by decide +kernel
theorem dX3_link_41 : decode cX3_link 41 = .ok (.putfield 55, 3) := by decide +kernel
theorem dX3_link_44 : decode cX3_link 44 = .ok (.aload_n 0, 1) := by decide +kernel
theorem dX3_link_45 : decode cX3_link 45 = .ok (.getfield 55, 3) := by decide +kernel
theorem dX3_link_48 : decode cX3_link 48 = .ok (.ifCond .le 5, 3) := by decide +kernel
theorem dX3_link_51 : decode cX3_link 51 = .ok (.iconst 0, 1) := by decide +kernel
theorem dX3_link_52 : decode cX3_link 52 = .ok (.ireturn, 1) := by decide +kernel
theorem dX3_link_53 : decode cX3_link 53 = .ok (.aload_n 0, 1) := by decide +kernel
theorem dX3_link_54 : decode cX3_link 54 = .ok (.iload_n 1, 1) := by decide +kernel
theorem dX3_link_55 : decode cX3_link 55 = .ok (.iload_n 2, 1) := by decide +kernel
theorem dX3_link_56 : decode cX3_link 56 = .ok (.iload_n 3, 1) := by decide +kernel
theorem dX3_link_57 : decode cX3_link 57 = .ok (.invokevirtual 112, 3) := by decide +kernel
theorem dX3_link_60 : decode cX3_link 60 = .ok (.aload_n 0, 1) := by decide +kernel
theorem dX3_link_61 : decode cX3_link 61 = .ok (.iload_n 2, 1) := by decide +kernel
theorem dX3_link_62 : decode cX3_link 62 = .ok (.iload_n 3, 1) := by decide +kernel
theorem dX3_link_63 : decode cX3_link 63 = .ok (.invokestatic 87, 3) := by decide +kernel
theorem dX3_link_66 : decode cX3_link 66 = .ok (.iload 4, 2) := by decide +kernel
theorem dX3_link_68 : decode cX3_link 68 = .ok (.invokevirtual 122, 3) := by decide +kernel
theorem dX3_link_71 : decode cX3_link 71 = .ok (.aload_n 0, 1) := by decide +kernel
theorem dX3_link_72 : decode cX3_link 72 = .ok (.iload 4, 2) := by decide +kernel
theorem dX3_link_74 : decode cX3_link 74 = .ok (.invokevirtual 124, 3) := by decide +kernel
theorem dX3_link_77 : decode cX3_link 77 = .ok (.ireturn, 1) := by decide +kernel
theorem dX3_used_0 : decode cX3_used 0 = .ok (.iconst 0, 1) := by decide +kernel
theorem dX3_used_1 : decode cX3_used 1 = .ok (.istore_n 2, 1) := by decide +kernel
theorem dX3_used_2 : decode cX3_used 2 = .ok (.iconst 0, 1) := by decide +kernel
theorem dX3_used_3 : decode cX3_used 3 = .ok (.istore_n 3, 1) := by decide +kernel
theorem dX3_used_4 : decode cX3_used 4 = .ok (.iload_n 3, 1) := by decide +kernel
theorem dX3_used_5 : decode cX3_used 5 = .ok (.bipush 50, 2) := by decide +kernel
theorem dX3_used_7 : decode cX3_used 7 = .ok (.if_icmp .ge 31, 3) := by decide +kernel
theorem dX3_used_10 : decode cX3_used 10 = .ok (.iload_n 2, 1) := by decide +kernel
theorem dX3_used_11 : decode cX3_used 11 = .ok (.aload_n 0, 1) := by decide +kernel
theorem dX3_used_12 : decode cX3_used 12 = .ok (.getfield 24, 3) := by decide +kernel
theorem dX3_used_15 : decode cX3_used 15 = .ok (.iload_n 1, 1) := by decide +kernel
theorem dX3_used_16 : decode cX3_used 16 = .ok (.iload_n 3, 1) := by decide +kernel
theorem dX3_used_17 : decode cX3_used 17 = .ok (.invokestatic 87, 3) := by decide +kernel
theorem dX3_used_20 : decode cX3_used 20 = .ok (.iaload, 1) := by decide +kernel
theorem dX3_used_21 : decode cX3_used 21 = .ok (.iconst (-1), 1) := by decide +kernel
theorem dX3_used_22 : decode cX3_used 22 = .ok (.if_icmp .ne 7, 3) := by decide +kernel
theorem dX3_used_25 : decode cX3_used 25 = .ok (.iconst 0, 1) := by decide +kernel
theorem dX3_used_26 : decode cX3_used 26 = .ok (.goto 4, 3) := by decide +kernel
theorem dX3_used_29 : decode cX3_used 29 = .ok (.iconst 1, 1) := by decide +kernel
theorem dX3_used_30 : decode cX3_used 30 = .ok (.iadd, 1) := by decide +kernel
theorem dX3_used_31 : decode cX3_used 31 = .ok (.istore_n 2, 1) := by decide +kernel
theorem dX3_used_32 : decode cX3_used 32 = .ok (.iinc 3 1, 3) := by decide +kernel
theorem dX3_used_35 : decode cX3_used 35 = .ok (.goto (-31), 3) := by decide +kernel
theorem dX3_used_38 : decode cX3_used 38 = .ok (.iload_n 2, 1) := by decide +kernel
theorem dX3_used_39 : decode cX3_used 39 = .ok (.ireturn, 1) := by decide +kernel
theorem dX3_isHeld_0 : decode cX3_isHeld 0 = .ok (.aload_n 0, 1) := by decide +kernel
theorem dX3_isHeld_1 : decode cX3_isHeld 1 = .ok (.iload_n 1, 1) := by decide +kernel
theorem dX3_isHeld_2 : decode cX3_isHeld 2 = .ok (.invokevirtual 130, 3) := by decide +kernel
theorem dX3_isHeld_5 : decode cX3_isHeld 5 = .ok (.ifCond .gt 22, 3) := by decide +kernel
theorem dX3_isHeld_8 : decode cX3_isHeld 8 = .ok (.aload_n 0, 1) := by decide +kernel
theorem dX3_isHeld_9 : decode cX3_isHeld 9 = .ok (.getfield 48, 3) := by decide +kernel
theorem dX3_isHeld_12 : decode cX3_isHeld 12 = .ok (.iconst (-1), 1) := by decide +kernel
theorem dX3_isHeld_13 : decode cX3_isHeld 13 = .ok (.if_icmp .eq 18, 3) := by decide +kernel
theorem dX3_isHeld_16 : decode cX3_isHeld 16 = .ok (.aload_n 0, 1) := by decide +kernel
theorem dX3_isHeld_17 : decode cX3_isHeld 17 = .ok (.getfield 48, 3) := by decide +kernel
theorem dX3_isHeld_20 : decode cX3_isHeld 20 = .ok (.bipush 8, 2) := by decide +kernel
theorem dX3_isHeld_22 : decode cX3_isHeld 22 = .ok (.idiv, 1) := by decide +kernel
theorem dX3_isHeld_23 : decode cX3_isHeld 23 = .ok (.iload_n 1, 1) := by decide +kernel
theorem dX3_isHeld_24 : decode cX3_isHeld 24 = .ok (.if_icmp .ne 7, 3) := by decide +kernel
theorem dX3_isHeld_27 : decode cX3_isHeld 27 = .ok (.iconst 1, 1) := by decide +kernel
theorem dX3_isHeld_28 : decode cX3_isHeld 28 = .ok (.goto 4, 3) := by decide +kernel
theorem dX3_isHeld_31 : decode cX3_isHeld 31 = .ok (.iconst 0, 1) := by decide +kernel
theorem dX3_isHeld_32 : decode cX3_isHeld 32 = .ok (.ireturn, 1) := by decide +kernel
theorem dX3_remove_0 : decode cX3_remove 0 = .ok (.aload_n 0, 1) := by decide +kernel
theorem dX3_remove_1 : decode cX3_remove 1 = .ok (.aload_n 0, 1) := by decide +kernel
theorem dX3_remove_2 : decode cX3_remove 2 = .ok (.iload_n 1, 1) := by decide +kernel
theorem dX3_remove_3 : decode cX3_remove 3 = .ok (.iload_n 2, 1) := by decide +kernel
theorem dX3_remove_4 : decode cX3_remove 4 = .ok (.iload_n 3, 1) := by decide +kernel
theorem dX3_remove_5 : decode cX3_remove 5 = .ok (.invokevirtual 102, 3) := by decide +kernel
theorem dX3_remove_8 : decode cX3_remove 8 = .ok (.putfield 55, 3) := by decide +kernel
theorem dX3_remove_11 : decode cX3_remove 11 = .ok (.aload_n 0, 1) := by decide +kernel
theorem dX3_remove_12 : decode cX3_remove 12 = .ok (.getfield 55, 3) := by decide +kernel
theorem dX3_remove_15 : decode cX3_remove 15 = .ok (.ifCond .le 5, 3) := by decide +kernel
theorem dX3_remove_18 : decode cX3_remove 18 = .ok (.iconst 0, 1) := by decide +kernel
theorem dX3_remove_19 : decode cX3_remove 19 = .ok (.ireturn, 1) := by decide +kernel
theorem dX3_remove_20 : decode cX3_remove 20 = .ok (.aload_n 0, 1) := by decide +kernel
theorem dX3_remove_21 : decode cX3_remove 21 = .ok (.getfield 24, 3) := by decide +kernel
theorem dX3_remove_24 : decode cX3_remove 24 = .ok (.iload_n 2, 1) := by decide +kernel
theorem dX3_remove_25 : decode cX3_remove 25 = .ok (.iload_n 3, 1) := by decide +kernel
theorem dX3_remove_26 : decode cX3_remove 26 = .ok (.invokestatic 87, 3) := by decide +kernel
theorem dX3_remove_29 : decode cX3_remove 29 = .ok (.iaload, 1) := by decide +kernel
theorem dX3_remove_30 : decode cX3_remove 30 = .ok (.istore 4, 2) := by decide +kernel
theorem dX3_remove_32 : decode cX3_remove 32 = .ok (.aload_n 0, 1) := by decide +kernel
theorem dX3_remove_33 : decode cX3_remove 33 = .ok (.iload 4, 2) := by decide +kernel
theorem dX3_remove_35 : decode cX3_remove 35 = .ok (.iconst (-1), 1) := by decide +kernel
theorem dX3_remove_36 : decode cX3_remove 36 = .ok (.if_icmp .eq 30, 3) := by decide +kernel
theorem dX3_remove_39 : decode cX3_remove 39 = .ok (.iload 4, 2) := by decide +kernel
theorem dX3_remove_41 : decode cX3_remove 41 = .ok (.iconst (-1), 1) := by decide +kernel
theorem dX3_remove_42 : decode cX3_remove 42 = .ok (.if_icmp .ge 15, 3) := by decide +kernel
theorem dX3_remove_45 : decode cX3_remove 45 = .ok (.aload_n 0, 1) := by decide +kernel
theorem dX3_remove_46 : decode cX3_remove 46 = .ok (.bipush (-2), 2) := by decide +kernel
theorem dX3_remove_48 : decode cX3_remove 48 = .ok (.iload 4, 2) := by decide +kernel
theorem dX3_remove_50 : decode cX3_remove 50 = .ok (.isub, 1) := by decide +kernel
theorem dX3_remove_51 : decode cX3_remove 51 = .ok (.invokevirtual 133, 3) := by decide +kernel
theorem dX3_remove_54 : decode cX3_remove 54 = .ok (.ifCond .ne 12, 3) := by decide +kernel
theorem dX3_remove_57 : decode cX3_remove 57 = .ok (.aload_n 0, 1) := by decide +kernel
theorem dX3_remove_58 : decode cX3_remove 58 = .ok (.iload_n 2, 1) := by decide +kernel
theorem dX3_remove_59 : decode cX3_remove 59 = .ok (.iload_n 3, 1) := by decide +kernel
theorem dX3_remove_60 : decode cX3_remove 60 = .ok (.invokevirtual 106, 3) := by decide +kernel
theorem dX3_remove_63 : decode cX3_remove 63 = .ok (.ifCond .eq 7, 3) := by decide +kernel
theorem dX3_remove_66 : decode cX3_remove 66 = .ok (.iconst 3, 1) := by decide +kernel
theorem dX3_remove_67 : decode cX3_remove 67 = .ok (.goto 4, 3) := by decide +kernel
theorem dX3_remove_70 : decode cX3_remove 70 = .ok (.iconst 0, 1) := by decide +kernel
theorem dX3_remove_71 : decode cX3_remove 71 = .ok (.putfield 55, 3) := by decide +kernel
theorem dX3_remove_74 : decode cX3_remove 74 = .ok (.aload_n 0, 1) := by decide +kernel
theorem dX3_remove_75 : decode cX3_remove 75 = .ok (.getfield 55, 3) := by decide +kernel
theorem dX3_remove_78 : decode cX3_remove 78 = .ok (.ifCond .le 5, 3) := by decide +kernel
theorem dX3_remove_81 : decode cX3_remove 81 = .ok (.iconst 0, 1) := by decide +kernel
theorem dX3_remove_82 : decode cX3_remove 82 = .ok (.ireturn, 1) := by decide +kernel
theorem dX3_remove_83 : decode cX3_remove 83 = .ok (.aload_n 0, 1) := by decide +kernel
theorem dX3_remove_84 : decode cX3_remove 84 = .ok (.iload_n 1, 1) := by decide +kernel
theorem dX3_remove_85 : decode cX3_remove 85 = .ok (.iload_n 2, 1) := by decide +kernel
theorem dX3_remove_86 : decode cX3_remove 86 = .ok (.iload_n 3, 1) := by decide +kernel
theorem dX3_remove_87 : decode cX3_remove 87 = .ok (.invokevirtual 112, 3) := by decide +kernel
theorem dX3_remove_90 : decode cX3_remove 90 = .ok (.aload_n 0, 1) := by decide +kernel
theorem dX3_remove_91 : decode cX3_remove 91 = .ok (.getfield 24, 3) := by decide +kernel
theorem dX3_remove_94 : decode cX3_remove 94 = .ok (.iload_n 2, 1) := by decide +kernel
theorem dX3_remove_95 : decode cX3_remove 95 = .ok (.iload_n 3, 1) := by decide +kernel
theorem dX3_remove_96 : decode cX3_remove 96 = .ok (.invokestatic 87, 3) := by decide +kernel
theorem dX3_remove_99 : decode cX3_remove 99 = .ok (.iconst (-1), 1) := by decide +kernel
theorem dX3_remove_100 : decode cX3_remove 100 = .ok (.iastore, 1) := by decide +kernel
theorem dX3_remove_101 : decode cX3_remove 101 = .ok (.iload 4, 2) := by decide +kernel
theorem dX3_remove_103 : decode cX3_remove 103 = .ok (.iconst (-1), 1) := by decide +kernel
theorem dX3_remove_104 : decode cX3_remove 104 = .ok (.if_icmp .ge 99, 3) := by decide +kernel
theorem dX3_remove_107 : decode cX3_remove 107 = .ok (.bipush (-2), 2) := by decide +kernel
theorem dX3_remove_109 : decode cX3_remove 109 = .ok (.iload 4, 2) := by decide +kernel
theorem dX3_remove_111 : decode cX3_remove 111 = .ok (.isub, 1) := by decide +kernel
theorem dX3_remove_112 : decode cX3_remove 112 = .ok (.istore 5, 2) := by decide +kernel
theorem dX3_remove_114 : decode cX3_remove 114 = .ok (.aload_n 0, 1) := by decide +kernel
theorem dX3_remove_115 : decode cX3_remove 115 = .ok (.getfield 13, 3) := by decide +kernel
theorem dX3_remove_118 : decode cX3_remove 118 = .ok (.iload 5, 2) := by decide +kernel
theorem dX3_remove_120 : decode cX3_remove 120 = .ok (.iconst 0, 1) := by decide +kernel
theorem dX3_remove_121 : decode cX3_remove 121 = .ok (.bastore, 1) := by decide +kernel
theorem dX3_remove_122 : decode cX3_remove 122 = .ok (.iconst 0, 1) := by decide +kernel
theorem dX3_remove_123 : decode cX3_remove 123 = .ok (.istore 6, 2) := by decide +kernel
theorem dX3_remove_125 : decode cX3_remove 125 = .ok (.iload 6, 2) := by decide +kernel
theorem dX3_remove_127 : decode cX3_remove 127 = .ok (.bipush 8, 2) := by decide +kernel
theorem dX3_remove_129 : decode cX3_remove 129 = .ok (.if_icmp .ge 23, 3) := by decide +kernel
theorem dX3_remove_132 : decode cX3_remove 132 = .ok (.aload_n 0, 1) := by decide +kernel
theorem dX3_remove_133 : decode cX3_remove 133 = .ok (.getfield 30, 3) := by decide +kernel
theorem dX3_remove_136 : decode cX3_remove 136 = .ok (.bipush 8, 2) := by decide +kernel
theorem dX3_remove_138 : decode cX3_remove 138 = .ok (.iload 5, 2) := by decide +kernel
theorem dX3_remove_140 : decode cX3_remove 140 = .ok (.imul, 1) := by decide +kernel
theorem dX3_remove_141 : decode cX3_remove 141 = .ok (.iload 6, 2) := by decide +kernel
theorem dX3_remove_143 : decode cX3_remove 143 = .ok (.iadd, 1) := by decide +kernel
theorem dX3_remove_144 : decode cX3_remove 144 = .ok (.iconst 0, 1) := by decide +kernel
theorem dX3_remove_145 : decode cX3_remove 145 = .ok (.iastore, 1) := by decide +kernel
theorem dX3_remove_146 : decode cX3_remove 146 = .ok (.iinc 6 1, 3) := by decide +kernel
theorem dX3_remove_149 : decode cX3_remove 149 = .ok (.goto (-24), 3) := by decide +kernel
theorem dX3_remove_152 : decode cX3_remove 152 = .ok (.iconst 0, 1) := by decide +kernel
theorem dX3_remove_153 : decode cX3_remove 153 = .ok (.istore 6, 2) := by decide +kernel
theorem dX3_remove_155 : decode cX3_remove 155 = .ok (.iload 6, 2) := by decide +kernel
theorem dX3_remove_157 : decode cX3_remove 157 = .ok (.iconst 4, 1) := by decide +kernel
theorem dX3_remove_158 : decode cX3_remove 158 = .ok (.if_icmp .ge 45, 3) := by decide +kernel
theorem dX3_remove_161 : decode cX3_remove 161 = .ok (.iconst 0, 1) := by decide +kernel
theorem dX3_remove_162 : decode cX3_remove 162 = .ok (.istore 7, 2) := by decide +kernel
theorem dX3_remove_164 : decode cX3_remove 164 = .ok (.iload 7, 2) := by decide +kernel
theorem dX3_remove_166 : decode cX3_remove 166 = .ok (.bipush 50, 2) := by decide +kernel
theorem dX3_remove_168 : decode cX3_remove 168 = .ok (.if_icmp .ge 29, 3) := by decide +kernel
theorem dX3_remove_171 : decode cX3_remove 171 = .ok (.aload_n 0, 1) := by decide +kernel
theorem dX3_remove_172 : decode cX3_remove 172 = .ok (.getfield 39, 3) := by decide +kernel
theorem dX3_remove_175 : decode cX3_remove 175 = .ok (.sipush 600, 3) := by decide +kernel
theorem dX3_remove_178 : decode cX3_remove 178 = .ok (.iload 6, 2) := by decide +kernel
theorem dX3_remove_180 : decode cX3_remove 180 = .ok (.imul, 1) := by decide +kernel
theorem dX3_remove_181 : decode cX3_remove 181 = .ok (.iload 5, 2) := by decide +kernel
theorem dX3_remove_183 : decode cX3_remove 183 = .ok (.iload 7, 2) := by decide +kernel
theorem dX3_remove_185 : decode cX3_remove 185 = .ok (.invokestatic 87, 3) := by decide +kernel
theorem dX3_remove_188 : decode cX3_remove 188 = .ok (.iadd, 1) := by decide +kernel
theorem dX3_remove_189 : decode cX3_remove 189 = .ok (.iconst 0, 1) := by decide +kernel
theorem dX3_remove_190 : decode cX3_remove 190 = .ok (.iastore, 1) := by decide +kernel
theorem dX3_remove_191 : decode cX3_remove 191 = .ok (.iinc 7 1, 3) := by decide +kernel
theorem dX3_remove_194 : decode cX3_remove 194 = .ok (.goto (-30), 3) := by decide +kernel
theorem dX3_remove_197 : decode cX3_remove 197 = .ok (.iinc 6 1, 3) := by decide +kernel
theorem dX3_remove_200 : decode cX3_remove 200 = .ok (.goto (-45), 3) := by decide +kernel
theorem dX3_remove_203 : decode cX3_remove 203 = .ok (.iload 4, 2) := by decide +kernel
theorem dX3_remove_205 : decode cX3_remove 205 = .ok (.ireturn, 1) := by decide +kernel
theorem dX3_isBelow_0 : decode cX3_isBelow 0 = .ok (.iload_n 1, 1) := by decide +kernel
theorem dX3_isBelow_1 : decode cX3_isBelow 1 = .ok (.istore_n 3, 1) := by decide +kernel
theorem dX3_isBelow_2 : decode cX3_isBelow 2 = .ok (.iload_n 3, 1) := by decide +kernel
theorem dX3_isBelow_3 : decode cX3_isBelow 3 = .ok (.ifCond .eq 18, 3) := by decide +kernel
theorem dX3_isBelow_6 : decode cX3_isBelow 6 = .ok (.iload_n 3, 1) := by decide +kernel
theorem dX3_isBelow_7 : decode cX3_isBelow 7 = .ok (.iload_n 2, 1) := by decide +kernel
theorem dX3_isBelow_8 : decode cX3_isBelow 8 = .ok (.if_icmp .eq 13, 3) := by decide +kernel
theorem dX3_isBelow_11 : decode cX3_isBelow 11 = .ok (.aload_n 0, 1) := by decide +kernel
theorem dX3_isBelow_12 : decode cX3_isBelow 12 = .ok (.getfield 17, 3) := by decide +kernel
theorem dX3_isBelow_15 : decode cX3_isBelow 15 = .ok (.iload_n 3, 1) := by decide +kernel
theorem dX3_isBelow_16 : decode cX3_isBelow 16 = .ok (.iaload, 1) := by decide +kernel
theorem dX3_isBelow_17 : decode cX3_isBelow 17 = .ok (.istore_n 3, 1) := by decide +kernel
theorem dX3_isBelow_18 : decode cX3_isBelow 18 = .ok (.goto (-16), 3) := by decide +kernel
theorem dX3_isBelow_21 : decode cX3_isBelow 21 = .ok (.iload_n 3, 1) := by decide +kernel
theorem dX3_isBelow_22 : decode cX3_isBelow 22 = .ok (.iload_n 2, 1) := by decide +kernel
theorem dX3_isBelow_23 : decode cX3_isBelow 23 = .ok (.if_icmp .ne 7, 3) := by decide +kernel
theorem dX3_isBelow_26 : decode cX3_isBelow 26 = .ok (.iconst 1, 1) := by decide +kernel
theorem dX3_isBelow_27 : decode cX3_isBelow 27 = .ok (.goto 4, 3) := by decide +kernel
theorem dX3_isBelow_30 : decode cX3_isBelow 30 = .ok (.iconst 0, 1) := by decide +kernel
theorem dX3_isBelow_31 : decode cX3_isBelow 31 = .ok (.ireturn, 1) := by decide +kernel
theorem dX3_rename_0 : decode cX3_rename 0 = .ok (.iload_n 1, 1) := by decide +kernel
theorem dX3_rename_1 : decode cX3_rename 1 = .ok (.invokestatic 93, 3) := by decide +kernel
theorem dX3_rename_4 : decode cX3_rename 4 = .ok (.ifCond .eq 22, 3) := by decide +kernel
theorem dX3_rename_7 : decode cX3_rename 7 = .ok (.iload_n 3, 1) := by decide +kernel
theorem dX3_rename_8 : decode cX3_rename 8 = .ok (.invokestatic 96, 3) := by decide +kernel
theorem dX3_rename_11 : decode cX3_rename 11 = .ok (.ifCond .eq 15, 3) := by decide +kernel
theorem dX3_rename_14 : decode cX3_rename 14 = .ok (.iload 5, 2) := by decide +kernel
theorem dX3_rename_16 : decode cX3_rename 16 = .ok (.invokestatic 96, 3) := by decide +kernel
theorem dX3_rename_19 : decode cX3_rename 19 = .ok (.ifCond .eq 7, 3) := by decide +kernel
theorem dX3_rename_22 : decode cX3_rename 22 = .ok (.iconst 1, 1) := by decide +kernel
theorem dX3_rename_23 : decode cX3_rename 23 = .ok (.goto 4, 3) := by decide +kernel
theorem dX3_rename_26 : decode cX3_rename 26 = .ok (.iconst 0, 1) := by decide +kernel
theorem dX3_rename_27 : decode cX3_rename 27 = .ok (.istore 6, 2) := by decide +kernel
theorem dX3_rename_29 : decode cX3_rename 29 = .ok (.aload_n 0, 1) := by decide +kernel
theorem dX3_rename_30 : decode cX3_rename 30 = .ok (.iload 6, 2) := by decide +kernel
theorem dX3_rename_32 : decode cX3_rename 32 = .ok (.ifCond .ne 7, 3) := by decide +kernel
theorem dX3_rename_35 : decode cX3_rename 35 = .ok (.iconst 1, 1) := by decide +kernel
theorem dX3_rename_36 : decode cX3_rename 36 = .ok (.goto 25, 3) := by decide +kernel
theorem dX3_rename_39 : decode cX3_rename 39 = .ok (.aload_n 0, 1) := by decide +kernel
theorem dX3_rename_40 : decode cX3_rename 40 = .ok (.iload_n 2, 1) := by decide +kernel
theorem dX3_rename_41 : decode cX3_rename 41 = .ok (.invokevirtual 99, 3) := by decide +kernel
theorem dX3_rename_44 : decode cX3_rename 44 = .ok (.ifCond .eq 12, 3) := by decide +kernel
theorem dX3_rename_47 : decode cX3_rename 47 = .ok (.aload_n 0, 1) := by decide +kernel
theorem dX3_rename_48 : decode cX3_rename 48 = .ok (.iload 4, 2) := by decide +kernel
theorem dX3_rename_50 : decode cX3_rename 50 = .ok (.invokevirtual 99, 3) := by decide +kernel
theorem dX3_rename_53 : decode cX3_rename 53 = .ok (.ifCond .ne 7, 3) := by decide +kernel
theorem dX3_rename_56 : decode cX3_rename 56 = .ok (.iconst 2, 1) := by decide +kernel
theorem dX3_rename_57 : decode cX3_rename 57 = .ok (.goto 4, 3) := by decide +kernel
theorem dX3_rename_60 : decode cX3_rename 60 = .ok (.iconst 0, 1) := by decide +kernel
theorem dX3_rename_61 : decode cX3_rename 61 = .ok (.putfield 55, 3) := by decide +kernel
theorem dX3_rename_64 : decode cX3_rename 64 = .ok (.aload_n 0, 1) := by decide +kernel
theorem dX3_rename_65 : decode cX3_rename 65 = .ok (.getfield 55, 3) := by decide +kernel
theorem dX3_rename_68 : decode cX3_rename 68 = .ok (.ifCond .le 4, 3) := by decide +kernel
theorem dX3_rename_71 : decode cX3_rename 71 = .ok (.return_, 1) := by decide +kernel
theorem dX3_rename_72 : decode cX3_rename 72 = .ok (.aload_n 0, 1) := by decide +kernel
theorem dX3_rename_73 : decode cX3_rename 73 = .ok (.getfield 24, 3) := by decide +kernel
theorem dX3_rename_76 : decode cX3_rename 76 = .ok (.iload_n 2, 1) := by decide +kernel
theorem dX3_rename_77 : decode cX3_rename 77 = .ok (.iload_n 3, 1) := by decide +kernel
theorem dX3_rename_78 : decode cX3_rename 78 = .ok (.invokestatic 87, 3) := by decide +kernel
theorem dX3_rename_81 : decode cX3_rename 81 = .ok (.iaload, 1) := by decide +kernel
theorem dX3_rename_82 : decode cX3_rename 82 = .ok (.istore 7, 2) := by decide +kernel
theorem dX3_rename_84 : decode cX3_rename 84 = .ok (.iload 7, 2) := by decide +kernel
theorem dX3_rename_86 : decode cX3_rename 86 = .ok (.iconst (-1), 1) := by decide +kernel
theorem dX3_rename_87 : decode cX3_rename 87 = .ok (.if_icmp .eq 39, 3) := by decide +kernel
theorem dX3_rename_90 : decode cX3_rename 90 = .ok (.aload_n 0, 1) := by decide +kernel
theorem dX3_rename_91 : decode cX3_rename 91 = .ok (.getfield 24, 3) := by decide +kernel
theorem dX3_rename_94 : decode cX3_rename 94 = .ok (.iload 4, 2) := by decide +kernel
theorem dX3_rename_96 : decode cX3_rename 96 = .ok (.iload 5, 2) := by decide +kernel
theorem dX3_rename_98 : decode cX3_rename 98 = .ok (.invokestatic 87, 3) := by decide +kernel
theorem dX3_rename_101 : decode cX3_rename 101 = .ok (.iaload, 1) := by decide +kernel
theorem dX3_rename_102 : decode cX3_rename 102 = .ok (.iconst (-1), 1) := by decide +kernel
theorem dX3_rename_103 : decode cX3_rename 103 = .ok (.if_icmp .ne 23, 3) := by decide +kernel
theorem dX3_rename_106 : decode cX3_rename 106 = .ok (.iload 7, 2) := by decide +kernel
theorem dX3_rename_108 : decode cX3_rename 108 = .ok (.iconst (-1), 1) := by decide +kernel
theorem dX3_rename_109 : decode cX3_rename 109 = .ok (.if_icmp .ge 21, 3) := by decide +kernel
theorem dX3_rename_112 : decode cX3_rename 112 = .ok (.aload_n 0, 1) := by decide +kernel
theorem dX3_rename_113 : decode cX3_rename 113 = .ok (.iload 4, 2) := by decide +kernel
theorem dX3_rename_115 : decode cX3_rename 115 = .ok (.bipush (-2), 2) := by decide +kernel
theorem dX3_rename_117 : decode cX3_rename 117 = .ok (.iload 7, 2) := by decide +kernel
theorem dX3_rename_119 : decode cX3_rename 119 = .ok (.isub, 1) := by decide +kernel
theorem dX3_rename_120 : decode cX3_rename 120 = .ok (.invokevirtual 136, 3) := by decide +kernel
theorem dX3_rename_123 : decode cX3_rename 123 = .ok (.ifCond .eq 7, 3) := by decide +kernel
theorem dX3_rename_126 : decode cX3_rename 126 = .ok (.iconst 1, 1) := by decide +kernel
theorem dX3_rename_127 : decode cX3_rename 127 = .ok (.goto 4, 3) := by decide +kernel
theorem dX3_rename_130 : decode cX3_rename 130 = .ok (.iconst 0, 1) := by decide +kernel
theorem dX3_rename_131 : decode cX3_rename 131 = .ok (.istore 8, 2) := by decide +kernel
theorem dX3_rename_133 : decode cX3_rename 133 = .ok (.aload_n 0, 1) := by decide +kernel
theorem dX3_rename_134 : decode cX3_rename 134 = .ok (.iload 8, 2) := by decide +kernel
theorem dX3_rename_136 : decode cX3_rename 136 = .ok (.ifCond .ne 23, 3) := by decide +kernel
theorem dX3_rename_139 : decode cX3_rename 139 = .ok (.aload_n 0, 1) := by decide +kernel
theorem dX3_rename_140 : decode cX3_rename 140 = .ok (.iload_n 2, 1) := by decide +kernel
theorem dX3_rename_141 : decode cX3_rename 141 = .ok (.iload_n 3, 1) := by decide +kernel
theorem dX3_rename_142 : decode cX3_rename 142 = .ok (.invokevirtual 106, 3) := by decide +kernel
theorem dX3_rename_145 : decode cX3_rename 145 = .ok (.ifCond .ne 14, 3) := by decide +kernel
theorem dX3_rename_148 : decode cX3_rename 148 = .ok (.aload_n 0, 1) := by decide +kernel
theorem dX3_rename_149 : decode cX3_rename 149 = .ok (.iload 4, 2) := by decide +kernel
theorem dX3_rename_151 : decode cX3_rename 151 = .ok (.iload 5, 2) := by decide +kernel
theorem dX3_rename_153 : decode cX3_rename 153 = .ok (.invokevirtual 106, 3) := by decide +kernel
theorem dX3_rename_156 : decode cX3_rename 156 = .ok (.ifCond .eq 7, 3) := by decide +kernel
theorem dX3_rename_159 : decode cX3_rename 159 = .ok (.iconst 3, 1) := by decide +kernel
theorem dX3_rename_160 : decode cX3_rename 160 = .ok (.goto 4, 3) := by decide +kernel
theorem dX3_rename_163 : decode cX3_rename 163 = .ok (.iconst 0, 1) := by decide +kernel
theorem dX3_rename_164 : decode cX3_rename 164 = .ok (.putfield 55, 3) := by decide +kernel
theorem dX3_rename_167 : decode cX3_rename 167 = .ok (.aload_n 0, 1) := by decide +kernel
theorem dX3_rename_168 : decode cX3_rename 168 = .ok (.getfield 55, 3) := by decide +kernel
theorem dX3_rename_171 : decode cX3_rename 171 = .ok (.ifCond .le 4, 3) := by decide +kernel
theorem dX3_rename_174 : decode cX3_rename 174 = .ok (.return_, 1) := by decide +kernel
theorem dX3_rename_175 : decode cX3_rename 175 = .ok (.aload_n 0, 1) := by decide +kernel
theorem dX3_rename_176 : decode cX3_rename 176 = .ok (.iload_n 1, 1) := by decide +kernel
theorem dX3_rename_177 : decode cX3_rename 177 = .ok (.iload_n 2, 1) := by decide +kernel
theorem dX3_rename_178 : decode cX3_rename 178 = .ok (.iload_n 3, 1) := by decide +kernel
theorem dX3_rename_179 : decode cX3_rename 179 = .ok (.invokevirtual 112, 3) := by decide +kernel
theorem dX3_rename_182 : decode cX3_rename 182 = .ok (.aload_n 0, 1) := by decide +kernel
theorem dX3_rename_183 : decode cX3_rename 183 = .ok (.iload_n 1, 1) := by decide +kernel
theorem dX3_rename_184 : decode cX3_rename 184 = .ok (.iload 4, 2) := by decide +kernel
theorem dX3_rename_186 : decode cX3_rename 186 = .ok (.iload 5, 2) := by decide +kernel
theorem dX3_rename_188 : decode cX3_rename 188 = .ok (.invokevirtual 112, 3) := by decide +kernel
theorem dX3_rename_191 : decode cX3_rename 191 = .ok (.aload_n 0, 1) := by decide +kernel
theorem dX3_rename_192 : decode cX3_rename 192 = .ok (.getfield 24, 3) := by decide +kernel
theorem dX3_rename_195 : decode cX3_rename 195 = .ok (.iload_n 2, 1) := by decide +kernel
theorem dX3_rename_196 : decode cX3_rename 196 = .ok (.iload_n 3, 1) := by decide +kernel
theorem dX3_rename_197 : decode cX3_rename 197 = .ok (.invokestatic 87, 3) := by decide +kernel
theorem dX3_rename_200 : decode cX3_rename 200 = .ok (.iconst (-1), 1) := by decide +kernel
theorem dX3_rename_201 : decode cX3_rename 201 = .ok (.iastore, 1) := by decide +kernel
theorem dX3_rename_202 : decode cX3_rename 202 = .ok (.aload_n 0, 1) := by decide +kernel
theorem dX3_rename_203 : decode cX3_rename 203 = .ok (.getfield 24, 3) := by decide +kernel
theorem dX3_rename_206 : decode cX3_rename 206 = .ok (.iload 4, 2) := by decide +kernel
theorem dX3_rename_208 : decode cX3_rename 208 = .ok (.iload 5, 2) := by decide +kernel
theorem dX3_rename_210 : decode cX3_rename 210 = .ok (.invokestatic 87, 3) := by decide +kernel
theorem dX3_rename_213 : decode cX3_rename 213 = .ok (.iload 7, 2) := by decide +kernel
theorem dX3_rename_215 : decode cX3_rename 215 = .ok (.iastore, 1) := by decide +kernel
theorem dX3_rename_216 : decode cX3_rename 216 = .ok (.aload_n 0, 1) := by decide +kernel
theorem dX3_rename_217 : decode cX3_rename 217 = .ok (.getfield 27, 3) := by decide +kernel
theorem dX3_rename_220 : decode cX3_rename 220 = .ok (.iload 4, 2) := by decide +kernel
theorem dX3_rename_222 : decode cX3_rename 222 = .ok (.iload 5, 2) := by decide +kernel
theorem dX3_rename_224 : decode cX3_rename 224 = .ok (.invokestatic 87, 3) := by decide +kernel
theorem dX3_rename_227 : decode cX3_rename 227 = .ok (.aload_n 0, 1) := by decide +kernel
theorem dX3_rename_228 : decode cX3_rename 228 = .ok (.getfield 27, 3) := by decide +kernel
theorem dX3_rename_231 : decode cX3_rename 231 = .ok (.iload_n 2, 1) := by decide +kernel
theorem dX3_rename_232 : decode cX3_rename 232 = .ok (.iload_n 3, 1) := by decide +kernel
theorem dX3_rename_233 : decode cX3_rename 233 = .ok (.invokestatic 87, 3) := by decide +kernel
theorem dX3_rename_236 : decode cX3_rename 236 = .ok (.iaload, 1) := by decide +kernel
theorem dX3_rename_237 : decode cX3_rename 237 = .ok (.iastore, 1) := by decide +kernel
theorem dX3_rename_238 : decode cX3_rename 238 = .ok (.iload 7, 2) := by decide +kernel
theorem dX3_rename_240 : decode cX3_rename 240 = .ok (.iconst (-1), 1) := by decide +kernel
theorem dX3_rename_241 : decode cX3_rename 241 = .ok (.if_icmp .ge 27, 3) := by decide +kernel
theorem dX3_rename_244 : decode cX3_rename 244 = .ok (.aload_n 0, 1) := by decide +kernel
theorem dX3_rename_245 : decode cX3_rename 245 = .ok (.getfield 17, 3) := by decide +kernel
theorem dX3_rename_248 : decode cX3_rename 248 = .ok (.bipush (-2), 2) := by decide +kernel
theorem dX3_rename_250 : decode cX3_rename 250 = .ok (.iload 7, 2) := by decide +kernel
theorem dX3_rename_252 : decode cX3_rename 252 = .ok (.isub, 1) := by decide +kernel
theorem dX3_rename_253 : decode cX3_rename 253 = .ok (.iload 4, 2) := by decide +kernel
theorem dX3_rename_255 : decode cX3_rename 255 = .ok (.iastore, 1) := by decide +kernel
theorem dX3_rename_256 : decode cX3_rename 256 = .ok (.aload_n 0, 1) := by decide +kernel
theorem dX3_rename_257 : decode cX3_rename 257 = .ok (.getfield 21, 3) := by decide +kernel
theorem dX3_rename_260 : decode cX3_rename 260 = .ok (.bipush (-2), 2) := by decide +kernel
theorem dX3_rename_262 : decode cX3_rename 262 = .ok (.iload 7, 2) := by decide +kernel
theorem dX3_rename_264 : decode cX3_rename 264 = .ok (.isub, 1) := by decide +kernel
theorem dX3_rename_265 : decode cX3_rename 265 = .ok (.iload 5, 2) := by decide +kernel
theorem dX3_rename_267 : decode cX3_rename 267 = .ok (.iastore, 1) := by decide +kernel
theorem dX3_rename_268 : decode cX3_rename 268 = .ok (.return_, 1) := by decide +kernel
theorem dX3_pass_0 : decode cX3_pass 0 = .ok (.aload_n 0, 1) := by decide +kernel
theorem dX3_pass_1 : decode cX3_pass 1 = .ok (.iload_n 1, 1) := by decide +kernel
theorem dX3_pass_2 : decode cX3_pass 2 = .ok (.iconst 1, 1) := by decide +kernel
theorem dX3_pass_3 : decode cX3_pass 3 = .ok (.bipush 100, 2) := by decide +kernel
theorem dX3_pass_5 : decode cX3_pass 5 = .ok (.invokestatic 58, 3) := by decide +kernel
theorem dX3_pass_8 : decode cX3_pass 8 = .ok (.ifCond .eq 7, 3) := by decide +kernel
theorem dX3_pass_11 : decode cX3_pass 11 = .ok (.iconst 0, 1) := by decide +kernel
theorem dX3_pass_12 : decode cX3_pass 12 = .ok (.goto 4, 3) := by decide +kernel
theorem dX3_pass_15 : decode cX3_pass 15 = .ok (.iconst 1, 1) := by decide +kernel
theorem dX3_pass_16 : decode cX3_pass 16 = .ok (.putfield 55, 3) := by decide +kernel
theorem dX3_pass_19 : decode cX3_pass 19 = .ok (.aload_n 0, 1) := by decide +kernel
theorem dX3_pass_20 : decode cX3_pass 20 = .ok (.dup, 1) := by decide +kernel
theorem dX3_pass_21 : decode cX3_pass 21 = .ok (.getfield 80, 3) := by decide +kernel
theorem dX3_pass_24 : decode cX3_pass 24 = .ok (.aload_n 0, 1) := by decide +kernel
theorem dX3_pass_25 : decode cX3_pass 25 = .ok (.getfield 55, 3) := by decide +kernel
theorem dX3_pass_28 : decode cX3_pass 28 = .ok (.ifCond .ne 7, 3) := by decide +kernel
theorem dX3_pass_31 : decode cX3_pass 31 = .ok (.iload_n 1, 1) := by decide +kernel
theorem dX3_pass_32 : decode cX3_pass 32 = .ok (.goto 4, 3) := by decide +kernel
theorem dX3_pass_35 : decode cX3_pass 35 = .ok (.iconst 0, 1) := by decide +kernel
theorem dX3_pass_36 : decode cX3_pass 36 = .ok (.iadd, 1) := by decide +kernel
theorem dX3_pass_37 : decode cX3_pass 37 = .ok (.putfield 80, 3) := by decide +kernel
theorem dX3_pass_40 : decode cX3_pass 40 = .ok (.aload_n 0, 1) := by decide +kernel
theorem dX3_pass_41 : decode cX3_pass 41 = .ok (.getfield 55, 3) := by decide +kernel
theorem dX3_pass_44 : decode cX3_pass 44 = .ok (.ifCond .le 7, 3) := by decide +kernel
theorem dX3_pass_47 : decode cX3_pass 47 = .ok (.iconst 0, 1) := by decide +kernel
theorem dX3_pass_48 : decode cX3_pass 48 = .ok (.goto 7, 3) := by decide +kernel
theorem dX3_pass_51 : decode cX3_pass 51 = .ok (.aload_n 0, 1) := by decide +kernel
theorem dX3_pass_52 : decode cX3_pass 52 = .ok (.getfield 80, 3) := by decide +kernel
theorem dX3_pass_55 : decode cX3_pass 55 = .ok (.ireturn, 1) := by decide +kernel
theorem dX3_leases_0 : decode cX3_leases 0 = .ok (.aload_n 0, 1) := by decide +kernel
theorem dX3_leases_1 : decode cX3_leases 1 = .ok (.iload_n 1, 1) := by decide +kernel
theorem dX3_leases_2 : decode cX3_leases 2 = .ok (.invokestatic 93, 3) := by decide +kernel
theorem dX3_leases_5 : decode cX3_leases 5 = .ok (.ifCond .eq 7, 3) := by decide +kernel
theorem dX3_leases_8 : decode cX3_leases 8 = .ok (.iconst 0, 1) := by decide +kernel
theorem dX3_leases_9 : decode cX3_leases 9 = .ok (.goto 4, 3) := by decide +kernel
theorem dX3_leases_12 : decode cX3_leases 12 = .ok (.iconst 1, 1) := by decide +kernel
theorem dX3_leases_13 : decode cX3_leases 13 = .ok (.putfield 55, 3) := by decide +kernel
theorem dX3_leases_16 : decode cX3_leases 16 = .ok (.iconst 0, 1) := by decide +kernel
theorem dX3_leases_17 : decode cX3_leases 17 = .ok (.istore_n 2, 1) := by decide +kernel
theorem dX3_leases_18 : decode cX3_leases 18 = .ok (.iconst 0, 1) := by decide +kernel
theorem dX3_leases_19 : decode cX3_leases 19 = .ok (.istore_n 3, 1) := by decide +kernel
theorem dX3_leases_20 : decode cX3_leases 20 = .ok (.iload_n 3, 1) := by decide +kernel
theorem dX3_leases_21 : decode cX3_leases 21 = .ok (.sipush 600, 3) := by decide +kernel
theorem dX3_leases_24 : decode cX3_leases 24 = .ok (.if_icmp .ge 33, 3) := by decide +kernel
theorem dX3_leases_27 : decode cX3_leases 27 = .ok (.aload_n 0, 1) := by decide +kernel
theorem dX3_leases_28 : decode cX3_leases 28 = .ok (.getfield 55, 3) := by decide +kernel
theorem dX3_leases_31 : decode cX3_leases 31 = .ok (.ifCond .ne 26, 3) := by decide +kernel
theorem dX3_leases_34 : decode cX3_leases 34 = .ok (.iload_n 2, 1) := by decide +kernel
theorem dX3_leases_35 : decode cX3_leases 35 = .ok (.aload_n 0, 1) := by decide +kernel
theorem dX3_leases_36 : decode cX3_leases 36 = .ok (.iload_n 1, 1) := by decide +kernel
theorem dX3_leases_37 : decode cX3_leases 37 = .ok (.iload_n 3, 1) := by decide +kernel
theorem dX3_leases_38 : decode cX3_leases 38 = .ok (.invokevirtual 83, 3) := by decide +kernel
theorem dX3_leases_41 : decode cX3_leases 41 = .ok (.ifCond .eq 7, 3) := by decide +kernel
theorem dX3_leases_44 : decode cX3_leases 44 = .ok (.iconst 1, 1) := by decide +kernel
theorem dX3_leases_45 : decode cX3_leases 45 = .ok (.goto 4, 3) := by decide +kernel
theorem dX3_leases_48 : decode cX3_leases 48 = .ok (.iconst 0, 1) := by decide +kernel
theorem dX3_leases_49 : decode cX3_leases 49 = .ok (.iadd, 1) := by decide +kernel
theorem dX3_leases_50 : decode cX3_leases 50 = .ok (.istore_n 2, 1) := by decide +kernel
theorem dX3_leases_51 : decode cX3_leases 51 = .ok (.iinc 3 1, 3) := by decide +kernel
theorem dX3_leases_54 : decode cX3_leases 54 = .ok (.goto (-34), 3) := by decide +kernel
theorem dX3_leases_57 : decode cX3_leases 57 = .ok (.iload_n 2, 1) := by decide +kernel
theorem dX3_leases_58 : decode cX3_leases 58 = .ok (.ireturn, 1) := by decide +kernel
theorem dX3_recalls_0 : decode cX3_recalls 0 = .ok (.aload_n 0, 1) := by decide +kernel
theorem dX3_recalls_1 : decode cX3_recalls 1 = .ok (.iconst 0, 1) := by decide +kernel
theorem dX3_recalls_2 : decode cX3_recalls 2 = .ok (.putfield 55, 3) := by decide +kernel
theorem dX3_recalls_5 : decode cX3_recalls 5 = .ok (.iload_n 1, 1) := by decide +kernel
theorem dX3_recalls_6 : decode cX3_recalls 6 = .ok (.invokestatic 93, 3) := by decide +kernel
theorem dX3_recalls_9 : decode cX3_recalls 9 = .ok (.ifCond .eq 12, 3) := by decide +kernel
theorem dX3_recalls_12 : decode cX3_recalls 12 = .ok (.aload_n 0, 1) := by decide +kernel
theorem dX3_recalls_13 : decode cX3_recalls 13 = .ok (.getfield 42, 3) := by decide +kernel
theorem dX3_recalls_16 : decode cX3_recalls 16 = .ok (.iload_n 1, 1) := by decide +kernel
theorem dX3_recalls_17 : decode cX3_recalls 17 = .ok (.iaload, 1) := by decide +kernel
theorem dX3_recalls_18 : decode cX3_recalls 18 = .ok (.goto 8, 3) := by decide +kernel
theorem dX3_recalls_21 : decode cX3_recalls 21 = .ok (.aload_n 0, 1) := by decide +kernel
theorem dX3_recalls_22 : decode cX3_recalls 22 = .ok (.iconst 1, 1) := by decide +kernel
theorem dX3_recalls_23 : decode cX3_recalls 23 = .ok (.invokevirtual 139, 3) := by decide +kernel
theorem dX3_recalls_26 : decode cX3_recalls 26 = .ok (.ireturn, 1) := by decide +kernel
theorem dX3_known_0 : decode cX3_known 0 = .ok (.aload_n 0, 1) := by decide +kernel
theorem dX3_known_1 : decode cX3_known 1 = .ok (.iconst 0, 1) := by decide +kernel
theorem dX3_known_2 : decode cX3_known 2 = .ok (.putfield 55, 3) := by decide +kernel
theorem dX3_known_5 : decode cX3_known 5 = .ok (.iload_n 1, 1) := by decide +kernel
theorem dX3_known_6 : decode cX3_known 6 = .ok (.invokestatic 93, 3) := by decide +kernel
theorem dX3_known_9 : decode cX3_known 9 = .ok (.ifCond .eq 12, 3) := by decide +kernel
theorem dX3_known_12 : decode cX3_known 12 = .ok (.aload_n 0, 1) := by decide +kernel
theorem dX3_known_13 : decode cX3_known 13 = .ok (.getfield 45, 3) := by decide +kernel
theorem dX3_known_16 : decode cX3_known 16 = .ok (.iload_n 1, 1) := by decide +kernel
theorem dX3_known_17 : decode cX3_known 17 = .ok (.iaload, 1) := by decide +kernel
theorem dX3_known_18 : decode cX3_known 18 = .ok (.goto 8, 3) := by decide +kernel
theorem dX3_known_21 : decode cX3_known 21 = .ok (.aload_n 0, 1) := by decide +kernel
theorem dX3_known_22 : decode cX3_known 22 = .ok (.iconst 1, 1) := by decide +kernel
theorem dX3_known_23 : decode cX3_known 23 = .ok (.invokevirtual 139, 3) := by decide +kernel
theorem dX3_known_26 : decode cX3_known 26 = .ok (.ireturn, 1) := by decide +kernel
theorem dX3_barsHash_0 : decode cX3_barsHash 0 = .ok (.iload_n 2, 1) := by decide +kernel
theorem dX3_barsHash_1 : decode cX3_barsHash 1 = .ok (.invokestatic 142, 3) := by decide +kernel
theorem dX3_barsHash_4 : decode cX3_barsHash 4 = .ok (.ifCond .ne 7, 3) := by decide +kernel
theorem dX3_barsHash_7 : decode cX3_barsHash 7 = .ok (.iconst 1, 1) := by decide +kernel
theorem dX3_barsHash_8 : decode cX3_barsHash 8 = .ok (.goto 16, 3) := by decide +kernel
theorem dX3_barsHash_11 : decode cX3_barsHash 11 = .ok (.aload_n 0, 1) := by decide +kernel
theorem dX3_barsHash_12 : decode cX3_barsHash 12 = .ok (.iload_n 1, 1) := by decide +kernel
theorem dX3_barsHash_13 : decode cX3_barsHash 13 = .ok (.invokevirtual 99, 3) := by decide +kernel
theorem dX3_barsHash_16 : decode cX3_barsHash 16 = .ok (.ifCond .eq 7, 3) := by decide +kernel
theorem dX3_barsHash_19 : decode cX3_barsHash 19 = .ok (.iconst 0, 1) := by decide +kernel
theorem dX3_barsHash_20 : decode cX3_barsHash 20 = .ok (.goto 4, 3) := by decide +kernel
theorem dX3_barsHash_23 : decode cX3_barsHash 23 = .ok (.iconst 2, 1) := by decide +kernel
theorem dX3_barsHash_24 : decode cX3_barsHash 24 = .ok (.ireturn, 1) := by decide +kernel
theorem dX3_count_0 : decode cX3_count 0 = .ok (.iconst 0, 1) := by decide +kernel
theorem dX3_count_1 : decode cX3_count 1 = .ok (.istore_n 2, 1) := by decide +kernel
theorem dX3_count_2 : decode cX3_count 2 = .ok (.iconst 0, 1) := by decide +kernel
theorem dX3_count_3 : decode cX3_count 3 = .ok (.istore_n 3, 1) := by decide +kernel
theorem dX3_count_4 : decode cX3_count 4 = .ok (.iload_n 3, 1) := by decide +kernel
theorem dX3_count_5 : decode cX3_count 5 = .ok (.bipush 8, 2) := by decide +kernel
theorem dX3_count_7 : decode cX3_count 7 = .ok (.if_icmp .ge 31, 3) := by decide +kernel
theorem dX3_count_10 : decode cX3_count 10 = .ok (.iload_n 2, 1) := by decide +kernel
theorem dX3_count_11 : decode cX3_count 11 = .ok (.aload_n 0, 1) := by decide +kernel
theorem dX3_count_12 : decode cX3_count 12 = .ok (.getfield 30, 3) := by decide +kernel
theorem dX3_count_15 : decode cX3_count 15 = .ok (.bipush 8, 2) := by decide +kernel
theorem dX3_count_17 : decode cX3_count 17 = .ok (.iload_n 1, 1) := by decide +kernel
theorem dX3_count_18 : decode cX3_count 18 = .ok (.imul, 1) := by decide +kernel
theorem dX3_count_19 : decode cX3_count 19 = .ok (.iload_n 3, 1) := by decide +kernel
theorem dX3_count_20 : decode cX3_count 20 = .ok (.iadd, 1) := by decide +kernel
theorem dX3_count_21 : decode cX3_count 21 = .ok (.iaload, 1) := by decide +kernel
theorem dX3_count_22 : decode cX3_count 22 = .ok (.ifCond .le 7, 3) := by decide +kernel
theorem dX3_count_25 : decode cX3_count 25 = .ok (.iconst 1, 1) := by decide +kernel
theorem dX3_count_26 : decode cX3_count 26 = .ok (.goto 4, 3) := by decide +kernel
theorem dX3_count_29 : decode cX3_count 29 = .ok (.iconst 0, 1) := by decide +kernel
theorem dX3_count_30 : decode cX3_count 30 = .ok (.iadd, 1) := by decide +kernel
theorem dX3_count_31 : decode cX3_count 31 = .ok (.istore_n 2, 1) := by decide +kernel
theorem dX3_count_32 : decode cX3_count 32 = .ok (.iinc 3 1, 3) := by decide +kernel
theorem dX3_count_35 : decode cX3_count 35 = .ok (.goto (-31), 3) := by decide +kernel
theorem dX3_count_38 : decode cX3_count 38 = .ok (.iload_n 2, 1) := by decide +kernel
theorem dX3_count_39 : decode cX3_count 39 = .ok (.ireturn, 1) := by decide +kernel
theorem dX3_split_0 : decode cX3_split 0 = .ok (.aload_n 0, 1) := by decide +kernel
theorem dX3_split_1 : decode cX3_split 1 = .ok (.aload_n 0, 1) := by decide +kernel
theorem dX3_split_2 : decode cX3_split 2 = .ok (.iload_n 1, 1) := by decide +kernel
theorem dX3_split_3 : decode cX3_split 3 = .ok (.iload_n 2, 1) := by decide +kernel
theorem dX3_split_4 : decode cX3_split 4 = .ok (.invokevirtual 145, 3) := by decide +kernel
theorem dX3_split_7 : decode cX3_split 7 = .ok (.putfield 55, 3) := by decide +kernel
theorem dX3_split_10 : decode cX3_split 10 = .ok (.aload_n 0, 1) := by decide +kernel
theorem dX3_split_11 : decode cX3_split 11 = .ok (.getfield 55, 3) := by decide +kernel
theorem dX3_split_14 : decode cX3_split 14 = .ok (.ifCond .le 7, 3) := by decide +kernel
theorem dX3_split_17 : decode cX3_split 17 = .ok (.iconst 0, 1) := by decide +kernel
theorem dX3_split_18 : decode cX3_split 18 = .ok (.goto 9, 3) := by decide +kernel
theorem dX3_split_21 : decode cX3_split 21 = .ok (.aload_n 0, 1) := by decide +kernel
theorem dX3_split_22 : decode cX3_split 22 = .ok (.iload_n 1, 1) := by decide +kernel
theorem dX3_split_23 : decode cX3_split 23 = .ok (.iload_n 2, 1) := by decide +kernel
theorem dX3_split_24 : decode cX3_split 24 = .ok (.invokevirtual 66, 3) := by decide +kernel
theorem dX3_split_27 : decode cX3_split 27 = .ok (.istore_n 3, 1) := by decide +kernel
theorem dX3_split_28 : decode cX3_split 28 = .ok (.aload_n 0, 1) := by decide +kernel
theorem dX3_split_29 : decode cX3_split 29 = .ok (.aload_n 0, 1) := by decide +kernel
theorem dX3_split_30 : decode cX3_split 30 = .ok (.getfield 55, 3) := by decide +kernel
theorem dX3_split_33 : decode cX3_split 33 = .ok (.ifCond .ne 25, 3) := by decide +kernel
theorem dX3_split_36 : decode cX3_split 36 = .ok (.aload_n 0, 1) := by decide +kernel
theorem dX3_split_37 : decode cX3_split 37 = .ok (.getfield 30, 3) := by decide +kernel
theorem dX3_split_40 : decode cX3_split 40 = .ok (.iload_n 3, 1) := by decide +kernel
theorem dX3_split_41 : decode cX3_split 41 = .ok (.iaload, 1) := by decide +kernel
theorem dX3_split_42 : decode cX3_split 42 = .ok (.iconst 1, 1) := by decide +kernel
theorem dX3_split_43 : decode cX3_split 43 = .ok (.if_icmp .eq 11, 3) := by decide +kernel
theorem dX3_split_46 : decode cX3_split 46 = .ok (.aload_n 0, 1) := by decide +kernel
theorem dX3_split_47 : decode cX3_split 47 = .ok (.iload_n 3, 1) := by decide +kernel
theorem dX3_split_48 : decode cX3_split 48 = .ok (.invokevirtual 76, 3) := by decide +kernel
theorem dX3_split_51 : decode cX3_split 51 = .ok (.ifCond .eq 7, 3) := by decide +kernel
theorem dX3_split_54 : decode cX3_split 54 = .ok (.iconst 3, 1) := by decide +kernel
theorem dX3_split_55 : decode cX3_split 55 = .ok (.goto 7, 3) := by decide +kernel
theorem dX3_split_58 : decode cX3_split 58 = .ok (.aload_n 0, 1) := by decide +kernel
theorem dX3_split_59 : decode cX3_split 59 = .ok (.getfield 55, 3) := by decide +kernel
theorem dX3_split_62 : decode cX3_split 62 = .ok (.putfield 55, 3) := by decide +kernel
theorem dX3_split_65 : decode cX3_split 65 = .ok (.aload_n 0, 1) := by decide +kernel
theorem dX3_split_66 : decode cX3_split 66 = .ok (.getfield 55, 3) := by decide +kernel
theorem dX3_split_69 : decode cX3_split 69 = .ok (.ifCond .le 5, 3) := by decide +kernel
theorem dX3_split_72 : decode cX3_split 72 = .ok (.iconst 0, 1) := by decide +kernel
theorem dX3_split_73 : decode cX3_split 73 = .ok (.ireturn, 1) := by decide +kernel
theorem dX3_split_74 : decode cX3_split 74 = .ok (.aload_n 0, 1) := by decide +kernel
theorem dX3_split_75 : decode cX3_split 75 = .ok (.getfield 30, 3) := by decide +kernel
theorem dX3_split_78 : decode cX3_split 78 = .ok (.iload_n 3, 1) := by decide +kernel
theorem dX3_split_79 : decode cX3_split 79 = .ok (.iaload, 1) := by decide +kernel
theorem dX3_split_80 : decode cX3_split 80 = .ok (.iconst 2, 1) := by decide +kernel
theorem dX3_split_81 : decode cX3_split 81 = .ok (.idiv, 1) := by decide +kernel
theorem dX3_split_82 : decode cX3_split 82 = .ok (.istore 4, 2) := by decide +kernel
theorem dX3_split_84 : decode cX3_split 84 = .ok (.aload_n 0, 1) := by decide +kernel
theorem dX3_split_85 : decode cX3_split 85 = .ok (.getfield 30, 3) := by decide +kernel
theorem dX3_split_88 : decode cX3_split 88 = .ok (.iload_n 3, 1) := by decide +kernel
theorem dX3_split_89 : decode cX3_split 89 = .ok (.iload 4, 2) := by decide +kernel
theorem dX3_split_91 : decode cX3_split 91 = .ok (.iastore, 1) := by decide +kernel
theorem dX3_split_92 : decode cX3_split 92 = .ok (.aload_n 0, 1) := by decide +kernel
theorem dX3_split_93 : decode cX3_split 93 = .ok (.getfield 30, 3) := by decide +kernel
theorem dX3_split_96 : decode cX3_split 96 = .ok (.iload_n 3, 1) := by decide +kernel
theorem dX3_split_97 : decode cX3_split 97 = .ok (.iload 4, 2) := by decide +kernel
theorem dX3_split_99 : decode cX3_split 99 = .ok (.iadd, 1) := by decide +kernel
theorem dX3_split_100 : decode cX3_split 100 = .ok (.iload 4, 2) := by decide +kernel
theorem dX3_split_102 : decode cX3_split 102 = .ok (.iastore, 1) := by decide +kernel
theorem dX3_split_103 : decode cX3_split 103 = .ok (.aload_n 0, 1) := by decide +kernel
theorem dX3_split_104 : decode cX3_split 104 = .ok (.getfield 33, 3) := by decide +kernel
theorem dX3_split_107 : decode cX3_split 107 = .ok (.iload_n 3, 1) := by decide +kernel
theorem dX3_split_108 : decode cX3_split 108 = .ok (.iload 4, 2) := by decide +kernel
theorem dX3_split_110 : decode cX3_split 110 = .ok (.iadd, 1) := by decide +kernel
theorem dX3_split_111 : decode cX3_split 111 = .ok (.aload_n 0, 1) := by decide +kernel
theorem dX3_split_112 : decode cX3_split 112 = .ok (.getfield 33, 3) := by decide +kernel
theorem dX3_split_115 : decode cX3_split 115 = .ok (.iload_n 3, 1) := by decide +kernel
theorem dX3_split_116 : decode cX3_split 116 = .ok (.iaload, 1) := by decide +kernel
theorem dX3_split_117 : decode cX3_split 117 = .ok (.iastore, 1) := by decide +kernel
theorem dX3_split_118 : decode cX3_split 118 = .ok (.aload_n 0, 1) := by decide +kernel
theorem dX3_split_119 : decode cX3_split 119 = .ok (.getfield 36, 3) := by decide +kernel
theorem dX3_split_122 : decode cX3_split 122 = .ok (.iload_n 3, 1) := by decide +kernel
theorem dX3_split_123 : decode cX3_split 123 = .ok (.iload 4, 2) := by decide +kernel
theorem dX3_split_125 : decode cX3_split 125 = .ok (.iadd, 1) := by decide +kernel
theorem dX3_split_126 : decode cX3_split 126 = .ok (.aload_n 0, 1) := by decide +kernel
theorem dX3_split_127 : decode cX3_split 127 = .ok (.getfield 36, 3) := by decide +kernel
theorem dX3_split_130 : decode cX3_split 130 = .ok (.iload_n 3, 1) := by decide +kernel
theorem dX3_split_131 : decode cX3_split 131 = .ok (.iaload, 1) := by decide +kernel
theorem dX3_split_132 : decode cX3_split 132 = .ok (.iconst 2, 1) := by decide +kernel
theorem dX3_split_133 : decode cX3_split 133 = .ok (.idiv, 1) := by decide +kernel
theorem dX3_split_134 : decode cX3_split 134 = .ok (.iastore, 1) := by decide +kernel
theorem dX3_split_135 : decode cX3_split 135 = .ok (.aload_n 0, 1) := by decide +kernel
theorem dX3_split_136 : decode cX3_split 136 = .ok (.getfield 36, 3) := by decide +kernel
theorem dX3_split_139 : decode cX3_split 139 = .ok (.iload_n 3, 1) := by decide +kernel
theorem dX3_split_140 : decode cX3_split 140 = .ok (.dup2, 1) := by decide +kernel
theorem dX3_split_141 : decode cX3_split 141 = .ok (.iaload, 1) := by decide +kernel
theorem dX3_split_142 : decode cX3_split 142 = .ok (.aload_n 0, 1) := by decide +kernel
theorem dX3_split_143 : decode cX3_split 143 = .ok (.getfield 36, 3) := by decide +kernel
theorem dX3_split_146 : decode cX3_split 146 = .ok (.iload_n 3, 1) := by decide +kernel
theorem dX3_split_147 : decode cX3_split 147 = .ok (.iload 4, 2) := by decide +kernel
theorem dX3_split_149 : decode cX3_split 149 = .ok (.iadd, 1) := by decide +kernel
theorem dX3_split_150 : decode cX3_split 150 = .ok (.iaload, 1) := by decide +kernel
theorem dX3_split_151 : decode cX3_split 151 = .ok (.isub, 1) := by decide +kernel
theorem dX3_split_152 : decode cX3_split 152 = .ok (.iastore, 1) := by decide +kernel
theorem dX3_split_153 : decode cX3_split 153 = .ok (.aload_n 0, 1) := by decide +kernel
theorem dX3_split_154 : decode cX3_split 154 = .ok (.iload_n 1, 1) := by decide +kernel
theorem dX3_split_155 : decode cX3_split 155 = .ok (.invokevirtual 148, 3) := by decide +kernel
theorem dX3_split_158 : decode cX3_split 158 = .ok (.ireturn, 1) := by decide +kernel
theorem dX3_merge_0 : decode cX3_merge 0 = .ok (.aload_n 0, 1) := by decide +kernel
theorem dX3_merge_1 : decode cX3_merge 1 = .ok (.aload_n 0, 1) := by decide +kernel
theorem dX3_merge_2 : decode cX3_merge 2 = .ok (.iload_n 1, 1) := by decide +kernel
theorem dX3_merge_3 : decode cX3_merge 3 = .ok (.iload_n 2, 1) := by decide +kernel
theorem dX3_merge_4 : decode cX3_merge 4 = .ok (.invokevirtual 145, 3) := by decide +kernel
theorem dX3_merge_7 : decode cX3_merge 7 = .ok (.putfield 55, 3) := by decide +kernel
theorem dX3_merge_10 : decode cX3_merge 10 = .ok (.aload_n 0, 1) := by decide +kernel
theorem dX3_merge_11 : decode cX3_merge 11 = .ok (.getfield 55, 3) := by decide +kernel
theorem dX3_merge_14 : decode cX3_merge 14 = .ok (.ifCond .le 5, 3) := by decide +kernel
theorem dX3_merge_17 : decode cX3_merge 17 = .ok (.iconst 0, 1) := by decide +kernel
theorem dX3_merge_18 : decode cX3_merge 18 = .ok (.ireturn, 1) := by decide +kernel
theorem dX3_merge_19 : decode cX3_merge 19 = .ok (.aload_n 0, 1) := by decide +kernel
theorem dX3_merge_20 : decode cX3_merge 20 = .ok (.iload_n 1, 1) := by decide +kernel
theorem dX3_merge_21 : decode cX3_merge 21 = .ok (.iload_n 2, 1) := by decide +kernel
theorem dX3_merge_22 : decode cX3_merge 22 = .ok (.invokevirtual 66, 3) := by decide +kernel
theorem dX3_merge_25 : decode cX3_merge 25 = .ok (.istore_n 3, 1) := by decide +kernel
theorem dX3_merge_26 : decode cX3_merge 26 = .ok (.aload_n 0, 1) := by decide +kernel
theorem dX3_merge_27 : decode cX3_merge 27 = .ok (.getfield 30, 3) := by decide +kernel
theorem dX3_merge_30 : decode cX3_merge 30 = .ok (.iload_n 3, 1) := by decide +kernel
theorem dX3_merge_31 : decode cX3_merge 31 = .ok (.iaload, 1) := by decide +kernel
theorem dX3_merge_32 : decode cX3_merge 32 = .ok (.istore 4, 2) := by decide +kernel
theorem dX3_merge_34 : decode cX3_merge 34 = .ok (.iload_n 3, 1) := by decide +kernel
theorem dX3_merge_35 : decode cX3_merge 35 = .ok (.bipush 8, 2) := by decide +kernel
theorem dX3_merge_37 : decode cX3_merge 37 = .ok (.irem, 1) := by decide +kernel
theorem dX3_merge_38 : decode cX3_merge 38 = .ok (.istore 5, 2) := by decide +kernel
theorem dX3_merge_40 : decode cX3_merge 40 = .ok (.iload 5, 2) := by decide +kernel
theorem dX3_merge_42 : decode cX3_merge 42 = .ok (.iconst 2, 1) := by decide +kernel
theorem dX3_merge_43 : decode cX3_merge 43 = .ok (.iload 4, 2) := by decide +kernel
theorem dX3_merge_45 : decode cX3_merge 45 = .ok (.imul, 1) := by decide +kernel
theorem dX3_merge_46 : decode cX3_merge 46 = .ok (.irem, 1) := by decide +kernel
theorem dX3_merge_47 : decode cX3_merge 47 = .ok (.ifCond .ne 7, 3) := by decide +kernel
theorem dX3_merge_50 : decode cX3_merge 50 = .ok (.iload_n 3, 1) := by decide +kernel
theorem dX3_merge_51 : decode cX3_merge 51 = .ok (.goto 7, 3) := by decide +kernel
theorem dX3_merge_54 : decode cX3_merge 54 = .ok (.iload_n 3, 1) := by decide +kernel
theorem dX3_merge_55 : decode cX3_merge 55 = .ok (.iload 4, 2) := by decide +kernel
theorem dX3_merge_57 : decode cX3_merge 57 = .ok (.isub, 1) := by decide +kernel
theorem dX3_merge_58 : decode cX3_merge 58 = .ok (.istore 6, 2) := by decide +kernel
theorem dX3_merge_60 : decode cX3_merge 60 = .ok (.iload 6, 2) := by decide +kernel
theorem dX3_merge_62 : decode cX3_merge 62 = .ok (.iload 4, 2) := by decide +kernel
theorem dX3_merge_64 : decode cX3_merge 64 = .ok (.iadd, 1) := by decide +kernel
theorem dX3_merge_65 : decode cX3_merge 65 = .ok (.istore 7, 2) := by decide +kernel
theorem dX3_merge_67 : decode cX3_merge 67 = .ok (.aload_n 0, 1) := by decide +kernel
theorem dX3_merge_68 : decode cX3_merge 68 = .ok (.iload 4, 2) := by decide +kernel
theorem dX3_merge_70 : decode cX3_merge 70 = .ok (.bipush 8, 2) := by decide +kernel
theorem dX3_merge_72 : decode cX3_merge 72 = .ok (.if_icmp .ne 7, 3) := by decide +kernel
theorem dX3_merge_75 : decode cX3_merge 75 = .ok (.iconst 3, 1) := by decide +kernel
theorem dX3_merge_76 : decode cX3_merge 76 = .ok (.goto 4, 3) := by decide +kernel
theorem dX3_merge_79 : decode cX3_merge 79 = .ok (.iconst 0, 1) := by decide +kernel
theorem dX3_merge_80 : decode cX3_merge 80 = .ok (.putfield 55, 3) := by decide +kernel
theorem dX3_merge_83 : decode cX3_merge 83 = .ok (.aload_n 0, 1) := by decide +kernel
theorem dX3_merge_84 : decode cX3_merge 84 = .ok (.aload_n 0, 1) := by decide +kernel
theorem dX3_merge_85 : decode cX3_merge 85 = .ok (.getfield 55, 3) := by decide +kernel
theorem dX3_merge_88 : decode cX3_merge 88 = .ok (.ifCond .ne 31, 3) := by decide +kernel
theorem dX3_merge_91 : decode cX3_merge 91 = .ok (.aload_n 0, 1) := by decide +kernel
theorem dX3_merge_92 : decode cX3_merge 92 = .ok (.getfield 30, 3) := by decide +kernel
theorem dX3_merge_95 : decode cX3_merge 95 = .ok (.iload 6, 2) := by decide +kernel
theorem dX3_merge_97 : decode cX3_merge 97 = .ok (.iaload, 1) := by decide +kernel
theorem dX3_merge_98 : decode cX3_merge 98 = .ok (.iload 4, 2) := by decide +kernel
theorem dX3_merge_100 : decode cX3_merge 100 = .ok (.if_icmp .ne 15, 3) := by decide +kernel
theorem dX3_merge_103 : decode cX3_merge 103 = .ok (.aload_n 0, 1) := by decide +kernel
theorem dX3_merge_104 : decode cX3_merge 104 = .ok (.getfield 30, 3) := by decide +kernel
theorem dX3_merge_107 : decode cX3_merge 107 = .ok (.iload 7, 2) := by decide +kernel
theorem dX3_merge_109 : decode cX3_merge 109 = .ok (.iaload, 1) := by decide +kernel
theorem dX3_merge_110 : decode cX3_merge 110 = .ok (.iload 4, 2) := by decide +kernel
theorem dX3_merge_112 : decode cX3_merge 112 = .ok (.if_icmp .eq 7, 3) := by decide +kernel
theorem dX3_merge_115 : decode cX3_merge 115 = .ok (.iconst 3, 1) := by decide +kernel
theorem dX3_merge_116 : decode cX3_merge 116 = .ok (.goto 7, 3) := by decide +kernel
theorem dX3_merge_119 : decode cX3_merge 119 = .ok (.aload_n 0, 1) := by decide +kernel
theorem dX3_merge_120 : decode cX3_merge 120 = .ok (.getfield 55, 3) := by decide +kernel
theorem dX3_merge_123 : decode cX3_merge 123 = .ok (.putfield 55, 3) := by decide +kernel
theorem dX3_merge_126 : decode cX3_merge 126 = .ok (.aload_n 0, 1) := by decide +kernel
theorem dX3_merge_127 : decode cX3_merge 127 = .ok (.aload_n 0, 1) := by decide +kernel
theorem dX3_merge_128 : decode cX3_merge 128 = .ok (.getfield 55, 3) := by decide +kernel
theorem dX3_merge_131 : decode cX3_merge 131 = .ok (.ifCond .ne 42, 3) := by decide +kernel
theorem dX3_merge_134 : decode cX3_merge 134 = .ok (.aload_n 0, 1) := by decide +kernel
theorem dX3_merge_135 : decode cX3_merge 135 = .ok (.getfield 33, 3) := by decide +kernel
theorem dX3_merge_138 : decode cX3_merge 138 = .ok (.iload 6, 2) := by decide +kernel
theorem dX3_merge_140 : decode cX3_merge 140 = .ok (.iaload, 1) := by decide +kernel
theorem dX3_merge_141 : decode cX3_merge 141 = .ok (.aload_n 0, 1) := by decide +kernel
theorem dX3_merge_142 : decode cX3_merge 142 = .ok (.getfield 33, 3) := by decide +kernel
theorem dX3_merge_145 : decode cX3_merge 145 = .ok (.iload 7, 2) := by decide +kernel
theorem dX3_merge_147 : decode cX3_merge 147 = .ok (.iaload, 1) := by decide +kernel
theorem dX3_merge_148 : decode cX3_merge 148 = .ok (.if_icmp .ne 21, 3) := by decide +kernel
theorem dX3_merge_151 : decode cX3_merge 151 = .ok (.aload_n 0, 1) := by decide +kernel
theorem dX3_merge_152 : decode cX3_merge 152 = .ok (.iload 6, 2) := by decide +kernel
theorem dX3_merge_154 : decode cX3_merge 154 = .ok (.invokevirtual 76, 3) := by decide +kernel
theorem dX3_merge_157 : decode cX3_merge 157 = .ok (.ifCond .ne 12, 3) := by decide +kernel
theorem dX3_merge_160 : decode cX3_merge 160 = .ok (.aload_n 0, 1) := by decide +kernel
theorem dX3_merge_161 : decode cX3_merge 161 = .ok (.iload 7, 2) := by decide +kernel
theorem dX3_merge_163 : decode cX3_merge 163 = .ok (.invokevirtual 76, 3) := by decide +kernel
theorem dX3_merge_166 : decode cX3_merge 166 = .ok (.ifCond .eq 7, 3) := by decide +kernel
theorem dX3_merge_169 : decode cX3_merge 169 = .ok (.iconst 3, 1) := by decide +kernel
theorem dX3_merge_170 : decode cX3_merge 170 = .ok (.goto 7, 3) := by decide +kernel
theorem dX3_merge_173 : decode cX3_merge 173 = .ok (.aload_n 0, 1) := by decide +kernel
theorem dX3_merge_174 : decode cX3_merge 174 = .ok (.getfield 55, 3) := by decide +kernel
theorem dX3_merge_177 : decode cX3_merge 177 = .ok (.putfield 55, 3) := by decide +kernel
theorem dX3_merge_180 : decode cX3_merge 180 = .ok (.aload_n 0, 1) := by decide +kernel
theorem dX3_merge_181 : decode cX3_merge 181 = .ok (.getfield 55, 3) := by decide +kernel
theorem dX3_merge_184 : decode cX3_merge 184 = .ok (.ifCond .le 5, 3) := by decide +kernel
theorem dX3_merge_187 : decode cX3_merge 187 = .ok (.iconst 0, 1) := by decide +kernel
theorem dX3_merge_188 : decode cX3_merge 188 = .ok (.ireturn, 1) := by decide +kernel
theorem dX3_merge_189 : decode cX3_merge 189 = .ok (.aload_n 0, 1) := by decide +kernel
theorem dX3_merge_190 : decode cX3_merge 190 = .ok (.getfield 30, 3) := by decide +kernel
theorem dX3_merge_193 : decode cX3_merge 193 = .ok (.iload 6, 2) := by decide +kernel
theorem dX3_merge_195 : decode cX3_merge 195 = .ok (.iconst 2, 1) := by decide +kernel
theorem dX3_merge_196 : decode cX3_merge 196 = .ok (.iload 4, 2) := by decide +kernel
theorem dX3_merge_198 : decode cX3_merge 198 = .ok (.imul, 1) := by decide +kernel
theorem dX3_merge_199 : decode cX3_merge 199 = .ok (.iastore, 1) := by decide +kernel
theorem dX3_merge_200 : decode cX3_merge 200 = .ok (.aload_n 0, 1) := by decide +kernel
theorem dX3_merge_201 : decode cX3_merge 201 = .ok (.getfield 30, 3) := by decide +kernel
theorem dX3_merge_204 : decode cX3_merge 204 = .ok (.iload 7, 2) := by decide +kernel
theorem dX3_merge_206 : decode cX3_merge 206 = .ok (.iconst 0, 1) := by decide +kernel
theorem dX3_merge_207 : decode cX3_merge 207 = .ok (.iastore, 1) := by decide +kernel
theorem dX3_merge_208 : decode cX3_merge 208 = .ok (.aload_n 0, 1) := by decide +kernel
theorem dX3_merge_209 : decode cX3_merge 209 = .ok (.getfield 36, 3) := by decide +kernel
theorem dX3_merge_212 : decode cX3_merge 212 = .ok (.iload 6, 2) := by decide +kernel
theorem dX3_merge_214 : decode cX3_merge 214 = .ok (.dup2, 1) := by decide +kernel
theorem dX3_merge_215 : decode cX3_merge 215 = .ok (.iaload, 1) := by decide +kernel
theorem dX3_merge_216 : decode cX3_merge 216 = .ok (.aload_n 0, 1) := by decide +kernel
theorem dX3_merge_217 : decode cX3_merge 217 = .ok (.getfield 36, 3) := by decide +kernel
theorem dX3_merge_220 : decode cX3_merge 220 = .ok (.iload 7, 2) := by decide +kernel
theorem dX3_merge_222 : decode cX3_merge 222 = .ok (.iaload, 1) := by decide +kernel
theorem dX3_merge_223 : decode cX3_merge 223 = .ok (.iadd, 1) := by decide +kernel
theorem dX3_merge_224 : decode cX3_merge 224 = .ok (.iastore, 1) := by decide +kernel
theorem dX3_merge_225 : decode cX3_merge 225 = .ok (.aload_n 0, 1) := by decide +kernel
theorem dX3_merge_226 : decode cX3_merge 226 = .ok (.iload_n 1, 1) := by decide +kernel
theorem dX3_merge_227 : decode cX3_merge 227 = .ok (.invokevirtual 148, 3) := by decide +kernel
theorem dX3_merge_230 : decode cX3_merge 230 = .ok (.ireturn, 1) := by decide +kernel
theorem dX3_fragments_0 : decode cX3_fragments 0 = .ok (.aload_n 0, 1) := by decide +kernel
theorem dX3_fragments_1 : decode cX3_fragments 1 = .ok (.iconst 0, 1) := by decide +kernel
theorem dX3_fragments_2 : decode cX3_fragments 2 = .ok (.putfield 55, 3) := by decide +kernel
theorem dX3_fragments_5 : decode cX3_fragments 5 = .ok (.aload_n 0, 1) := by decide +kernel
theorem dX3_fragments_6 : decode cX3_fragments 6 = .ok (.iload_n 1, 1) := by decide +kernel
theorem dX3_fragments_7 : decode cX3_fragments 7 = .ok (.invokevirtual 99, 3) := by decide +kernel
theorem dX3_fragments_10 : decode cX3_fragments 10 = .ok (.ifCond .eq 11, 3) := by decide +kernel
theorem dX3_fragments_13 : decode cX3_fragments 13 = .ok (.aload_n 0, 1) := by decide +kernel
theorem dX3_fragments_14 : decode cX3_fragments 14 = .ok (.iload_n 1, 1) := by decide +kernel
theorem dX3_fragments_15 : decode cX3_fragments 15 = .ok (.invokevirtual 148, 3) := by decide +kernel
theorem dX3_fragments_18 : decode cX3_fragments 18 = .ok (.goto 8, 3) := by decide +kernel
theorem dX3_fragments_21 : decode cX3_fragments 21 = .ok (.aload_n 0, 1) := by decide +kernel
theorem dX3_fragments_22 : decode cX3_fragments 22 = .ok (.iconst 1, 1) := by decide +kernel
theorem dX3_fragments_23 : decode cX3_fragments 23 = .ok (.invokevirtual 139, 3) := by decide +kernel
theorem dX3_fragments_26 : decode cX3_fragments 26 = .ok (.ireturn, 1) := by decide +kernel
theorem dX3_barsPlain_0 : decode cX3_barsPlain 0 = .ok (.iload_n 2, 1) := by decide +kernel
theorem dX3_barsPlain_1 : decode cX3_barsPlain 1 = .ok (.invokestatic 96, 3) := by decide +kernel
theorem dX3_barsPlain_4 : decode cX3_barsPlain 4 = .ok (.ifCond .ne 7, 3) := by decide +kernel
theorem dX3_barsPlain_7 : decode cX3_barsPlain 7 = .ok (.iconst 1, 1) := by decide +kernel
theorem dX3_barsPlain_8 : decode cX3_barsPlain 8 = .ok (.goto 16, 3) := by decide +kernel
theorem dX3_barsPlain_11 : decode cX3_barsPlain 11 = .ok (.aload_n 0, 1) := by decide +kernel
theorem dX3_barsPlain_12 : decode cX3_barsPlain 12 = .ok (.iload_n 1, 1) := by decide +kernel
theorem dX3_barsPlain_13 : decode cX3_barsPlain 13 = .ok (.invokevirtual 99, 3) := by decide +kernel
theorem dX3_barsPlain_16 : decode cX3_barsPlain 16 = .ok (.ifCond .eq 7, 3) := by decide +kernel
theorem dX3_barsPlain_19 : decode cX3_barsPlain 19 = .ok (.iconst 0, 1) := by decide +kernel
theorem dX3_barsPlain_20 : decode cX3_barsPlain 20 = .ok (.goto 4, 3) := by decide +kernel
theorem dX3_barsPlain_23 : decode cX3_barsPlain 23 = .ok (.iconst 2, 1) := by decide +kernel
theorem dX3_barsPlain_24 : decode cX3_barsPlain 24 = .ok (.ireturn, 1) := by decide +kernel
theorem dX3_serverOf_0 : decode cX3_serverOf 0 = .ok (.aload_n 0, 1) := by decide +kernel
theorem dX3_serverOf_1 : decode cX3_serverOf 1 = .ok (.aload_n 0, 1) := by decide +kernel
theorem dX3_serverOf_2 : decode cX3_serverOf 2 = .ok (.iload_n 1, 1) := by decide +kernel
theorem dX3_serverOf_3 : decode cX3_serverOf 3 = .ok (.iload_n 2, 1) := by decide +kernel
theorem dX3_serverOf_4 : decode cX3_serverOf 4 = .ok (.invokevirtual 151, 3) := by decide +kernel
theorem dX3_serverOf_7 : decode cX3_serverOf 7 = .ok (.putfield 55, 3) := by decide +kernel
theorem dX3_serverOf_10 : decode cX3_serverOf 10 = .ok (.aload_n 0, 1) := by decide +kernel
theorem dX3_serverOf_11 : decode cX3_serverOf 11 = .ok (.getfield 55, 3) := by decide +kernel
theorem dX3_serverOf_14 : decode cX3_serverOf 14 = .ok (.ifCond .le 7, 3) := by decide +kernel
theorem dX3_serverOf_17 : decode cX3_serverOf 17 = .ok (.iconst 0, 1) := by decide +kernel
theorem dX3_serverOf_18 : decode cX3_serverOf 18 = .ok (.goto 13, 3) := by decide +kernel
theorem dX3_serverOf_21 : decode cX3_serverOf 21 = .ok (.aload_n 0, 1) := by decide +kernel
theorem dX3_serverOf_22 : decode cX3_serverOf 22 = .ok (.aload_n 0, 1) := by decide +kernel
theorem dX3_serverOf_23 : decode cX3_serverOf 23 = .ok (.iload_n 1, 1) := by decide +kernel
theorem dX3_serverOf_24 : decode cX3_serverOf 24 = .ok (.iload_n 2, 1) := by decide +kernel
theorem dX3_serverOf_25 : decode cX3_serverOf 25 = .ok (.invokevirtual 70, 3) := by decide +kernel
theorem dX3_serverOf_28 : decode cX3_serverOf 28 = .ok (.invokevirtual 154, 3) := by decide +kernel
theorem dX3_serverOf_31 : decode cX3_serverOf 31 = .ok (.ireturn, 1) := by decide +kernel
theorem dX3_ownerOf_0 : decode cX3_ownerOf 0 = .ok (.aload_n 0, 1) := by decide +kernel
theorem dX3_ownerOf_1 : decode cX3_ownerOf 1 = .ok (.aload_n 0, 1) := by decide +kernel
theorem dX3_ownerOf_2 : decode cX3_ownerOf 2 = .ok (.iload_n 1, 1) := by decide +kernel
theorem dX3_ownerOf_3 : decode cX3_ownerOf 3 = .ok (.iload_n 2, 1) := by decide +kernel
theorem dX3_ownerOf_4 : decode cX3_ownerOf 4 = .ok (.invokevirtual 145, 3) := by decide +kernel
theorem dX3_ownerOf_7 : decode cX3_ownerOf 7 = .ok (.putfield 55, 3) := by decide +kernel
theorem dX3_ownerOf_10 : decode cX3_ownerOf 10 = .ok (.aload_n 0, 1) := by decide +kernel
theorem dX3_ownerOf_11 : decode cX3_ownerOf 11 = .ok (.getfield 55, 3) := by decide +kernel
theorem dX3_ownerOf_14 : decode cX3_ownerOf 14 = .ok (.ifCond .le 7, 3) := by decide +kernel
theorem dX3_ownerOf_17 : decode cX3_ownerOf 17 = .ok (.iconst 0, 1) := by decide +kernel
theorem dX3_ownerOf_18 : decode cX3_ownerOf 18 = .ok (.goto 14, 3) := by decide +kernel
theorem dX3_ownerOf_21 : decode cX3_ownerOf 21 = .ok (.aload_n 0, 1) := by decide +kernel
theorem dX3_ownerOf_22 : decode cX3_ownerOf 22 = .ok (.getfield 33, 3) := by decide +kernel
theorem dX3_ownerOf_25 : decode cX3_ownerOf 25 = .ok (.aload_n 0, 1) := by decide +kernel
theorem dX3_ownerOf_26 : decode cX3_ownerOf 26 = .ok (.iload_n 1, 1) := by decide +kernel
theorem dX3_ownerOf_27 : decode cX3_ownerOf 27 = .ok (.iload_n 2, 1) := by decide +kernel
theorem dX3_ownerOf_28 : decode cX3_ownerOf 28 = .ok (.invokevirtual 66, 3) := by decide +kernel
theorem dX3_ownerOf_31 : decode cX3_ownerOf 31 = .ok (.iaload, 1) := by decide +kernel
theorem dX3_ownerOf_32 : decode cX3_ownerOf 32 = .ok (.ireturn, 1) := by decide +kernel
theorem dX3_loadOf_0 : decode cX3_loadOf 0 = .ok (.iconst 0, 1) := by decide +kernel
theorem dX3_loadOf_1 : decode cX3_loadOf 1 = .ok (.istore_n 2, 1) := by decide +kernel
theorem dX3_loadOf_2 : decode cX3_loadOf 2 = .ok (.iconst 0, 1) := by decide +kernel
theorem dX3_loadOf_3 : decode cX3_loadOf 3 = .ok (.istore_n 3, 1) := by decide +kernel
theorem dX3_loadOf_4 : decode cX3_loadOf 4 = .ok (.iload_n 3, 1) := by decide +kernel
theorem dX3_loadOf_5 : decode cX3_loadOf 5 = .ok (.bipush 8, 2) := by decide +kernel
theorem dX3_loadOf_7 : decode cX3_loadOf 7 = .ok (.aload_n 0, 1) := by decide +kernel
theorem dX3_loadOf_8 : decode cX3_loadOf 8 = .ok (.getfield 7, 3) := by decide +kernel
theorem dX3_loadOf_11 : decode cX3_loadOf 11 = .ok (.imul, 1) := by decide +kernel
theorem dX3_loadOf_12 : decode cX3_loadOf 12 = .ok (.if_icmp .ge 40, 3) := by decide +kernel
theorem dX3_loadOf_15 : decode cX3_loadOf 15 = .ok (.iload_n 2, 1) := by decide +kernel
theorem dX3_loadOf_16 : decode cX3_loadOf 16 = .ok (.aload_n 0, 1) := by decide +kernel
theorem dX3_loadOf_17 : decode cX3_loadOf 17 = .ok (.getfield 30, 3) := by decide +kernel
theorem dX3_loadOf_20 : decode cX3_loadOf 20 = .ok (.iload_n 3, 1) := by decide +kernel
theorem dX3_loadOf_21 : decode cX3_loadOf 21 = .ok (.iaload, 1) := by decide +kernel
theorem dX3_loadOf_22 : decode cX3_loadOf 22 = .ok (.ifCond .le 21, 3) := by decide +kernel
theorem dX3_loadOf_25 : decode cX3_loadOf 25 = .ok (.aload_n 0, 1) := by decide +kernel
theorem dX3_loadOf_26 : decode cX3_loadOf 26 = .ok (.iload_n 3, 1) := by decide +kernel
theorem dX3_loadOf_27 : decode cX3_loadOf 27 = .ok (.invokevirtual 154, 3) := by decide +kernel
theorem dX3_loadOf_30 : decode cX3_loadOf 30 = .ok (.iload_n 1, 1) := by decide +kernel
theorem dX3_loadOf_31 : decode cX3_loadOf 31 = .ok (.if_icmp .ne 12, 3) := by decide +kernel
theorem dX3_loadOf_34 : decode cX3_loadOf 34 = .ok (.aload_n 0, 1) := by decide +kernel
theorem dX3_loadOf_35 : decode cX3_loadOf 35 = .ok (.getfield 36, 3) := by decide +kernel
theorem dX3_loadOf_38 : decode cX3_loadOf 38 = .ok (.iload_n 3, 1) := by decide +kernel
theorem dX3_loadOf_39 : decode cX3_loadOf 39 = .ok (.iaload, 1) := by decide +kernel
theorem dX3_loadOf_40 : decode cX3_loadOf 40 = .ok (.goto 4, 3) := by decide +kernel
theorem dX3_loadOf_43 : decode cX3_loadOf 43 = .ok (.iconst 0, 1) := by decide +kernel
theorem dX3_loadOf_44 : decode cX3_loadOf 44 = .ok (.iadd, 1) := by decide +kernel
theorem dX3_loadOf_45 : decode cX3_loadOf 45 = .ok (.istore_n 2, 1) := by decide +kernel
theorem dX3_loadOf_46 : decode cX3_loadOf 46 = .ok (.iinc 3 1, 3) := by decide +kernel
theorem dX3_loadOf_49 : decode cX3_loadOf 49 = .ok (.goto (-45), 3) := by decide +kernel
theorem dX3_loadOf_52 : decode cX3_loadOf 52 = .ok (.iload_n 2, 1) := by decide +kernel
theorem dX3_loadOf_53 : decode cX3_loadOf 53 = .ok (.ireturn, 1) := by decide +kernel
theorem dX3_load_0 : decode cX3_load 0 = .ok (.aload_n 0, 1) := by decide +kernel
theorem dX3_load_1 : decode cX3_load 1 = .ok (.iload_n 1, 1) := by decide +kernel
theorem dX3_load_2 : decode cX3_load 2 = .ok (.iconst 0, 1) := by decide +kernel
theorem dX3_load_3 : decode cX3_load 3 = .ok (.iconst 3, 1) := by decide +kernel
theorem dX3_load_4 : decode cX3_load 4 = .ok (.invokestatic 58, 3) := by decide +kernel
theorem dX3_load_7 : decode cX3_load 7 = .ok (.ifCond .eq 7, 3) := by decide +kernel
theorem dX3_load_10 : decode cX3_load 10 = .ok (.iconst 0, 1) := by decide +kernel
theorem dX3_load_11 : decode cX3_load 11 = .ok (.goto 4, 3) := by decide +kernel
theorem dX3_load_14 : decode cX3_load 14 = .ok (.iconst 1, 1) := by decide +kernel
theorem dX3_load_15 : decode cX3_load 15 = .ok (.putfield 55, 3) := by decide +kernel
theorem dX3_load_18 : decode cX3_load 18 = .ok (.aload_n 0, 1) := by decide +kernel
theorem dX3_load_19 : decode cX3_load 19 = .ok (.getfield 55, 3) := by decide +kernel
theorem dX3_load_22 : decode cX3_load 22 = .ok (.ifCond .le 7, 3) := by decide +kernel
theorem dX3_load_25 : decode cX3_load 25 = .ok (.iconst 0, 1) := by decide +kernel
theorem dX3_load_26 : decode cX3_load 26 = .ok (.goto 8, 3) := by decide +kernel
theorem dX3_load_29 : decode cX3_load 29 = .ok (.aload_n 0, 1) := by decide +kernel
theorem dX3_load_30 : decode cX3_load 30 = .ok (.iload_n 1, 1) := by decide +kernel
theorem dX3_load_31 : decode cX3_load 31 = .ok (.invokevirtual 157, 3) := by decide +kernel
theorem dX3_load_34 : decode cX3_load 34 = .ok (.ireturn, 1) := by decide +kernel
theorem dX3_moves_0 : decode cX3_moves 0 = .ok (.aload_n 0, 1) := by decide +kernel
theorem dX3_moves_1 : decode cX3_moves 1 = .ok (.iload_n 1, 1) := by decide +kernel
theorem dX3_moves_2 : decode cX3_moves 2 = .ok (.putfield 48, 3) := by decide +kernel
theorem dX3_moves_5 : decode cX3_moves 5 = .ok (.aload_n 0, 1) := by decide +kernel
theorem dX3_moves_6 : decode cX3_moves 6 = .ok (.iload_n 2, 1) := by decide +kernel
theorem dX3_moves_7 : decode cX3_moves 7 = .ok (.putfield 160, 3) := by decide +kernel
theorem dX3_moves_10 : decode cX3_moves 10 = .ok (.aload_n 0, 1) := by decide +kernel
theorem dX3_moves_11 : decode cX3_moves 11 = .ok (.iconst 0, 1) := by decide +kernel
theorem dX3_moves_12 : decode cX3_moves 12 = .ok (.putfield 163, 3) := by decide +kernel
theorem dX3_moves_15 : decode cX3_moves 15 = .ok (.return_, 1) := by decide +kernel
theorem dX3_beginMove_0 : decode cX3_beginMove 0 = .ok (.aload_n 0, 1) := by decide +kernel
theorem dX3_beginMove_1 : decode cX3_beginMove 1 = .ok (.iload_n 2, 1) := by decide +kernel
theorem dX3_beginMove_2 : decode cX3_beginMove 2 = .ok (.invokestatic 142, 3) := by decide +kernel
theorem dX3_beginMove_5 : decode cX3_beginMove 5 = .ok (.ifCond .eq 12, 3) := by decide +kernel
theorem dX3_beginMove_8 : decode cX3_beginMove 8 = .ok (.iload_n 3, 1) := by decide +kernel
theorem dX3_beginMove_9 : decode cX3_beginMove 9 = .ok (.iconst 0, 1) := by decide +kernel
theorem dX3_beginMove_10 : decode cX3_beginMove 10 = .ok (.iconst 3, 1) := by decide +kernel
theorem dX3_beginMove_11 : decode cX3_beginMove 11 = .ok (.invokestatic 58, 3) := by decide +kernel
theorem dX3_beginMove_14 : decode cX3_beginMove 14 = .ok (.ifCond .ne 7, 3) := by decide +kernel
theorem dX3_beginMove_17 : decode cX3_beginMove 17 = .ok (.iconst 1, 1) := by decide +kernel
theorem dX3_beginMove_18 : decode cX3_beginMove 18 = .ok (.goto 16, 3) := by decide +kernel
theorem dX3_beginMove_21 : decode cX3_beginMove 21 = .ok (.aload_n 0, 1) := by decide +kernel
theorem dX3_beginMove_22 : decode cX3_beginMove 22 = .ok (.iload_n 1, 1) := by decide +kernel
theorem dX3_beginMove_23 : decode cX3_beginMove 23 = .ok (.invokevirtual 99, 3) := by decide +kernel
theorem dX3_beginMove_26 : decode cX3_beginMove 26 = .ok (.ifCond .ne 7, 3) := by decide +kernel
theorem dX3_beginMove_29 : decode cX3_beginMove 29 = .ok (.iconst 2, 1) := by decide +kernel
theorem dX3_beginMove_30 : decode cX3_beginMove 30 = .ok (.goto 4, 3) := by decide +kernel
theorem dX3_beginMove_33 : decode cX3_beginMove 33 = .ok (.iconst 0, 1) := by decide +kernel
theorem dX3_beginMove_34 : decode cX3_beginMove 34 = .ok (.putfield 55, 3) := by decide +kernel
theorem dX3_beginMove_37 : decode cX3_beginMove 37 = .ok (.aload_n 0, 1) := by decide +kernel
theorem dX3_beginMove_38 : decode cX3_beginMove 38 = .ok (.getfield 55, 3) := by decide +kernel
theorem dX3_beginMove_41 : decode cX3_beginMove 41 = .ok (.ifCond .le 4, 3) := by decide +kernel
theorem dX3_beginMove_44 : decode cX3_beginMove 44 = .ok (.return_, 1) := by decide +kernel
theorem dX3_beginMove_45 : decode cX3_beginMove 45 = .ok (.aload_n 0, 1) := by decide +kernel
theorem dX3_beginMove_46 : decode cX3_beginMove 46 = .ok (.iload_n 1, 1) := by decide +kernel
theorem dX3_beginMove_47 : decode cX3_beginMove 47 = .ok (.iload_n 2, 1) := by decide +kernel
theorem dX3_beginMove_48 : decode cX3_beginMove 48 = .ok (.invokevirtual 66, 3) := by decide +kernel
theorem dX3_beginMove_51 : decode cX3_beginMove 51 = .ok (.istore 4, 2) := by decide +kernel
theorem dX3_beginMove_53 : decode cX3_beginMove 53 = .ok (.aload_n 0, 1) := by decide +kernel
theorem dX3_beginMove_54 : decode cX3_beginMove 54 = .ok (.aload_n 0, 1) := by decide +kernel
theorem dX3_beginMove_55 : decode cX3_beginMove 55 = .ok (.getfield 48, 3) := by decide +kernel
theorem dX3_beginMove_58 : decode cX3_beginMove 58 = .ok (.iconst (-1), 1) := by decide +kernel
theorem dX3_beginMove_59 : decode cX3_beginMove 59 = .ok (.if_icmp .ne 13, 3) := by decide +kernel
theorem dX3_beginMove_62 : decode cX3_beginMove 62 = .ok (.aload_n 0, 1) := by decide +kernel
theorem dX3_beginMove_63 : decode cX3_beginMove 63 = .ok (.iload 4, 2) := by decide +kernel
theorem dX3_beginMove_65 : decode cX3_beginMove 65 = .ok (.invokevirtual 154, 3) := by decide +kernel
theorem dX3_beginMove_68 : decode cX3_beginMove 68 = .ok (.iload_n 3, 1) := by decide +kernel
theorem dX3_beginMove_69 : decode cX3_beginMove 69 = .ok (.if_icmp .ne 7, 3) := by decide +kernel
theorem dX3_beginMove_72 : decode cX3_beginMove 72 = .ok (.iconst 3, 1) := by decide +kernel
theorem dX3_beginMove_73 : decode cX3_beginMove 73 = .ok (.goto 4, 3) := by decide +kernel
theorem dX3_beginMove_76 : decode cX3_beginMove 76 = .ok (.iconst 0, 1) := by decide +kernel
theorem dX3_beginMove_77 : decode cX3_beginMove 77 = .ok (.putfield 55, 3) := by decide +kernel
theorem dX3_beginMove_80 : decode cX3_beginMove 80 = .ok (.aload_n 0, 1) := by decide +kernel
theorem dX3_beginMove_81 : decode cX3_beginMove 81 = .ok (.getfield 55, 3) := by decide +kernel
theorem dX3_beginMove_84 : decode cX3_beginMove 84 = .ok (.ifCond .ne 10, 3) := by decide +kernel
theorem dX3_beginMove_87 : decode cX3_beginMove 87 = .ok (.aload_n 0, 1) := by decide +kernel
theorem dX3_beginMove_88 : decode cX3_beginMove 88 = .ok (.iload 4, 2) := by decide +kernel
theorem dX3_beginMove_90 : decode cX3_beginMove 90 = .ok (.iload_n 3, 1) := by decide +kernel
theorem dX3_beginMove_91 : decode cX3_beginMove 91 = .ok (.invokevirtual 166, 3) := by decide +kernel
theorem dX3_beginMove_94 : decode cX3_beginMove 94 = .ok (.return_, 1) := by decide +kernel
theorem dX3_stepMove_0 : decode cX3_stepMove 0 = .ok (.aload_n 0, 1) := by decide +kernel
theorem dX3_stepMove_1 : decode cX3_stepMove 1 = .ok (.aload_n 0, 1) := by decide +kernel
theorem dX3_stepMove_2 : decode cX3_stepMove 2 = .ok (.getfield 48, 3) := by decide +kernel
theorem dX3_stepMove_5 : decode cX3_stepMove 5 = .ok (.iconst (-1), 1) := by decide +kernel
theorem dX3_stepMove_6 : decode cX3_stepMove 6 = .ok (.if_icmp .ne 7, 3) := by decide +kernel
theorem dX3_stepMove_9 : decode cX3_stepMove 9 = .ok (.iconst 1, 1) := by decide +kernel
theorem dX3_stepMove_10 : decode cX3_stepMove 10 = .ok (.goto 4, 3) := by decide +kernel
theorem dX3_stepMove_13 : decode cX3_stepMove 13 = .ok (.iconst 0, 1) := by decide +kernel
theorem dX3_stepMove_14 : decode cX3_stepMove 14 = .ok (.putfield 55, 3) := by decide +kernel
theorem dX3_stepMove_17 : decode cX3_stepMove 17 = .ok (.aload_n 0, 1) := by decide +kernel
theorem dX3_stepMove_18 : decode cX3_stepMove 18 = .ok (.getfield 55, 3) := by decide +kernel
theorem dX3_stepMove_21 : decode cX3_stepMove 21 = .ok (.ifCond .le 5, 3) := by decide +kernel
theorem dX3_stepMove_24 : decode cX3_stepMove 24 = .ok (.iconst 0, 1) := by decide +kernel
theorem dX3_stepMove_25 : decode cX3_stepMove 25 = .ok (.ireturn, 1) := by decide +kernel
theorem dX3_stepMove_26 : decode cX3_stepMove 26 = .ok (.aload_n 0, 1) := by decide +kernel
theorem dX3_stepMove_27 : decode cX3_stepMove 27 = .ok (.dup, 1) := by decide +kernel
theorem dX3_stepMove_28 : decode cX3_stepMove 28 = .ok (.getfield 163, 3) := by decide +kernel
theorem dX3_stepMove_31 : decode cX3_stepMove 31 = .ok (.iconst 1, 1) := by decide +kernel
theorem dX3_stepMove_32 : decode cX3_stepMove 32 = .ok (.iadd, 1) := by decide +kernel
theorem dX3_stepMove_33 : decode cX3_stepMove 33 = .ok (.putfield 163, 3) := by decide +kernel
theorem dX3_stepMove_36 : decode cX3_stepMove 36 = .ok (.aload_n 0, 1) := by decide +kernel
theorem dX3_stepMove_37 : decode cX3_stepMove 37 = .ok (.getfield 163, 3) := by decide +kernel
theorem dX3_stepMove_40 : decode cX3_stepMove 40 = .ok (.iconst 1, 1) := by decide +kernel
theorem dX3_stepMove_41 : decode cX3_stepMove 41 = .ok (.if_icmp .ne 58, 3) := by decide +kernel
theorem dX3_stepMove_44 : decode cX3_stepMove 44 = .ok (.iconst 0, 1) := by decide +kernel
theorem dX3_stepMove_45 : decode cX3_stepMove 45 = .ok (.istore_n 1, 1) := by decide +kernel
theorem dX3_stepMove_46 : decode cX3_stepMove 46 = .ok (.iload_n 1, 1) := by decide +kernel
theorem dX3_stepMove_47 : decode cX3_stepMove 47 = .ok (.bipush 50, 2) := by decide +kernel
theorem dX3_stepMove_49 : decode cX3_stepMove 49 = .ok (.aload_n 0, 1) := by decide +kernel
theorem dX3_stepMove_50 : decode cX3_stepMove 50 = .ok (.getfield 7, 3) := by decide +kernel
theorem dX3_stepMove_53 : decode cX3_stepMove 53 = .ok (.imul, 1) := by decide +kernel
theorem dX3_stepMove_54 : decode cX3_stepMove 54 = .ok (.if_icmp .ge 42, 3) := by decide +kernel
theorem dX3_stepMove_57 : decode cX3_stepMove 57 = .ok (.aload_n 0, 1) := by decide +kernel
theorem dX3_stepMove_58 : decode cX3_stepMove 58 = .ok (.getfield 13, 3) := by decide +kernel
theorem dX3_stepMove_61 : decode cX3_stepMove 61 = .ok (.iload_n 1, 1) := by decide +kernel
theorem dX3_stepMove_62 : decode cX3_stepMove 62 = .ok (.bipush 50, 2) := by decide +kernel
theorem dX3_stepMove_64 : decode cX3_stepMove 64 = .ok (.idiv, 1) := by decide +kernel
theorem dX3_stepMove_65 : decode cX3_stepMove 65 = .ok (.baload, 1) := by decide +kernel
theorem dX3_stepMove_66 : decode cX3_stepMove 66 = .ok (.ifCond .eq 24, 3) := by decide +kernel
theorem dX3_stepMove_69 : decode cX3_stepMove 69 = .ok (.aload_n 0, 1) := by decide +kernel
theorem dX3_stepMove_70 : decode cX3_stepMove 70 = .ok (.iload_n 1, 1) := by decide +kernel
theorem dX3_stepMove_71 : decode cX3_stepMove 71 = .ok (.bipush 50, 2) := by decide +kernel
theorem dX3_stepMove_73 : decode cX3_stepMove 73 = .ok (.idiv, 1) := by decide +kernel
theorem dX3_stepMove_74 : decode cX3_stepMove 74 = .ok (.iload_n 1, 1) := by decide +kernel
theorem dX3_stepMove_75 : decode cX3_stepMove 75 = .ok (.bipush 50, 2) := by decide +kernel
theorem dX3_stepMove_77 : decode cX3_stepMove 77 = .ok (.irem, 1) := by decide +kernel
theorem dX3_stepMove_78 : decode cX3_stepMove 78 = .ok (.invokevirtual 106, 3) := by decide +kernel
theorem dX3_stepMove_81 : decode cX3_stepMove 81 = .ok (.ifCond .eq 9, 3) := by decide +kernel
theorem dX3_stepMove_84 : decode cX3_stepMove 84 = .ok (.aload_n 0, 1) := by decide +kernel
theorem dX3_stepMove_85 : decode cX3_stepMove 85 = .ok (.iload_n 1, 1) := by decide +kernel
theorem dX3_stepMove_86 : decode cX3_stepMove 86 = .ok (.iconst (-1), 1) := by decide +kernel
theorem dX3_stepMove_87 : decode cX3_stepMove 87 = .ok (.invokevirtual 90, 3) := by decide +kernel
theorem dX3_stepMove_90 : decode cX3_stepMove 90 = .ok (.iinc 1 1, 3) := by decide +kernel
theorem dX3_stepMove_93 : decode cX3_stepMove 93 = .ok (.goto (-47), 3) := by decide +kernel
theorem dX3_stepMove_96 : decode cX3_stepMove 96 = .ok (.goto 21, 3) := by decide +kernel
theorem dX3_stepMove_99 : decode cX3_stepMove 99 = .ok (.aload_n 0, 1) := by decide +kernel
theorem dX3_stepMove_100 : decode cX3_stepMove 100 = .ok (.getfield 33, 3) := by decide +kernel
theorem dX3_stepMove_103 : decode cX3_stepMove 103 = .ok (.aload_n 0, 1) := by decide +kernel
theorem dX3_stepMove_104 : decode cX3_stepMove 104 = .ok (.getfield 48, 3) := by decide +kernel
theorem dX3_stepMove_107 : decode cX3_stepMove 107 = .ok (.aload_n 0, 1) := by decide +kernel
theorem dX3_stepMove_108 : decode cX3_stepMove 108 = .ok (.getfield 160, 3) := by decide +kernel
theorem dX3_stepMove_111 : decode cX3_stepMove 111 = .ok (.iastore, 1) := by decide +kernel
theorem dX3_stepMove_112 : decode cX3_stepMove 112 = .ok (.aload_n 0, 1) := by decide +kernel
theorem dX3_stepMove_113 : decode cX3_stepMove 113 = .ok (.iconst (-1), 1) := by decide +kernel
theorem dX3_stepMove_114 : decode cX3_stepMove 114 = .ok (.putfield 48, 3) := by decide +kernel
theorem dX3_stepMove_117 : decode cX3_stepMove 117 = .ok (.aload_n 0, 1) := by decide +kernel
theorem dX3_stepMove_118 : decode cX3_stepMove 118 = .ok (.getfield 163, 3) := by decide +kernel
theorem dX3_stepMove_121 : decode cX3_stepMove 121 = .ok (.ireturn, 1) := by decide +kernel
theorem dX3_giveUpMove_0 : decode cX3_giveUpMove 0 = .ok (.aload_n 0, 1) := by decide +kernel
theorem dX3_giveUpMove_1 : decode cX3_giveUpMove 1 = .ok (.aload_n 0, 1) := by decide +kernel
theorem dX3_giveUpMove_2 : decode cX3_giveUpMove 2 = .ok (.getfield 48, 3) := by decide +kernel
theorem dX3_giveUpMove_5 : decode cX3_giveUpMove 5 = .ok (.iconst (-1), 1) := by decide +kernel
theorem dX3_giveUpMove_6 : decode cX3_giveUpMove 6 = .ok (.if_icmp .ne 7, 3) := by decide +kernel
theorem dX3_giveUpMove_9 : decode cX3_giveUpMove 9 = .ok (.iconst 1, 1) := by decide +kernel
theorem dX3_giveUpMove_10 : decode cX3_giveUpMove 10 = .ok (.goto 4, 3) := by decide +kernel
theorem dX3_giveUpMove_13 : decode cX3_giveUpMove 13 = .ok (.iconst 0, 1) := by decide +kernel
theorem dX3_giveUpMove_14 : decode cX3_giveUpMove 14 = .ok (.putfield 55, 3) := by decide +kernel
theorem dX3_giveUpMove_17 : decode cX3_giveUpMove 17 = .ok (.aload_n 0, 1) := by decide +kernel
theorem dX3_giveUpMove_18 : decode cX3_giveUpMove 18 = .ok (.iconst (-1), 1) := by decide +kernel
theorem dX3_giveUpMove_19 : decode cX3_giveUpMove 19 = .ok (.putfield 48, 3) := by decide +kernel
theorem dX3_giveUpMove_22 : decode cX3_giveUpMove 22 = .ok (.aload_n 0, 1) := by decide +kernel
theorem dX3_giveUpMove_23 : decode cX3_giveUpMove 23 = .ok (.getfield 55, 3) := by decide +kernel
theorem dX3_giveUpMove_26 : decode cX3_giveUpMove 26 = .ok (.ifCond .le 7, 3) := by decide +kernel
theorem dX3_giveUpMove_29 : decode cX3_giveUpMove 29 = .ok (.iconst 0, 1) := by decide +kernel
theorem dX3_giveUpMove_30 : decode cX3_giveUpMove 30 = .ok (.goto 7, 3) := by decide +kernel
theorem dX3_giveUpMove_33 : decode cX3_giveUpMove 33 = .ok (.aload_n 0, 1) := by decide +kernel
theorem dX3_giveUpMove_34 : decode cX3_giveUpMove 34 = .ok (.getfield 163, 3) := by decide +kernel
theorem dX3_giveUpMove_37 : decode cX3_giveUpMove 37 = .ok (.ireturn, 1) := by decide +kernel
theorem dX3_isFrozen_0 : decode cX3_isFrozen 0 = .ok (.aload_n 0, 1) := by decide +kernel
theorem dX3_isFrozen_1 : decode cX3_isFrozen 1 = .ok (.aload_n 0, 1) := by decide +kernel
theorem dX3_isFrozen_2 : decode cX3_isFrozen 2 = .ok (.iload_n 1, 1) := by decide +kernel
theorem dX3_isFrozen_3 : decode cX3_isFrozen 3 = .ok (.iload_n 2, 1) := by decide +kernel
theorem dX3_isFrozen_4 : decode cX3_isFrozen 4 = .ok (.invokevirtual 151, 3) := by decide +kernel
theorem dX3_isFrozen_7 : decode cX3_isFrozen 7 = .ok (.putfield 55, 3) := by decide +kernel
theorem dX3_isFrozen_10 : decode cX3_isFrozen 10 = .ok (.aload_n 0, 1) := by decide +kernel
theorem dX3_isFrozen_11 : decode cX3_isFrozen 11 = .ok (.getfield 55, 3) := by decide +kernel
theorem dX3_isFrozen_14 : decode cX3_isFrozen 14 = .ok (.ifCond .ne 16, 3) := by decide +kernel
theorem dX3_isFrozen_17 : decode cX3_isFrozen 17 = .ok (.aload_n 0, 1) := by decide +kernel
theorem dX3_isFrozen_18 : decode cX3_isFrozen 18 = .ok (.iload_n 1, 1) := by decide +kernel
theorem dX3_isFrozen_19 : decode cX3_isFrozen 19 = .ok (.iload_n 2, 1) := by decide +kernel
theorem dX3_isFrozen_20 : decode cX3_isFrozen 20 = .ok (.invokevirtual 106, 3) := by decide +kernel
theorem dX3_isFrozen_23 : decode cX3_isFrozen 23 = .ok (.ifCond .eq 7, 3) := by decide +kernel
theorem dX3_isFrozen_26 : decode cX3_isFrozen 26 = .ok (.iconst 1, 1) := by decide +kernel
theorem dX3_isFrozen_27 : decode cX3_isFrozen 27 = .ok (.goto 4, 3) := by decide +kernel
theorem dX3_isFrozen_30 : decode cX3_isFrozen 30 = .ok (.iconst 0, 1) := by decide +kernel
theorem dX3_isFrozen_31 : decode cX3_isFrozen 31 = .ok (.ireturn, 1) := by decide +kernel
theorem dX3_balance_0 : decode cX3_balance 0 = .ok (.aload_n 0, 1) := by decide +kernel
theorem dX3_balance_1 : decode cX3_balance 1 = .ok (.aload_n 0, 1) := by decide +kernel
theorem dX3_balance_2 : decode cX3_balance 2 = .ok (.getfield 48, 3) := by decide +kernel
theorem dX3_balance_5 : decode cX3_balance 5 = .ok (.iconst (-1), 1) := by decide +kernel
theorem dX3_balance_6 : decode cX3_balance 6 = .ok (.if_icmp .ne 7, 3) := by decide +kernel
theorem dX3_balance_9 : decode cX3_balance 9 = .ok (.iconst 0, 1) := by decide +kernel
theorem dX3_balance_10 : decode cX3_balance 10 = .ok (.goto 4, 3) := by decide +kernel
theorem dX3_balance_13 : decode cX3_balance 13 = .ok (.iconst 1, 1) := by decide +kernel
theorem dX3_balance_14 : decode cX3_balance 14 = .ok (.putfield 55, 3) := by decide +kernel
theorem dX3_balance_17 : decode cX3_balance 17 = .ok (.aload_n 0, 1) := by decide +kernel
theorem dX3_balance_18 : decode cX3_balance 18 = .ok (.getfield 55, 3) := by decide +kernel
theorem dX3_balance_21 : decode cX3_balance 21 = .ok (.ifCond .le 5, 3) := by decide +kernel
theorem dX3_balance_24 : decode cX3_balance 24 = .ok (.iconst 0, 1) := by decide +kernel
theorem dX3_balance_25 : decode cX3_balance 25 = .ok (.ireturn, 1) := by decide +kernel
theorem dX3_balance_26 : decode cX3_balance 26 = .ok (.iconst 0, 1) := by decide +kernel
theorem dX3_balance_27 : decode cX3_balance 27 = .ok (.istore_n 1, 1) := by decide +kernel
theorem dX3_balance_28 : decode cX3_balance 28 = .ok (.iconst 0, 1) := by decide +kernel
theorem dX3_balance_29 : decode cX3_balance 29 = .ok (.istore_n 2, 1) := by decide +kernel
theorem dX3_balance_30 : decode cX3_balance 30 = .ok (.iconst 1, 1) := by decide +kernel
theorem dX3_balance_31 : decode cX3_balance 31 = .ok (.istore_n 3, 1) := by decide +kernel
theorem dX3_balance_32 : decode cX3_balance 32 = .ok (.iload_n 3, 1) := by decide +kernel
theorem dX3_balance_33 : decode cX3_balance 33 = .ok (.iconst 4, 1) := by decide +kernel
theorem dX3_balance_34 : decode cX3_balance 34 = .ok (.if_icmp .ge 47, 3) := by decide +kernel
theorem dX3_balance_37 : decode cX3_balance 37 = .ok (.aload_n 0, 1) := by decide +kernel
theorem dX3_balance_38 : decode cX3_balance 38 = .ok (.iload_n 3, 1) := by decide +kernel
theorem dX3_balance_39 : decode cX3_balance 39 = .ok (.invokevirtual 157, 3) := by decide +kernel
theorem dX3_balance_42 : decode cX3_balance 42 = .ok (.aload_n 0, 1) := by decide +kernel
theorem dX3_balance_43 : decode cX3_balance 43 = .ok (.iload_n 1, 1) := by decide +kernel
theorem dX3_balance_44 : decode cX3_balance 44 = .ok (.invokevirtual 157, 3) := by decide +kernel
theorem dX3_balance_47 : decode cX3_balance 47 = .ok (.if_icmp .le 7, 3) := by decide +kernel
theorem dX3_balance_50 : decode cX3_balance 50 = .ok (.iload_n 3, 1) := by decide +kernel
theorem dX3_balance_51 : decode cX3_balance 51 = .ok (.goto 4, 3) := by decide +kernel
theorem dX3_balance_54 : decode cX3_balance 54 = .ok (.iload_n 1, 1) := by decide +kernel
theorem dX3_balance_55 : decode cX3_balance 55 = .ok (.istore_n 1, 1) := by decide +kernel
theorem dX3_balance_56 : decode cX3_balance 56 = .ok (.aload_n 0, 1) := by decide +kernel
theorem dX3_balance_57 : decode cX3_balance 57 = .ok (.iload_n 3, 1) := by decide +kernel
theorem dX3_balance_58 : decode cX3_balance 58 = .ok (.invokevirtual 157, 3) := by decide +kernel
theorem dX3_balance_61 : decode cX3_balance 61 = .ok (.aload_n 0, 1) := by decide +kernel
theorem dX3_balance_62 : decode cX3_balance 62 = .ok (.iload_n 2, 1) := by decide +kernel
theorem dX3_balance_63 : decode cX3_balance 63 = .ok (.invokevirtual 157, 3) := by decide +kernel
theorem dX3_balance_66 : decode cX3_balance 66 = .ok (.if_icmp .ge 7, 3) := by decide +kernel
theorem dX3_balance_69 : decode cX3_balance 69 = .ok (.iload_n 3, 1) := by decide +kernel
theorem dX3_balance_70 : decode cX3_balance 70 = .ok (.goto 4, 3) := by decide +kernel
theorem dX3_balance_73 : decode cX3_balance 73 = .ok (.iload_n 2, 1) := by decide +kernel
theorem dX3_balance_74 : decode cX3_balance 74 = .ok (.istore_n 2, 1) := by decide +kernel
theorem dX3_balance_75 : decode cX3_balance 75 = .ok (.iinc 3 1, 3) := by decide +kernel
theorem dX3_balance_78 : decode cX3_balance 78 = .ok (.goto (-46), 3) := by decide +kernel
theorem dX3_balance_81 : decode cX3_balance 81 = .ok (.aload_n 0, 1) := by decide +kernel
theorem dX3_balance_82 : decode cX3_balance 82 = .ok (.iload_n 1, 1) := by decide +kernel
theorem dX3_balance_83 : decode cX3_balance 83 = .ok (.invokevirtual 157, 3) := by decide +kernel
theorem dX3_balance_86 : decode cX3_balance 86 = .ok (.aload_n 0, 1) := by decide +kernel
theorem dX3_balance_87 : decode cX3_balance 87 = .ok (.iload_n 2, 1) := by decide +kernel
theorem dX3_balance_88 : decode cX3_balance 88 = .ok (.invokevirtual 157, 3) := by decide +kernel
theorem dX3_balance_91 : decode cX3_balance 91 = .ok (.isub, 1) := by decide +kernel
theorem dX3_balance_92 : decode cX3_balance 92 = .ok (.istore_n 3, 1) := by decide +kernel
theorem dX3_balance_93 : decode cX3_balance 93 = .ok (.iconst (-1), 1) := by decide +kernel
theorem dX3_balance_94 : decode cX3_balance 94 = .ok (.istore 4, 2) := by decide +kernel
theorem dX3_balance_96 : decode cX3_balance 96 = .ok (.iconst 0, 1) := by decide +kernel
theorem dX3_balance_97 : decode cX3_balance 97 = .ok (.istore 5, 2) := by decide +kernel
theorem dX3_balance_99 : decode cX3_balance 99 = .ok (.iload 5, 2) := by decide +kernel
theorem dX3_balance_101 : decode cX3_balance 101 = .ok (.bipush 8, 2) := by decide +kernel
theorem dX3_balance_103 : decode cX3_balance 103 = .ok (.aload_n 0, 1) := by decide +kernel
theorem dX3_balance_104 : decode cX3_balance 104 = .ok (.getfield 7, 3) := by decide +kernel
theorem dX3_balance_107 : decode cX3_balance 107 = .ok (.imul, 1) := by decide +kernel
theorem dX3_balance_108 : decode cX3_balance 108 = .ok (.if_icmp .ge 102, 3) := by decide +kernel
theorem dX3_balance_111 : decode cX3_balance 111 = .ok (.iload_n 3, 1) := by decide +kernel
theorem dX3_balance_112 : decode cX3_balance 112 = .ok (.iconst 4, 1) := by decide +kernel
theorem dX3_balance_113 : decode cX3_balance 113 = .ok (.if_icmp .lt 97, 3) := by decide +kernel
theorem dX3_balance_116 : decode cX3_balance 116 = .ok (.aload_n 0, 1) := by decide +kernel
theorem dX3_balance_117 : decode cX3_balance 117 = .ok (.getfield 30, 3) := by decide +kernel
theorem dX3_balance_120 : decode cX3_balance 120 = .ok (.iload 5, 2) := by decide +kernel
theorem dX3_balance_122 : decode cX3_balance 122 = .ok (.iaload, 1) := by decide +kernel
theorem dX3_balance_123 : decode cX3_balance 123 = .ok (.ifCond .le 41, 3) := by decide +kernel
theorem dX3_balance_126 : decode cX3_balance 126 = .ok (.aload_n 0, 1) := by decide +kernel
theorem dX3_balance_127 : decode cX3_balance 127 = .ok (.iload 5, 2) := by decide +kernel
theorem dX3_balance_129 : decode cX3_balance 129 = .ok (.invokevirtual 154, 3) := by decide +kernel
theorem dX3_balance_132 : decode cX3_balance 132 = .ok (.iload_n 1, 1) := by decide +kernel
theorem dX3_balance_133 : decode cX3_balance 133 = .ok (.if_icmp .ne 31, 3) := by decide +kernel
theorem dX3_balance_136 : decode cX3_balance 136 = .ok (.aload_n 0, 1) := by decide +kernel
theorem dX3_balance_137 : decode cX3_balance 137 = .ok (.getfield 36, 3) := by decide +kernel
theorem dX3_balance_140 : decode cX3_balance 140 = .ok (.iload 5, 2) := by decide +kernel
theorem dX3_balance_142 : decode cX3_balance 142 = .ok (.iaload, 1) := by decide +kernel
theorem dX3_balance_143 : decode cX3_balance 143 = .ok (.iconst 1, 1) := by decide +kernel
theorem dX3_balance_144 : decode cX3_balance 144 = .ok (.if_icmp .lt 20, 3) := by decide +kernel
theorem dX3_balance_147 : decode cX3_balance 147 = .ok (.aload_n 0, 1) := by decide +kernel
theorem dX3_balance_148 : decode cX3_balance 148 = .ok (.getfield 36, 3) := by decide +kernel
theorem dX3_balance_151 : decode cX3_balance 151 = .ok (.iload 5, 2) := by decide +kernel
theorem dX3_balance_153 : decode cX3_balance 153 = .ok (.iaload, 1) := by decide +kernel
theorem dX3_balance_154 : decode cX3_balance 154 = .ok (.iload_n 3, 1) := by decide +kernel
theorem dX3_balance_155 : decode cX3_balance 155 = .ok (.iconst 2, 1) := by decide +kernel
theorem dX3_balance_156 : decode cX3_balance 156 = .ok (.idiv, 1) := by decide +kernel
theorem dX3_balance_157 : decode cX3_balance 157 = .ok (.if_icmp .gt 7, 3) := by decide +kernel
theorem dX3_balance_160 : decode cX3_balance 160 = .ok (.iconst 1, 1) := by decide +kernel
theorem dX3_balance_161 : decode cX3_balance 161 = .ok (.goto 4, 3) := by decide +kernel
theorem dX3_balance_164 : decode cX3_balance 164 = .ok (.iconst 0, 1) := by decide +kernel
theorem dX3_balance_165 : decode cX3_balance 165 = .ok (.istore 6, 2) := by decide +kernel
theorem dX3_balance_167 : decode cX3_balance 167 = .ok (.iload 6, 2) := by decide +kernel
theorem dX3_balance_169 : decode cX3_balance 169 = .ok (.ifCond .eq 31, 3) := by decide +kernel
theorem dX3_balance_172 : decode cX3_balance 172 = .ok (.iload 4, 2) := by decide +kernel
theorem dX3_balance_174 : decode cX3_balance 174 = .ok (.iconst (-1), 1) := by decide +kernel
theorem dX3_balance_175 : decode cX3_balance 175 = .ok (.if_icmp .eq 20, 3) := by decide +kernel
theorem dX3_balance_178 : decode cX3_balance 178 = .ok (.aload_n 0, 1) := by decide +kernel
theorem dX3_balance_179 : decode cX3_balance 179 = .ok (.getfield 36, 3) := by decide +kernel
theorem dX3_balance_182 : decode cX3_balance 182 = .ok (.iload 5, 2) := by decide +kernel
theorem dX3_balance_184 : decode cX3_balance 184 = .ok (.iaload, 1) := by decide +kernel
theorem dX3_balance_185 : decode cX3_balance 185 = .ok (.aload_n 0, 1) := by decide +kernel
theorem dX3_balance_186 : decode cX3_balance 186 = .ok (.getfield 36, 3) := by decide +kernel
theorem dX3_balance_189 : decode cX3_balance 189 = .ok (.iload 4, 2) := by decide +kernel
theorem dX3_balance_191 : decode cX3_balance 191 = .ok (.iaload, 1) := by decide +kernel
theorem dX3_balance_192 : decode cX3_balance 192 = .ok (.if_icmp .le 8, 3) := by decide +kernel
theorem dX3_balance_195 : decode cX3_balance 195 = .ok (.iload 5, 2) := by decide +kernel
theorem dX3_balance_197 : decode cX3_balance 197 = .ok (.goto 5, 3) := by decide +kernel
theorem dX3_balance_200 : decode cX3_balance 200 = .ok (.iload 4, 2) := by decide +kernel
theorem dX3_balance_202 : decode cX3_balance 202 = .ok (.istore 4, 2) := by decide +kernel
theorem dX3_balance_204 : decode cX3_balance 204 = .ok (.iinc 5 1, 3) := by decide +kernel
theorem dX3_balance_207 : decode cX3_balance 207 = .ok (.goto (-108), 3) := by decide +kernel
theorem dX3_balance_210 : decode cX3_balance 210 = .ok (.iload 4, 2) := by decide +kernel
theorem dX3_balance_212 : decode cX3_balance 212 = .ok (.iconst (-1), 1) := by decide +kernel
theorem dX3_balance_213 : decode cX3_balance 213 = .ok (.if_icmp .eq 10, 3) := by decide +kernel
theorem dX3_balance_216 : decode cX3_balance 216 = .ok (.aload_n 0, 1) := by decide +kernel
theorem dX3_balance_217 : decode cX3_balance 217 = .ok (.iload 4, 2) := by decide +kernel
theorem dX3_balance_219 : decode cX3_balance 219 = .ok (.iload_n 2, 1) := by decide +kernel
theorem dX3_balance_220 : decode cX3_balance 220 = .ok (.invokevirtual 166, 3) := by decide +kernel
theorem dX3_balance_223 : decode cX3_balance 223 = .ok (.iconst 0, 1) := by decide +kernel
theorem dX3_balance_224 : decode cX3_balance 224 = .ok (.istore 5, 2) := by decide +kernel
theorem dX3_balance_226 : decode cX3_balance 226 = .ok (.iload 5, 2) := by decide +kernel
theorem dX3_balance_228 : decode cX3_balance 228 = .ok (.bipush 8, 2) := by decide +kernel
theorem dX3_balance_230 : decode cX3_balance 230 = .ok (.aload_n 0, 1) := by decide +kernel
theorem dX3_balance_231 : decode cX3_balance 231 = .ok (.getfield 7, 3) := by decide +kernel
theorem dX3_balance_234 : decode cX3_balance 234 = .ok (.imul, 1) := by decide +kernel
theorem dX3_balance_235 : decode cX3_balance 235 = .ok (.if_icmp .ge 20, 3) := by decide +kernel
theorem dX3_balance_238 : decode cX3_balance 238 = .ok (.aload_n 0, 1) := by decide +kernel
theorem dX3_balance_239 : decode cX3_balance 239 = .ok (.getfield 36, 3) := by decide +kernel
theorem dX3_balance_242 : decode cX3_balance 242 = .ok (.iload 5, 2) := by decide +kernel
theorem dX3_balance_244 : decode cX3_balance 244 = .ok (.dup2, 1) := by decide +kernel
theorem dX3_balance_245 : decode cX3_balance 245 = .ok (.iaload, 1) := by decide +kernel
theorem dX3_balance_246 : decode cX3_balance 246 = .ok (.iconst 2, 1) := by decide +kernel
theorem dX3_balance_247 : decode cX3_balance 247 = .ok (.idiv, 1) := by decide +kernel
theorem dX3_balance_248 : decode cX3_balance 248 = .ok (.iastore, 1) := by decide +kernel
theorem dX3_balance_249 : decode cX3_balance 249 = .ok (.iinc 5 1, 3) := by decide +kernel
theorem dX3_balance_252 : decode cX3_balance 252 = .ok (.goto (-26), 3) := by decide +kernel
theorem dX3_balance_255 : decode cX3_balance 255 = .ok (.iload 4, 2) := by decide +kernel
theorem dX3_balance_257 : decode cX3_balance 257 = .ok (.iconst (-1), 1) := by decide +kernel
theorem dX3_balance_258 : decode cX3_balance 258 = .ok (.if_icmp .ne 7, 3) := by decide +kernel
theorem dX3_balance_261 : decode cX3_balance 261 = .ok (.iconst (-1), 1) := by decide +kernel
theorem dX3_balance_262 : decode cX3_balance 262 = .ok (.goto 8, 3) := by decide +kernel
theorem dX3_balance_265 : decode cX3_balance 265 = .ok (.iload 4, 2) := by decide +kernel
theorem dX3_balance_267 : decode cX3_balance 267 = .ok (.bipush 8, 2) := by decide +kernel
theorem dX3_balance_269 : decode cX3_balance 269 = .ok (.idiv, 1) := by decide +kernel
theorem dX3_balance_270 : decode cX3_balance 270 = .ok (.ireturn, 1) := by decide +kernel
theorem dX3_links__0 : decode cX3_links_ 0 = .ok (.aload_n 0, 1) := by decide +kernel
theorem dX3_links__1 : decode cX3_links_ 1 = .ok (.iconst 0, 1) := by decide +kernel
theorem dX3_links__2 : decode cX3_links_ 2 = .ok (.putfield 55, 3) := by decide +kernel
theorem dX3_links__5 : decode cX3_links_ 5 = .ok (.iload_n 1, 1) := by decide +kernel
theorem dX3_links__6 : decode cX3_links_ 6 = .ok (.iconst 0, 1) := by decide +kernel
theorem dX3_links__7 : decode cX3_links_ 7 = .ok (.aload_n 0, 1) := by decide +kernel
theorem dX3_links__8 : decode cX3_links_ 8 = .ok (.getfield 119, 3) := by decide +kernel
theorem dX3_links__11 : decode cX3_links_ 11 = .ok (.iconst 1, 1) := by decide +kernel
theorem dX3_links__12 : decode cX3_links_ 12 = .ok (.isub, 1) := by decide +kernel
theorem dX3_links__13 : decode cX3_links_ 13 = .ok (.invokestatic 58, 3) := by decide +kernel
theorem dX3_links__16 : decode cX3_links_ 16 = .ok (.ifCond .eq 11, 3) := by decide +kernel
theorem dX3_links__19 : decode cX3_links_ 19 = .ok (.aload_n 0, 1) := by decide +kernel
theorem dX3_links__20 : decode cX3_links_ 20 = .ok (.iload_n 1, 1) := by decide +kernel
theorem dX3_links__21 : decode cX3_links_ 21 = .ok (.invokevirtual 124, 3) := by decide +kernel
theorem dX3_links__24 : decode cX3_links_ 24 = .ok (.goto 8, 3) := by decide +kernel
theorem dX3_links__27 : decode cX3_links_ 27 = .ok (.aload_n 0, 1) := by decide +kernel
theorem dX3_links__28 : decode cX3_links_ 28 = .ok (.iconst 1, 1) := by decide +kernel
theorem dX3_links__29 : decode cX3_links_ 29 = .ok (.invokevirtual 139, 3) := by decide +kernel
theorem dX3_links__32 : decode cX3_links_ 32 = .ok (.ireturn, 1) := by decide +kernel
theorem dX3_anchor_0 : decode cX3_anchor 0 = .ok (.aload_n 0, 1) := by decide +kernel
theorem dX3_anchor_1 : decode cX3_anchor 1 = .ok (.iload_n 1, 1) := by decide +kernel
theorem dX3_anchor_2 : decode cX3_anchor 2 = .ok (.iconst 0, 1) := by decide +kernel
theorem dX3_anchor_3 : decode cX3_anchor 3 = .ok (.aload_n 0, 1) := by decide +kernel
theorem dX3_anchor_4 : decode cX3_anchor 4 = .ok (.getfield 119, 3) := by decide +kernel
theorem dX3_anchor_7 : decode cX3_anchor 7 = .ok (.iconst 1, 1) := by decide +kernel
theorem dX3_anchor_8 : decode cX3_anchor 8 = .ok (.isub, 1) := by decide +kernel
theorem dX3_anchor_9 : decode cX3_anchor 9 = .ok (.invokestatic 58, 3) := by decide +kernel
theorem dX3_anchor_12 : decode cX3_anchor 12 = .ok (.ifCond .eq 7, 3) := by decide +kernel
theorem dX3_anchor_15 : decode cX3_anchor 15 = .ok (.iconst 0, 1) := by decide +kernel
theorem dX3_anchor_16 : decode cX3_anchor 16 = .ok (.goto 4, 3) := by decide +kernel
theorem dX3_anchor_19 : decode cX3_anchor 19 = .ok (.iconst 1, 1) := by decide +kernel
theorem dX3_anchor_20 : decode cX3_anchor 20 = .ok (.putfield 55, 3) := by decide +kernel
theorem dX3_anchor_23 : decode cX3_anchor 23 = .ok (.iconst (-1), 1) := by decide +kernel
theorem dX3_anchor_24 : decode cX3_anchor 24 = .ok (.istore_n 2, 1) := by decide +kernel
theorem dX3_anchor_25 : decode cX3_anchor 25 = .ok (.iconst 0, 1) := by decide +kernel
theorem dX3_anchor_26 : decode cX3_anchor 26 = .ok (.istore_n 3, 1) := by decide +kernel
theorem dX3_anchor_27 : decode cX3_anchor 27 = .ok (.iload_n 3, 1) := by decide +kernel
theorem dX3_anchor_28 : decode cX3_anchor 28 = .ok (.sipush 600, 3) := by decide +kernel
theorem dX3_anchor_31 : decode cX3_anchor 31 = .ok (.if_icmp .ge 52, 3) := by decide +kernel
theorem dX3_anchor_34 : decode cX3_anchor 34 = .ok (.aload_n 0, 1) := by decide +kernel
theorem dX3_anchor_35 : decode cX3_anchor 35 = .ok (.getfield 55, 3) := by decide +kernel
theorem dX3_anchor_38 : decode cX3_anchor 38 = .ok (.ifCond .ne 45, 3) := by decide +kernel
theorem dX3_anchor_41 : decode cX3_anchor 41 = .ok (.aload_n 0, 1) := by decide +kernel
theorem dX3_anchor_42 : decode cX3_anchor 42 = .ok (.getfield 24, 3) := by decide +kernel
theorem dX3_anchor_45 : decode cX3_anchor 45 = .ok (.iload_n 3, 1) := by decide +kernel
theorem dX3_anchor_46 : decode cX3_anchor 46 = .ok (.iaload, 1) := by decide +kernel
theorem dX3_anchor_47 : decode cX3_anchor 47 = .ok (.iload_n 1, 1) := by decide +kernel
theorem dX3_anchor_48 : decode cX3_anchor 48 = .ok (.if_icmp .ne 27, 3) := by decide +kernel
theorem dX3_anchor_51 : decode cX3_anchor 51 = .ok (.iload_n 2, 1) := by decide +kernel
theorem dX3_anchor_52 : decode cX3_anchor 52 = .ok (.iconst (-1), 1) := by decide +kernel
theorem dX3_anchor_53 : decode cX3_anchor 53 = .ok (.if_icmp .eq 18, 3) := by decide +kernel
theorem dX3_anchor_56 : decode cX3_anchor 56 = .ok (.aload_n 0, 1) := by decide +kernel
theorem dX3_anchor_57 : decode cX3_anchor 57 = .ok (.getfield 27, 3) := by decide +kernel
theorem dX3_anchor_60 : decode cX3_anchor 60 = .ok (.iload_n 3, 1) := by decide +kernel
theorem dX3_anchor_61 : decode cX3_anchor 61 = .ok (.iaload, 1) := by decide +kernel
theorem dX3_anchor_62 : decode cX3_anchor 62 = .ok (.aload_n 0, 1) := by decide +kernel
theorem dX3_anchor_63 : decode cX3_anchor 63 = .ok (.getfield 27, 3) := by decide +kernel
theorem dX3_anchor_66 : decode cX3_anchor 66 = .ok (.iload_n 2, 1) := by decide +kernel
theorem dX3_anchor_67 : decode cX3_anchor 67 = .ok (.iaload, 1) := by decide +kernel
theorem dX3_anchor_68 : decode cX3_anchor 68 = .ok (.if_icmp .ge 7, 3) := by decide +kernel
theorem dX3_anchor_71 : decode cX3_anchor 71 = .ok (.iload_n 3, 1) := by decide +kernel
theorem dX3_anchor_72 : decode cX3_anchor 72 = .ok (.goto 4, 3) := by decide +kernel
theorem dX3_anchor_75 : decode cX3_anchor 75 = .ok (.iload_n 2, 1) := by decide +kernel
theorem dX3_anchor_76 : decode cX3_anchor 76 = .ok (.istore_n 2, 1) := by decide +kernel
theorem dX3_anchor_77 : decode cX3_anchor 77 = .ok (.iinc 3 1, 3) := by decide +kernel
theorem dX3_anchor_80 : decode cX3_anchor 80 = .ok (.goto (-53), 3) := by decide +kernel
theorem dX3_anchor_83 : decode cX3_anchor 83 = .ok (.aload_n 0, 1) := by decide +kernel
theorem dX3_anchor_84 : decode cX3_anchor 84 = .ok (.getfield 55, 3) := by decide +kernel
theorem dX3_anchor_87 : decode cX3_anchor 87 = .ok (.ifCond .le 7, 3) := by decide +kernel
theorem dX3_anchor_90 : decode cX3_anchor 90 = .ok (.iconst 0, 1) := by decide +kernel
theorem dX3_anchor_91 : decode cX3_anchor 91 = .ok (.goto 24, 3) := by decide +kernel
theorem dX3_anchor_94 : decode cX3_anchor 94 = .ok (.iload_n 2, 1) := by decide +kernel
theorem dX3_anchor_95 : decode cX3_anchor 95 = .ok (.iconst (-1), 1) := by decide +kernel
theorem dX3_anchor_96 : decode cX3_anchor 96 = .ok (.if_icmp .ne 7, 3) := by decide +kernel
theorem dX3_anchor_99 : decode cX3_anchor 99 = .ok (.iconst (-1), 1) := by decide +kernel
theorem dX3_anchor_100 : decode cX3_anchor 100 = .ok (.goto 15, 3) := by decide +kernel
theorem dX3_anchor_103 : decode cX3_anchor 103 = .ok (.bipush 100, 2) := by decide +kernel
theorem dX3_anchor_105 : decode cX3_anchor 105 = .ok (.iload_n 2, 1) := by decide +kernel
theorem dX3_anchor_106 : decode cX3_anchor 106 = .ok (.bipush 50, 2) := by decide +kernel
theorem dX3_anchor_108 : decode cX3_anchor 108 = .ok (.idiv, 1) := by decide +kernel
theorem dX3_anchor_109 : decode cX3_anchor 109 = .ok (.imul, 1) := by decide +kernel
theorem dX3_anchor_110 : decode cX3_anchor 110 = .ok (.iload_n 2, 1) := by decide +kernel
theorem dX3_anchor_111 : decode cX3_anchor 111 = .ok (.bipush 50, 2) := by decide +kernel
theorem dX3_anchor_113 : decode cX3_anchor 113 = .ok (.irem, 1) := by decide +kernel
theorem dX3_anchor_114 : decode cX3_anchor 114 = .ok (.iadd, 1) := by decide +kernel
theorem dX3_anchor_115 : decode cX3_anchor 115 = .ok (.ireturn, 1) := by decide +kernel
theorem dX3_byTree_0 : decode cX3_byTree 0 = .ok (.aload_n 0, 1) := by decide +kernel
theorem dX3_byTree_1 : decode cX3_byTree 1 = .ok (.aload_n 0, 1) := by decide +kernel
theorem dX3_byTree_2 : decode cX3_byTree 2 = .ok (.iload_n 1, 1) := by decide +kernel
theorem dX3_byTree_3 : decode cX3_byTree 3 = .ok (.iload_n 2, 1) := by decide +kernel
theorem dX3_byTree_4 : decode cX3_byTree 4 = .ok (.invokevirtual 151, 3) := by decide +kernel
theorem dX3_byTree_7 : decode cX3_byTree 7 = .ok (.putfield 55, 3) := by decide +kernel
theorem dX3_byTree_10 : decode cX3_byTree 10 = .ok (.aload_n 0, 1) := by decide +kernel
theorem dX3_byTree_11 : decode cX3_byTree 11 = .ok (.getfield 55, 3) := by decide +kernel
theorem dX3_byTree_14 : decode cX3_byTree 14 = .ok (.ifCond .le 7, 3) := by decide +kernel
theorem dX3_byTree_17 : decode cX3_byTree 17 = .ok (.iconst 0, 1) := by decide +kernel
theorem dX3_byTree_18 : decode cX3_byTree 18 = .ok (.goto 13, 3) := by decide +kernel
theorem dX3_byTree_21 : decode cX3_byTree 21 = .ok (.aload_n 0, 1) := by decide +kernel
theorem dX3_byTree_22 : decode cX3_byTree 22 = .ok (.getfield 24, 3) := by decide +kernel
theorem dX3_byTree_25 : decode cX3_byTree 25 = .ok (.iload_n 1, 1) := by decide +kernel
theorem dX3_byTree_26 : decode cX3_byTree 26 = .ok (.iload_n 2, 1) := by decide +kernel
theorem dX3_byTree_27 : decode cX3_byTree 27 = .ok (.invokestatic 87, 3) := by decide +kernel
theorem dX3_byTree_30 : decode cX3_byTree 30 = .ok (.iaload, 1) := by decide +kernel
theorem dX3_byTree_31 : decode cX3_byTree 31 = .ok (.ireturn, 1) := by decide +kernel
theorem dX3_size_0 : decode cX3_size 0 = .ok (.aload_n 0, 1) := by decide +kernel
theorem dX3_size_1 : decode cX3_size 1 = .ok (.iconst 0, 1) := by decide +kernel
theorem dX3_size_2 : decode cX3_size 2 = .ok (.putfield 55, 3) := by decide +kernel
theorem dX3_size_5 : decode cX3_size 5 = .ok (.aload_n 0, 1) := by decide +kernel
theorem dX3_size_6 : decode cX3_size 6 = .ok (.iload_n 1, 1) := by decide +kernel
theorem dX3_size_7 : decode cX3_size 7 = .ok (.invokevirtual 99, 3) := by decide +kernel
theorem dX3_size_10 : decode cX3_size 10 = .ok (.ifCond .eq 11, 3) := by decide +kernel
theorem dX3_size_13 : decode cX3_size 13 = .ok (.aload_n 0, 1) := by decide +kernel
theorem dX3_size_14 : decode cX3_size 14 = .ok (.iload_n 1, 1) := by decide +kernel
theorem dX3_size_15 : decode cX3_size 15 = .ok (.invokevirtual 130, 3) := by decide +kernel
theorem dX3_size_18 : decode cX3_size 18 = .ok (.goto 8, 3) := by decide +kernel
theorem dX3_size_21 : decode cX3_size 21 = .ok (.aload_n 0, 1) := by decide +kernel
theorem dX3_size_22 : decode cX3_size 22 = .ok (.iconst 1, 1) := by decide +kernel
theorem dX3_size_23 : decode cX3_size 23 = .ok (.invokevirtual 139, 3) := by decide +kernel
theorem dX3_size_26 : decode cX3_size 26 = .ok (.ireturn, 1) := by decide +kernel
theorem dL_lookup_0 : decode cL_lookup 0 = .ok (.aload 4, 2) := by decide +kernel
theorem dL_lookup_2 : decode cL_lookup 2 = .ok (.iconst 0, 1) := by decide +kernel
theorem dL_lookup_3 : decode cL_lookup 3 = .ok (.aload_n 0, 1) := by decide +kernel
theorem dL_lookup_4 : decode cL_lookup 4 = .ok (.iload_n 1, 1) := by decide +kernel
theorem dL_lookup_5 : decode cL_lookup 5 = .ok (.iload_n 2, 1) := by decide +kernel
theorem dL_lookup_6 : decode cL_lookup 6 = .ok (.iload_n 3, 1) := by decide +kernel
theorem dL_lookup_7 : decode cL_lookup 7 = .ok (.invokevirtual 7, 3) := by decide +kernel
theorem dL_lookup_10 : decode cL_lookup 10 = .ok (.i2l, 1) := by decide +kernel
theorem dL_lookup_11 : decode cL_lookup 11 = .ok (.lastore, 1) := by decide +kernel
theorem dL_lookup_12 : decode cL_lookup 12 = .ok (.goto 11, 3) := by decide +kernel
theorem dL_lookup_15 : decode cL_lookup 15 = .ok (.astore 5, 2) := by decide +kernel
theorem dL_lookup_17 : decode cL_lookup 17 = .ok (.iconst 1, 1) := by decide +kernel
theorem dL_lookup_18 : decode cL_lookup 18 = .ok (.ireturn, 1) := by decide +kernel
theorem dL_lookup_19 : decode cL_lookup 19 = .ok (.astore 5, 2) := by decide +kernel
theorem dL_lookup_21 : decode cL_lookup 21 = .ok (.iconst 2, 1) := by decide +kernel
theorem dL_lookup_22 : decode cL_lookup 22 = .ok (.ireturn, 1) := by decide +kernel
theorem dL_lookup_23 : decode cL_lookup 23 = .ok (.iconst 0, 1) := by decide +kernel
theorem dL_lookup_24 : decode cL_lookup 24 = .ok (.ireturn, 1) := by decide +kernel
theorem dL_makeDirectory_0 : decode cL_makeDirectory 0 = .ok (.aload 4, 2) := by decide +kernel
theorem dL_makeDirectory_2 : decode cL_makeDirectory 2 = .ok (.iconst 0, 1) := by decide +kernel
theorem dL_makeDirectory_3 : decode cL_makeDirectory 3 = .ok (.aload_n 0, 1) := by decide +kernel
theorem dL_makeDirectory_4 : decode cL_makeDirectory 4 = .ok (.iload_n 1, 1) := by decide +kernel
theorem dL_makeDirectory_5 : decode cL_makeDirectory 5 = .ok (.iload_n 2, 1) := by decide +kernel
theorem dL_makeDirectory_6 : decode cL_makeDirectory 6 = .ok (.iload_n 3, 1) := by decide +kernel
theorem dL_makeDirectory_7 : decode cL_makeDirectory 7 = .ok (.invokevirtual 17, 3) := by decide +kernel
theorem dL_makeDirectory_10 : decode cL_makeDirectory 10 = .ok (.i2l, 1) := by decide +kernel
theorem dL_makeDirectory_11 : decode cL_makeDirectory 11 = .ok (.lastore, 1) := by decide +kernel
theorem dL_makeDirectory_12 : decode cL_makeDirectory 12 = .ok (.goto 15, 3) := by decide +kernel
theorem dL_makeDirectory_15 : decode cL_makeDirectory 15 = .ok (.astore 5, 2) := by decide +kernel
theorem dL_makeDirectory_17 : decode cL_makeDirectory 17 = .ok (.iconst 1, 1) := by decide +kernel
theorem dL_makeDirectory_18 : decode cL_makeDirectory 18 = .ok (.ireturn, 1) := by decide +kernel
theorem dL_makeDirectory_19 : decode cL_makeDirectory 19 = .ok (.astore 5, 2) := by decide +kernel
theorem dL_makeDirectory_21 : decode cL_makeDirectory 21 = .ok (.iconst 2, 1) := by decide +kernel
theorem dL_makeDirectory_22 : decode cL_makeDirectory 22 = .ok (.ireturn, 1) := by decide +kernel
theorem dL_makeDirectory_23 : decode cL_makeDirectory 23 = .ok (.astore 5, 2) := by decide +kernel
theorem dL_makeDirectory_25 : decode cL_makeDirectory 25 = .ok (.iconst 3, 1) := by decide +kernel
theorem dL_makeDirectory_26 : decode cL_makeDirectory 26 = .ok (.ireturn, 1) := by decide +kernel
theorem dL_makeDirectory_27 : decode cL_makeDirectory 27 = .ok (.iconst 0, 1) := by decide +kernel
theorem dL_makeDirectory_28 : decode cL_makeDirectory 28 = .ok (.ireturn, 1) := by decide +kernel
theorem dL_makeFile_0 : decode cL_makeFile 0 = .ok (.aload 4, 2) := by decide +kernel
theorem dL_makeFile_2 : decode cL_makeFile 2 = .ok (.iconst 0, 1) := by decide +kernel
theorem dL_makeFile_3 : decode cL_makeFile 3 = .ok (.aload_n 0, 1) := by decide +kernel
theorem dL_makeFile_4 : decode cL_makeFile 4 = .ok (.iload_n 1, 1) := by decide +kernel
theorem dL_makeFile_5 : decode cL_makeFile 5 = .ok (.iload_n 2, 1) := by decide +kernel
theorem dL_makeFile_6 : decode cL_makeFile 6 = .ok (.iload_n 3, 1) := by decide +kernel
theorem dL_makeFile_7 : decode cL_makeFile 7 = .ok (.invokevirtual 22, 3) := by decide +kernel
theorem dL_makeFile_10 : decode cL_makeFile 10 = .ok (.i2l, 1) := by decide +kernel
theorem dL_makeFile_11 : decode cL_makeFile 11 = .ok (.lastore, 1) := by decide +kernel
theorem dL_makeFile_12 : decode cL_makeFile 12 = .ok (.goto 15, 3) := by decide +kernel
theorem dL_makeFile_15 : decode cL_makeFile 15 = .ok (.astore 5, 2) := by decide +kernel
theorem dL_makeFile_17 : decode cL_makeFile 17 = .ok (.iconst 1, 1) := by decide +kernel
theorem dL_makeFile_18 : decode cL_makeFile 18 = .ok (.ireturn, 1) := by decide +kernel
theorem dL_makeFile_19 : decode cL_makeFile 19 = .ok (.astore 5, 2) := by decide +kernel
theorem dL_makeFile_21 : decode cL_makeFile 21 = .ok (.iconst 2, 1) := by decide +kernel
theorem dL_makeFile_22 : decode cL_makeFile 22 = .ok (.ireturn, 1) := by decide +kernel
theorem dL_makeFile_23 : decode cL_makeFile 23 = .ok (.astore 5, 2) := by decide +kernel
theorem dL_makeFile_25 : decode cL_makeFile 25 = .ok (.iconst 3, 1) := by decide +kernel
theorem dL_makeFile_26 : decode cL_makeFile 26 = .ok (.ireturn, 1) := by decide +kernel
theorem dL_makeFile_27 : decode cL_makeFile 27 = .ok (.iconst 0, 1) := by decide +kernel
theorem dL_makeFile_28 : decode cL_makeFile 28 = .ok (.ireturn, 1) := by decide +kernel
theorem dL_link_0 : decode cL_link 0 = .ok (.aload 5, 2) := by decide +kernel
theorem dL_link_2 : decode cL_link 2 = .ok (.iconst 0, 1) := by decide +kernel
theorem dL_link_3 : decode cL_link 3 = .ok (.aload_n 0, 1) := by decide +kernel
theorem dL_link_4 : decode cL_link 4 = .ok (.iload_n 1, 1) := by decide +kernel
theorem dL_link_5 : decode cL_link 5 = .ok (.iload_n 2, 1) := by decide +kernel
theorem dL_link_6 : decode cL_link 6 = .ok (.iload_n 3, 1) := by decide +kernel
theorem dL_link_7 : decode cL_link 7 = .ok (.iload 4, 2) := by decide +kernel
theorem dL_link_9 : decode cL_link 9 = .ok (.invokevirtual 25, 3) := by decide +kernel
theorem dL_link_12 : decode cL_link 12 = .ok (.i2l, 1) := by decide +kernel
theorem dL_link_13 : decode cL_link 13 = .ok (.lastore, 1) := by decide +kernel
theorem dL_link_14 : decode cL_link 14 = .ok (.goto 15, 3) := by decide +kernel
theorem dL_link_17 : decode cL_link 17 = .ok (.astore 6, 2) := by decide +kernel
theorem dL_link_19 : decode cL_link 19 = .ok (.iconst 1, 1) := by decide +kernel
theorem dL_link_20 : decode cL_link 20 = .ok (.ireturn, 1) := by decide +kernel
theorem dL_link_21 : decode cL_link 21 = .ok (.astore 6, 2) := by decide +kernel
theorem dL_link_23 : decode cL_link 23 = .ok (.iconst 2, 1) := by decide +kernel
theorem dL_link_24 : decode cL_link 24 = .ok (.ireturn, 1) := by decide +kernel
theorem dL_link_25 : decode cL_link 25 = .ok (.astore 6, 2) := by decide +kernel
theorem dL_link_27 : decode cL_link 27 = .ok (.iconst 3, 1) := by decide +kernel
theorem dL_link_28 : decode cL_link 28 = .ok (.ireturn, 1) := by decide +kernel
theorem dL_link_29 : decode cL_link 29 = .ok (.iconst 0, 1) := by decide +kernel
theorem dL_link_30 : decode cL_link 30 = .ok (.ireturn, 1) := by decide +kernel
theorem dL_remove_0 : decode cL_remove 0 = .ok (.aload 4, 2) := by decide +kernel
theorem dL_remove_2 : decode cL_remove 2 = .ok (.iconst 0, 1) := by decide +kernel
theorem dL_remove_3 : decode cL_remove 3 = .ok (.aload_n 0, 1) := by decide +kernel
theorem dL_remove_4 : decode cL_remove 4 = .ok (.iload_n 1, 1) := by decide +kernel
theorem dL_remove_5 : decode cL_remove 5 = .ok (.iload_n 2, 1) := by decide +kernel
theorem dL_remove_6 : decode cL_remove 6 = .ok (.iload_n 3, 1) := by decide +kernel
theorem dL_remove_7 : decode cL_remove 7 = .ok (.invokevirtual 29, 3) := by decide +kernel
theorem dL_remove_10 : decode cL_remove 10 = .ok (.i2l, 1) := by decide +kernel
theorem dL_remove_11 : decode cL_remove 11 = .ok (.lastore, 1) := by decide +kernel
theorem dL_remove_12 : decode cL_remove 12 = .ok (.goto 15, 3) := by decide +kernel
theorem dL_remove_15 : decode cL_remove 15 = .ok (.astore 5, 2) := by decide +kernel
theorem dL_remove_17 : decode cL_remove 17 = .ok (.iconst 1, 1) := by decide +kernel
theorem dL_remove_18 : decode cL_remove 18 = .ok (.ireturn, 1) := by decide +kernel
theorem dL_remove_19 : decode cL_remove 19 = .ok (.astore 5, 2) := by decide +kernel
theorem dL_remove_21 : decode cL_remove 21 = .ok (.iconst 2, 1) := by decide +kernel
theorem dL_remove_22 : decode cL_remove 22 = .ok (.ireturn, 1) := by decide +kernel
theorem dL_remove_23 : decode cL_remove 23 = .ok (.astore 5, 2) := by decide +kernel
theorem dL_remove_25 : decode cL_remove 25 = .ok (.iconst 3, 1) := by decide +kernel
theorem dL_remove_26 : decode cL_remove 26 = .ok (.ireturn, 1) := by decide +kernel
theorem dL_remove_27 : decode cL_remove 27 = .ok (.iconst 0, 1) := by decide +kernel
theorem dL_remove_28 : decode cL_remove 28 = .ok (.ireturn, 1) := by decide +kernel
theorem dL_rename_0 : decode cL_rename 0 = .ok (.aload_n 0, 1) := by decide +kernel
theorem dL_rename_1 : decode cL_rename 1 = .ok (.iload_n 1, 1) := by decide +kernel
theorem dL_rename_2 : decode cL_rename 2 = .ok (.iload_n 2, 1) := by decide +kernel
theorem dL_rename_3 : decode cL_rename 3 = .ok (.iload_n 3, 1) := by decide +kernel
theorem dL_rename_4 : decode cL_rename 4 = .ok (.iload 4, 2) := by decide +kernel
theorem dL_rename_6 : decode cL_rename 6 = .ok (.iload 5, 2) := by decide +kernel
theorem dL_rename_8 : decode cL_rename 8 = .ok (.invokevirtual 32, 3) := by decide +kernel
theorem dL_rename_11 : decode cL_rename 11 = .ok (.goto 15, 3) := by decide +kernel
theorem dL_rename_14 : decode cL_rename 14 = .ok (.astore 6, 2) := by decide +kernel
theorem dL_rename_16 : decode cL_rename 16 = .ok (.iconst 1, 1) := by decide +kernel
theorem dL_rename_17 : decode cL_rename 17 = .ok (.ireturn, 1) := by decide +kernel
theorem dL_rename_18 : decode cL_rename 18 = .ok (.astore 6, 2) := by decide +kernel
theorem dL_rename_20 : decode cL_rename 20 = .ok (.iconst 2, 1) := by decide +kernel
theorem dL_rename_21 : decode cL_rename 21 = .ok (.ireturn, 1) := by decide +kernel
theorem dL_rename_22 : decode cL_rename 22 = .ok (.astore 6, 2) := by decide +kernel
theorem dL_rename_24 : decode cL_rename 24 = .ok (.iconst 3, 1) := by decide +kernel
theorem dL_rename_25 : decode cL_rename 25 = .ok (.ireturn, 1) := by decide +kernel
theorem dL_rename_26 : decode cL_rename 26 = .ok (.iconst 0, 1) := by decide +kernel
theorem dL_rename_27 : decode cL_rename 27 = .ok (.ireturn, 1) := by decide +kernel
theorem dL_pass_0 : decode cL_pass 0 = .ok (.aload_n 2, 1) := by decide +kernel
theorem dL_pass_1 : decode cL_pass 1 = .ok (.iconst 0, 1) := by decide +kernel
theorem dL_pass_2 : decode cL_pass 2 = .ok (.aload_n 0, 1) := by decide +kernel
theorem dL_pass_3 : decode cL_pass 3 = .ok (.iload_n 1, 1) := by decide +kernel
theorem dL_pass_4 : decode cL_pass 4 = .ok (.invokevirtual 36, 3) := by decide +kernel
theorem dL_pass_7 : decode cL_pass 7 = .ok (.i2l, 1) := by decide +kernel
theorem dL_pass_8 : decode cL_pass 8 = .ok (.lastore, 1) := by decide +kernel
theorem dL_pass_9 : decode cL_pass 9 = .ok (.goto 6, 3) := by decide +kernel
theorem dL_pass_12 : decode cL_pass 12 = .ok (.astore_n 3, 1) := by decide +kernel
theorem dL_pass_13 : decode cL_pass 13 = .ok (.iconst 1, 1) := by decide +kernel
theorem dL_pass_14 : decode cL_pass 14 = .ok (.ireturn, 1) := by decide +kernel
theorem dL_pass_15 : decode cL_pass 15 = .ok (.iconst 0, 1) := by decide +kernel
theorem dL_pass_16 : decode cL_pass 16 = .ok (.ireturn, 1) := by decide +kernel
theorem dL_leases_0 : decode cL_leases 0 = .ok (.aload_n 2, 1) := by decide +kernel
theorem dL_leases_1 : decode cL_leases 1 = .ok (.iconst 0, 1) := by decide +kernel
theorem dL_leases_2 : decode cL_leases 2 = .ok (.aload_n 0, 1) := by decide +kernel
theorem dL_leases_3 : decode cL_leases 3 = .ok (.iload_n 1, 1) := by decide +kernel
theorem dL_leases_4 : decode cL_leases 4 = .ok (.invokevirtual 40, 3) := by decide +kernel
theorem dL_leases_7 : decode cL_leases 7 = .ok (.i2l, 1) := by decide +kernel
theorem dL_leases_8 : decode cL_leases 8 = .ok (.lastore, 1) := by decide +kernel
theorem dL_leases_9 : decode cL_leases 9 = .ok (.goto 6, 3) := by decide +kernel
theorem dL_leases_12 : decode cL_leases 12 = .ok (.astore_n 3, 1) := by decide +kernel
theorem dL_leases_13 : decode cL_leases 13 = .ok (.iconst 1, 1) := by decide +kernel
theorem dL_leases_14 : decode cL_leases 14 = .ok (.ireturn, 1) := by decide +kernel
theorem dL_leases_15 : decode cL_leases 15 = .ok (.iconst 0, 1) := by decide +kernel
theorem dL_leases_16 : decode cL_leases 16 = .ok (.ireturn, 1) := by decide +kernel
theorem dL_recalls_0 : decode cL_recalls 0 = .ok (.aload_n 2, 1) := by decide +kernel
theorem dL_recalls_1 : decode cL_recalls 1 = .ok (.iconst 0, 1) := by decide +kernel
theorem dL_recalls_2 : decode cL_recalls 2 = .ok (.aload_n 0, 1) := by decide +kernel
theorem dL_recalls_3 : decode cL_recalls 3 = .ok (.iload_n 1, 1) := by decide +kernel
theorem dL_recalls_4 : decode cL_recalls 4 = .ok (.invokevirtual 43, 3) := by decide +kernel
theorem dL_recalls_7 : decode cL_recalls 7 = .ok (.i2l, 1) := by decide +kernel
theorem dL_recalls_8 : decode cL_recalls 8 = .ok (.lastore, 1) := by decide +kernel
theorem dL_recalls_9 : decode cL_recalls 9 = .ok (.goto 6, 3) := by decide +kernel
theorem dL_recalls_12 : decode cL_recalls 12 = .ok (.astore_n 3, 1) := by decide +kernel
theorem dL_recalls_13 : decode cL_recalls 13 = .ok (.iconst 1, 1) := by decide +kernel
theorem dL_recalls_14 : decode cL_recalls 14 = .ok (.ireturn, 1) := by decide +kernel
theorem dL_recalls_15 : decode cL_recalls 15 = .ok (.iconst 0, 1) := by decide +kernel
theorem dL_recalls_16 : decode cL_recalls 16 = .ok (.ireturn, 1) := by decide +kernel
theorem dL_known_0 : decode cL_known 0 = .ok (.aload_n 2, 1) := by decide +kernel
theorem dL_known_1 : decode cL_known 1 = .ok (.iconst 0, 1) := by decide +kernel
theorem dL_known_2 : decode cL_known 2 = .ok (.aload_n 0, 1) := by decide +kernel
theorem dL_known_3 : decode cL_known 3 = .ok (.iload_n 1, 1) := by decide +kernel
theorem dL_known_4 : decode cL_known 4 = .ok (.invokevirtual 46, 3) := by decide +kernel
theorem dL_known_7 : decode cL_known 7 = .ok (.i2l, 1) := by decide +kernel
theorem dL_known_8 : decode cL_known 8 = .ok (.lastore, 1) := by decide +kernel
theorem dL_known_9 : decode cL_known 9 = .ok (.goto 6, 3) := by decide +kernel
theorem dL_known_12 : decode cL_known 12 = .ok (.astore_n 3, 1) := by decide +kernel
theorem dL_known_13 : decode cL_known 13 = .ok (.iconst 1, 1) := by decide +kernel
theorem dL_known_14 : decode cL_known 14 = .ok (.ireturn, 1) := by decide +kernel
theorem dL_known_15 : decode cL_known 15 = .ok (.iconst 0, 1) := by decide +kernel
theorem dL_known_16 : decode cL_known 16 = .ok (.ireturn, 1) := by decide +kernel
theorem dL_split_0 : decode cL_split 0 = .ok (.aload_n 3, 1) := by decide +kernel
theorem dL_split_1 : decode cL_split 1 = .ok (.iconst 0, 1) := by decide +kernel
theorem dL_split_2 : decode cL_split 2 = .ok (.aload_n 0, 1) := by decide +kernel
theorem dL_split_3 : decode cL_split 3 = .ok (.iload_n 1, 1) := by decide +kernel
theorem dL_split_4 : decode cL_split 4 = .ok (.iload_n 2, 1) := by decide +kernel
theorem dL_split_5 : decode cL_split 5 = .ok (.invokevirtual 49, 3) := by decide +kernel
theorem dL_split_8 : decode cL_split 8 = .ok (.i2l, 1) := by decide +kernel
theorem dL_split_9 : decode cL_split 9 = .ok (.lastore, 1) := by decide +kernel
theorem dL_split_10 : decode cL_split 10 = .ok (.goto 15, 3) := by decide +kernel
theorem dL_split_13 : decode cL_split 13 = .ok (.astore 4, 2) := by decide +kernel
theorem dL_split_15 : decode cL_split 15 = .ok (.iconst 1, 1) := by decide +kernel
theorem dL_split_16 : decode cL_split 16 = .ok (.ireturn, 1) := by decide +kernel
theorem dL_split_17 : decode cL_split 17 = .ok (.astore 4, 2) := by decide +kernel
theorem dL_split_19 : decode cL_split 19 = .ok (.iconst 2, 1) := by decide +kernel
theorem dL_split_20 : decode cL_split 20 = .ok (.ireturn, 1) := by decide +kernel
theorem dL_split_21 : decode cL_split 21 = .ok (.astore 4, 2) := by decide +kernel
theorem dL_split_23 : decode cL_split 23 = .ok (.iconst 3, 1) := by decide +kernel
theorem dL_split_24 : decode cL_split 24 = .ok (.ireturn, 1) := by decide +kernel
theorem dL_split_25 : decode cL_split 25 = .ok (.iconst 0, 1) := by decide +kernel
theorem dL_split_26 : decode cL_split 26 = .ok (.ireturn, 1) := by decide +kernel
theorem dL_merge_0 : decode cL_merge 0 = .ok (.aload_n 3, 1) := by decide +kernel
theorem dL_merge_1 : decode cL_merge 1 = .ok (.iconst 0, 1) := by decide +kernel
theorem dL_merge_2 : decode cL_merge 2 = .ok (.aload_n 0, 1) := by decide +kernel
theorem dL_merge_3 : decode cL_merge 3 = .ok (.iload_n 1, 1) := by decide +kernel
theorem dL_merge_4 : decode cL_merge 4 = .ok (.iload_n 2, 1) := by decide +kernel
theorem dL_merge_5 : decode cL_merge 5 = .ok (.invokevirtual 53, 3) := by decide +kernel
theorem dL_merge_8 : decode cL_merge 8 = .ok (.i2l, 1) := by decide +kernel
theorem dL_merge_9 : decode cL_merge 9 = .ok (.lastore, 1) := by decide +kernel
theorem dL_merge_10 : decode cL_merge 10 = .ok (.goto 15, 3) := by decide +kernel
theorem dL_merge_13 : decode cL_merge 13 = .ok (.astore 4, 2) := by decide +kernel
theorem dL_merge_15 : decode cL_merge 15 = .ok (.iconst 1, 1) := by decide +kernel
theorem dL_merge_16 : decode cL_merge 16 = .ok (.ireturn, 1) := by decide +kernel
theorem dL_merge_17 : decode cL_merge 17 = .ok (.astore 4, 2) := by decide +kernel
theorem dL_merge_19 : decode cL_merge 19 = .ok (.iconst 2, 1) := by decide +kernel
theorem dL_merge_20 : decode cL_merge 20 = .ok (.ireturn, 1) := by decide +kernel
theorem dL_merge_21 : decode cL_merge 21 = .ok (.astore 4, 2) := by decide +kernel
theorem dL_merge_23 : decode cL_merge 23 = .ok (.iconst 3, 1) := by decide +kernel
theorem dL_merge_24 : decode cL_merge 24 = .ok (.ireturn, 1) := by decide +kernel
theorem dL_merge_25 : decode cL_merge 25 = .ok (.iconst 0, 1) := by decide +kernel
theorem dL_merge_26 : decode cL_merge 26 = .ok (.ireturn, 1) := by decide +kernel
theorem dL_fragments_0 : decode cL_fragments 0 = .ok (.aload_n 2, 1) := by decide +kernel
theorem dL_fragments_1 : decode cL_fragments 1 = .ok (.iconst 0, 1) := by decide +kernel
theorem dL_fragments_2 : decode cL_fragments 2 = .ok (.aload_n 0, 1) := by decide +kernel
theorem dL_fragments_3 : decode cL_fragments 3 = .ok (.iload_n 1, 1) := by decide +kernel
theorem dL_fragments_4 : decode cL_fragments 4 = .ok (.invokevirtual 56, 3) := by decide +kernel
theorem dL_fragments_7 : decode cL_fragments 7 = .ok (.i2l, 1) := by decide +kernel
theorem dL_fragments_8 : decode cL_fragments 8 = .ok (.lastore, 1) := by decide +kernel
theorem dL_fragments_9 : decode cL_fragments 9 = .ok (.goto 6, 3) := by decide +kernel
theorem dL_fragments_12 : decode cL_fragments 12 = .ok (.astore_n 3, 1) := by decide +kernel
theorem dL_fragments_13 : decode cL_fragments 13 = .ok (.iconst 1, 1) := by decide +kernel
theorem dL_fragments_14 : decode cL_fragments 14 = .ok (.ireturn, 1) := by decide +kernel
theorem dL_fragments_15 : decode cL_fragments 15 = .ok (.iconst 0, 1) := by decide +kernel
theorem dL_fragments_16 : decode cL_fragments 16 = .ok (.ireturn, 1) := by decide +kernel
theorem dL_serverOf_0 : decode cL_serverOf 0 = .ok (.aload_n 3, 1) := by decide +kernel
theorem dL_serverOf_1 : decode cL_serverOf 1 = .ok (.iconst 0, 1) := by decide +kernel
theorem dL_serverOf_2 : decode cL_serverOf 2 = .ok (.aload_n 0, 1) := by decide +kernel
theorem dL_serverOf_3 : decode cL_serverOf 3 = .ok (.iload_n 1, 1) := by decide +kernel
theorem dL_serverOf_4 : decode cL_serverOf 4 = .ok (.iload_n 2, 1) := by decide +kernel
theorem dL_serverOf_5 : decode cL_serverOf 5 = .ok (.invokevirtual 59, 3) := by decide +kernel
theorem dL_serverOf_8 : decode cL_serverOf 8 = .ok (.i2l, 1) := by decide +kernel
theorem dL_serverOf_9 : decode cL_serverOf 9 = .ok (.lastore, 1) := by decide +kernel
theorem dL_serverOf_10 : decode cL_serverOf 10 = .ok (.goto 11, 3) := by decide +kernel
theorem dL_serverOf_13 : decode cL_serverOf 13 = .ok (.astore 4, 2) := by decide +kernel
theorem dL_serverOf_15 : decode cL_serverOf 15 = .ok (.iconst 1, 1) := by decide +kernel
theorem dL_serverOf_16 : decode cL_serverOf 16 = .ok (.ireturn, 1) := by decide +kernel
theorem dL_serverOf_17 : decode cL_serverOf 17 = .ok (.astore 4, 2) := by decide +kernel
theorem dL_serverOf_19 : decode cL_serverOf 19 = .ok (.iconst 2, 1) := by decide +kernel
theorem dL_serverOf_20 : decode cL_serverOf 20 = .ok (.ireturn, 1) := by decide +kernel
theorem dL_serverOf_21 : decode cL_serverOf 21 = .ok (.iconst 0, 1) := by decide +kernel
theorem dL_serverOf_22 : decode cL_serverOf 22 = .ok (.ireturn, 1) := by decide +kernel
theorem dL_ownerOf_0 : decode cL_ownerOf 0 = .ok (.aload_n 3, 1) := by decide +kernel
theorem dL_ownerOf_1 : decode cL_ownerOf 1 = .ok (.iconst 0, 1) := by decide +kernel
theorem dL_ownerOf_2 : decode cL_ownerOf 2 = .ok (.aload_n 0, 1) := by decide +kernel
theorem dL_ownerOf_3 : decode cL_ownerOf 3 = .ok (.iload_n 1, 1) := by decide +kernel
theorem dL_ownerOf_4 : decode cL_ownerOf 4 = .ok (.iload_n 2, 1) := by decide +kernel
theorem dL_ownerOf_5 : decode cL_ownerOf 5 = .ok (.invokevirtual 62, 3) := by decide +kernel
theorem dL_ownerOf_8 : decode cL_ownerOf 8 = .ok (.i2l, 1) := by decide +kernel
theorem dL_ownerOf_9 : decode cL_ownerOf 9 = .ok (.lastore, 1) := by decide +kernel
theorem dL_ownerOf_10 : decode cL_ownerOf 10 = .ok (.goto 11, 3) := by decide +kernel
theorem dL_ownerOf_13 : decode cL_ownerOf 13 = .ok (.astore 4, 2) := by decide +kernel
theorem dL_ownerOf_15 : decode cL_ownerOf 15 = .ok (.iconst 1, 1) := by decide +kernel
theorem dL_ownerOf_16 : decode cL_ownerOf 16 = .ok (.ireturn, 1) := by decide +kernel
theorem dL_ownerOf_17 : decode cL_ownerOf 17 = .ok (.astore 4, 2) := by decide +kernel
theorem dL_ownerOf_19 : decode cL_ownerOf 19 = .ok (.iconst 2, 1) := by decide +kernel
theorem dL_ownerOf_20 : decode cL_ownerOf 20 = .ok (.ireturn, 1) := by decide +kernel
theorem dL_ownerOf_21 : decode cL_ownerOf 21 = .ok (.iconst 0, 1) := by decide +kernel
theorem dL_ownerOf_22 : decode cL_ownerOf 22 = .ok (.ireturn, 1) := by decide +kernel
theorem dL_load_0 : decode cL_load 0 = .ok (.aload_n 2, 1) := by decide +kernel
theorem dL_load_1 : decode cL_load 1 = .ok (.iconst 0, 1) := by decide +kernel
theorem dL_load_2 : decode cL_load 2 = .ok (.aload_n 0, 1) := by decide +kernel
theorem dL_load_3 : decode cL_load 3 = .ok (.iload_n 1, 1) := by decide +kernel
theorem dL_load_4 : decode cL_load 4 = .ok (.invokevirtual 65, 3) := by decide +kernel
theorem dL_load_7 : decode cL_load 7 = .ok (.i2l, 1) := by decide +kernel
theorem dL_load_8 : decode cL_load 8 = .ok (.lastore, 1) := by decide +kernel
theorem dL_load_9 : decode cL_load 9 = .ok (.goto 6, 3) := by decide +kernel
theorem dL_load_12 : decode cL_load 12 = .ok (.astore_n 3, 1) := by decide +kernel
theorem dL_load_13 : decode cL_load 13 = .ok (.iconst 1, 1) := by decide +kernel
theorem dL_load_14 : decode cL_load 14 = .ok (.ireturn, 1) := by decide +kernel
theorem dL_load_15 : decode cL_load 15 = .ok (.iconst 0, 1) := by decide +kernel
theorem dL_load_16 : decode cL_load 16 = .ok (.ireturn, 1) := by decide +kernel
theorem dL_beginMove_0 : decode cL_beginMove 0 = .ok (.aload_n 0, 1) := by decide +kernel
theorem dL_beginMove_1 : decode cL_beginMove 1 = .ok (.iload_n 1, 1) := by decide +kernel
theorem dL_beginMove_2 : decode cL_beginMove 2 = .ok (.iload_n 2, 1) := by decide +kernel
theorem dL_beginMove_3 : decode cL_beginMove 3 = .ok (.iload_n 3, 1) := by decide +kernel
theorem dL_beginMove_4 : decode cL_beginMove 4 = .ok (.invokevirtual 68, 3) := by decide +kernel
theorem dL_beginMove_7 : decode cL_beginMove 7 = .ok (.goto 15, 3) := by decide +kernel
theorem dL_beginMove_10 : decode cL_beginMove 10 = .ok (.astore 4, 2) := by decide +kernel
theorem dL_beginMove_12 : decode cL_beginMove 12 = .ok (.iconst 1, 1) := by decide +kernel
theorem dL_beginMove_13 : decode cL_beginMove 13 = .ok (.ireturn, 1) := by decide +kernel
theorem dL_beginMove_14 : decode cL_beginMove 14 = .ok (.astore 4, 2) := by decide +kernel
theorem dL_beginMove_16 : decode cL_beginMove 16 = .ok (.iconst 2, 1) := by decide +kernel
theorem dL_beginMove_17 : decode cL_beginMove 17 = .ok (.ireturn, 1) := by decide +kernel
theorem dL_beginMove_18 : decode cL_beginMove 18 = .ok (.astore 4, 2) := by decide +kernel
theorem dL_beginMove_20 : decode cL_beginMove 20 = .ok (.iconst 3, 1) := by decide +kernel
theorem dL_beginMove_21 : decode cL_beginMove 21 = .ok (.ireturn, 1) := by decide +kernel
theorem dL_beginMove_22 : decode cL_beginMove 22 = .ok (.iconst 0, 1) := by decide +kernel
theorem dL_beginMove_23 : decode cL_beginMove 23 = .ok (.ireturn, 1) := by decide +kernel
theorem dL_stepMove_0 : decode cL_stepMove 0 = .ok (.aload_n 1, 1) := by decide +kernel
theorem dL_stepMove_1 : decode cL_stepMove 1 = .ok (.iconst 0, 1) := by decide +kernel
theorem dL_stepMove_2 : decode cL_stepMove 2 = .ok (.aload_n 0, 1) := by decide +kernel
theorem dL_stepMove_3 : decode cL_stepMove 3 = .ok (.invokevirtual 72, 3) := by decide +kernel
theorem dL_stepMove_6 : decode cL_stepMove 6 = .ok (.i2l, 1) := by decide +kernel
theorem dL_stepMove_7 : decode cL_stepMove 7 = .ok (.lastore, 1) := by decide +kernel
theorem dL_stepMove_8 : decode cL_stepMove 8 = .ok (.goto 6, 3) := by decide +kernel
theorem dL_stepMove_11 : decode cL_stepMove 11 = .ok (.astore_n 2, 1) := by decide +kernel
theorem dL_stepMove_12 : decode cL_stepMove 12 = .ok (.iconst 1, 1) := by decide +kernel
theorem dL_stepMove_13 : decode cL_stepMove 13 = .ok (.ireturn, 1) := by decide +kernel
theorem dL_stepMove_14 : decode cL_stepMove 14 = .ok (.iconst 0, 1) := by decide +kernel
theorem dL_stepMove_15 : decode cL_stepMove 15 = .ok (.ireturn, 1) := by decide +kernel
theorem dL_giveUpMove_0 : decode cL_giveUpMove 0 = .ok (.aload_n 1, 1) := by decide +kernel
theorem dL_giveUpMove_1 : decode cL_giveUpMove 1 = .ok (.iconst 0, 1) := by decide +kernel
theorem dL_giveUpMove_2 : decode cL_giveUpMove 2 = .ok (.aload_n 0, 1) := by decide +kernel
theorem dL_giveUpMove_3 : decode cL_giveUpMove 3 = .ok (.invokevirtual 76, 3) := by decide +kernel
theorem dL_giveUpMove_6 : decode cL_giveUpMove 6 = .ok (.i2l, 1) := by decide +kernel
theorem dL_giveUpMove_7 : decode cL_giveUpMove 7 = .ok (.lastore, 1) := by decide +kernel
theorem dL_giveUpMove_8 : decode cL_giveUpMove 8 = .ok (.goto 6, 3) := by decide +kernel
theorem dL_giveUpMove_11 : decode cL_giveUpMove 11 = .ok (.astore_n 2, 1) := by decide +kernel
theorem dL_giveUpMove_12 : decode cL_giveUpMove 12 = .ok (.iconst 1, 1) := by decide +kernel
theorem dL_giveUpMove_13 : decode cL_giveUpMove 13 = .ok (.ireturn, 1) := by decide +kernel
theorem dL_giveUpMove_14 : decode cL_giveUpMove 14 = .ok (.iconst 0, 1) := by decide +kernel
theorem dL_giveUpMove_15 : decode cL_giveUpMove 15 = .ok (.ireturn, 1) := by decide +kernel
theorem dL_isFrozen_0 : decode cL_isFrozen 0 = .ok (.aload_n 3, 1) := by decide +kernel
theorem dL_isFrozen_1 : decode cL_isFrozen 1 = .ok (.iconst 0, 1) := by decide +kernel
theorem dL_isFrozen_2 : decode cL_isFrozen 2 = .ok (.aload_n 0, 1) := by decide +kernel
theorem dL_isFrozen_3 : decode cL_isFrozen 3 = .ok (.iload_n 1, 1) := by decide +kernel
theorem dL_isFrozen_4 : decode cL_isFrozen 4 = .ok (.iload_n 2, 1) := by decide +kernel
theorem dL_isFrozen_5 : decode cL_isFrozen 5 = .ok (.invokevirtual 79, 3) := by decide +kernel
theorem dL_isFrozen_8 : decode cL_isFrozen 8 = .ok (.ifCond .eq 7, 3) := by decide +kernel
theorem dL_isFrozen_11 : decode cL_isFrozen 11 = .ok (.lconst 1, 1) := by decide +kernel
theorem dL_isFrozen_12 : decode cL_isFrozen 12 = .ok (.goto 4, 3) := by decide +kernel
theorem dL_isFrozen_15 : decode cL_isFrozen 15 = .ok (.lconst 0, 1) := by decide +kernel
theorem dL_isFrozen_16 : decode cL_isFrozen 16 = .ok (.lastore, 1) := by decide +kernel
theorem dL_isFrozen_17 : decode cL_isFrozen 17 = .ok (.goto 11, 3) := by decide +kernel
theorem dL_isFrozen_20 : decode cL_isFrozen 20 = .ok (.astore 4, 2) := by decide +kernel
theorem dL_isFrozen_22 : decode cL_isFrozen 22 = .ok (.iconst 1, 1) := by decide +kernel
theorem dL_isFrozen_23 : decode cL_isFrozen 23 = .ok (.ireturn, 1) := by decide +kernel
theorem dL_isFrozen_24 : decode cL_isFrozen 24 = .ok (.astore 4, 2) := by decide +kernel
theorem dL_isFrozen_26 : decode cL_isFrozen 26 = .ok (.iconst 2, 1) := by decide +kernel
theorem dL_isFrozen_27 : decode cL_isFrozen 27 = .ok (.ireturn, 1) := by decide +kernel
theorem dL_isFrozen_28 : decode cL_isFrozen 28 = .ok (.iconst 0, 1) := by decide +kernel
theorem dL_isFrozen_29 : decode cL_isFrozen 29 = .ok (.ireturn, 1) := by decide +kernel
theorem dL_balance_0 : decode cL_balance 0 = .ok (.aload_n 1, 1) := by decide +kernel
theorem dL_balance_1 : decode cL_balance 1 = .ok (.iconst 0, 1) := by decide +kernel
theorem dL_balance_2 : decode cL_balance 2 = .ok (.aload_n 0, 1) := by decide +kernel
theorem dL_balance_3 : decode cL_balance 3 = .ok (.invokevirtual 83, 3) := by decide +kernel
theorem dL_balance_6 : decode cL_balance 6 = .ok (.i2l, 1) := by decide +kernel
theorem dL_balance_7 : decode cL_balance 7 = .ok (.lastore, 1) := by decide +kernel
theorem dL_balance_8 : decode cL_balance 8 = .ok (.goto 6, 3) := by decide +kernel
theorem dL_balance_11 : decode cL_balance 11 = .ok (.astore_n 2, 1) := by decide +kernel
theorem dL_balance_12 : decode cL_balance 12 = .ok (.iconst 1, 1) := by decide +kernel
theorem dL_balance_13 : decode cL_balance 13 = .ok (.ireturn, 1) := by decide +kernel
theorem dL_balance_14 : decode cL_balance 14 = .ok (.iconst 0, 1) := by decide +kernel
theorem dL_balance_15 : decode cL_balance 15 = .ok (.ireturn, 1) := by decide +kernel
theorem dL_links_0 : decode cL_links 0 = .ok (.aload_n 2, 1) := by decide +kernel
theorem dL_links_1 : decode cL_links 1 = .ok (.iconst 0, 1) := by decide +kernel
theorem dL_links_2 : decode cL_links 2 = .ok (.aload_n 0, 1) := by decide +kernel
theorem dL_links_3 : decode cL_links 3 = .ok (.iload_n 1, 1) := by decide +kernel
theorem dL_links_4 : decode cL_links 4 = .ok (.invokevirtual 86, 3) := by decide +kernel
theorem dL_links_7 : decode cL_links 7 = .ok (.i2l, 1) := by decide +kernel
theorem dL_links_8 : decode cL_links 8 = .ok (.lastore, 1) := by decide +kernel
theorem dL_links_9 : decode cL_links 9 = .ok (.goto 6, 3) := by decide +kernel
theorem dL_links_12 : decode cL_links 12 = .ok (.astore_n 3, 1) := by decide +kernel
theorem dL_links_13 : decode cL_links 13 = .ok (.iconst 1, 1) := by decide +kernel
theorem dL_links_14 : decode cL_links 14 = .ok (.ireturn, 1) := by decide +kernel
theorem dL_links_15 : decode cL_links 15 = .ok (.iconst 0, 1) := by decide +kernel
theorem dL_links_16 : decode cL_links 16 = .ok (.ireturn, 1) := by decide +kernel
theorem dL_anchor_0 : decode cL_anchor 0 = .ok (.aload_n 2, 1) := by decide +kernel
theorem dL_anchor_1 : decode cL_anchor 1 = .ok (.iconst 0, 1) := by decide +kernel
theorem dL_anchor_2 : decode cL_anchor 2 = .ok (.aload_n 0, 1) := by decide +kernel
theorem dL_anchor_3 : decode cL_anchor 3 = .ok (.iload_n 1, 1) := by decide +kernel
theorem dL_anchor_4 : decode cL_anchor 4 = .ok (.invokevirtual 89, 3) := by decide +kernel
theorem dL_anchor_7 : decode cL_anchor 7 = .ok (.i2l, 1) := by decide +kernel
theorem dL_anchor_8 : decode cL_anchor 8 = .ok (.lastore, 1) := by decide +kernel
theorem dL_anchor_9 : decode cL_anchor 9 = .ok (.goto 6, 3) := by decide +kernel
theorem dL_anchor_12 : decode cL_anchor 12 = .ok (.astore_n 3, 1) := by decide +kernel
theorem dL_anchor_13 : decode cL_anchor 13 = .ok (.iconst 1, 1) := by decide +kernel
theorem dL_anchor_14 : decode cL_anchor 14 = .ok (.ireturn, 1) := by decide +kernel
theorem dL_anchor_15 : decode cL_anchor 15 = .ok (.iconst 0, 1) := by decide +kernel
theorem dL_anchor_16 : decode cL_anchor 16 = .ok (.ireturn, 1) := by decide +kernel
theorem dL_byTree_0 : decode cL_byTree 0 = .ok (.aload_n 3, 1) := by decide +kernel
theorem dL_byTree_1 : decode cL_byTree 1 = .ok (.iconst 0, 1) := by decide +kernel
theorem dL_byTree_2 : decode cL_byTree 2 = .ok (.aload_n 0, 1) := by decide +kernel
theorem dL_byTree_3 : decode cL_byTree 3 = .ok (.iload_n 1, 1) := by decide +kernel
theorem dL_byTree_4 : decode cL_byTree 4 = .ok (.iload_n 2, 1) := by decide +kernel
theorem dL_byTree_5 : decode cL_byTree 5 = .ok (.invokevirtual 92, 3) := by decide +kernel
theorem dL_byTree_8 : decode cL_byTree 8 = .ok (.i2l, 1) := by decide +kernel
theorem dL_byTree_9 : decode cL_byTree 9 = .ok (.lastore, 1) := by decide +kernel
theorem dL_byTree_10 : decode cL_byTree 10 = .ok (.goto 11, 3) := by decide +kernel
theorem dL_byTree_13 : decode cL_byTree 13 = .ok (.astore 4, 2) := by decide +kernel
theorem dL_byTree_15 : decode cL_byTree 15 = .ok (.iconst 1, 1) := by decide +kernel
theorem dL_byTree_16 : decode cL_byTree 16 = .ok (.ireturn, 1) := by decide +kernel
theorem dL_byTree_17 : decode cL_byTree 17 = .ok (.astore 4, 2) := by decide +kernel
theorem dL_byTree_19 : decode cL_byTree 19 = .ok (.iconst 2, 1) := by decide +kernel
theorem dL_byTree_20 : decode cL_byTree 20 = .ok (.ireturn, 1) := by decide +kernel
theorem dL_byTree_21 : decode cL_byTree 21 = .ok (.iconst 0, 1) := by decide +kernel
theorem dL_byTree_22 : decode cL_byTree 22 = .ok (.ireturn, 1) := by decide +kernel
theorem dL_size_0 : decode cL_size 0 = .ok (.aload_n 2, 1) := by decide +kernel
theorem dL_size_1 : decode cL_size 1 = .ok (.iconst 0, 1) := by decide +kernel
theorem dL_size_2 : decode cL_size 2 = .ok (.aload_n 0, 1) := by decide +kernel
theorem dL_size_3 : decode cL_size 3 = .ok (.iload_n 1, 1) := by decide +kernel
theorem dL_size_4 : decode cL_size 4 = .ok (.invokevirtual 95, 3) := by decide +kernel
theorem dL_size_7 : decode cL_size 7 = .ok (.i2l, 1) := by decide +kernel
theorem dL_size_8 : decode cL_size 8 = .ok (.lastore, 1) := by decide +kernel
theorem dL_size_9 : decode cL_size 9 = .ok (.goto 6, 3) := by decide +kernel
theorem dL_size_12 : decode cL_size 12 = .ok (.astore_n 3, 1) := by decide +kernel
theorem dL_size_13 : decode cL_size 13 = .ok (.iconst 1, 1) := by decide +kernel
theorem dL_size_14 : decode cL_size 14 = .ok (.ireturn, 1) := by decide +kernel
theorem dL_size_15 : decode cL_size 15 = .ok (.iconst 0, 1) := by decide +kernel
theorem dL_size_16 : decode cL_size 16 = .ok (.ireturn, 1) := by decide +kernel
theorem dL_law_0 : decode cL_law 0 = .ok (.new 8, 3) := by decide +kernel
theorem dL_law_3 : decode cL_law 3 = .ok (.dup, 1) := by decide +kernel
theorem dL_law_4 : decode cL_law 4 = .ok (.invokespecial 98, 3) := by decide +kernel
theorem dL_law_7 : decode cL_law 7 = .ok (.astore_n 1, 1) := by decide +kernel
theorem dL_law_8 : decode cL_law 8 = .ok (.new 99, 3) := by decide +kernel
theorem dL_law_11 : decode cL_law 11 = .ok (.dup, 1) := by decide +kernel
theorem dL_law_12 : decode cL_law 12 = .ok (.invokespecial 101, 3) := by decide +kernel
theorem dL_law_15 : decode cL_law 15 = .ok (.astore_n 2, 1) := by decide +kernel
theorem dL_law_16 : decode cL_law 16 = .ok (.iconst 1, 1) := by decide +kernel
theorem dL_law_17 : decode cL_law 17 = .ok (.newarray .long, 2) := by decide +kernel
theorem dL_law_19 : decode cL_law 19 = .ok (.astore_n 3, 1) := by decide +kernel
theorem dL_law_20 : decode cL_law 20 = .ok (.iconst 0, 1) := by decide +kernel
theorem dL_law_21 : decode cL_law 21 = .ok (.istore 4, 2) := by decide +kernel
theorem dL_law_23 : decode cL_law 23 = .ok (.iload 4, 2) := by decide +kernel
theorem dL_law_25 : decode cL_law 25 = .ok (.aload_n 0, 1) := by decide +kernel
theorem dL_law_26 : decode cL_law 26 = .ok (.arraylength, 1) := by decide +kernel
theorem dL_law_27 : decode cL_law 27 = .ok (.bipush 6, 2) := by decide +kernel
theorem dL_law_29 : decode cL_law 29 = .ok (.isub, 1) := by decide +kernel
theorem dL_law_30 : decode cL_law 30 = .ok (.if_icmp .gt 1739, 3) := by decide +kernel
theorem dL_law_33 : decode cL_law 33 = .ok (.aload_n 0, 1) := by decide +kernel
theorem dL_law_34 : decode cL_law 34 = .ok (.iload 4, 2) := by decide +kernel
theorem dL_law_36 : decode cL_law 36 = .ok (.iaload, 1) := by decide +kernel
theorem dL_law_37 : decode cL_law 37 = .ok (.bipush 31, 2) := by decide +kernel
theorem dL_law_39 : decode cL_law 39 = .ok (.iand, 1) := by decide +kernel
theorem dL_law_40 : decode cL_law 40 = .ok (.tableswitch 1723 0 24 #[116, 196, 276, 356, 448, 528, 612, 668, 724, 780, 836, 904, 972, 1028, 1096, 1164, 1220, 1280, 1324, 1368, 1443, 1487, 1543, 1599, 1667], 116) := by decide +kernel
theorem dL_law_156 : decode cL_law 156 = .ok (.aload_n 1, 1) := by decide +kernel
theorem dL_law_157 : decode cL_law 157 = .ok (.aload_n 0, 1) := by decide +kernel
theorem dL_law_158 : decode cL_law 158 = .ok (.iload 4, 2) := by decide +kernel
theorem dL_law_160 : decode cL_law 160 = .ok (.iconst 1, 1) := by decide +kernel
theorem dL_law_161 : decode cL_law 161 = .ok (.iadd, 1) := by decide +kernel
theorem dL_law_162 : decode cL_law 162 = .ok (.iaload, 1) := by decide +kernel
theorem dL_law_163 : decode cL_law 163 = .ok (.aload_n 0, 1) := by decide +kernel
theorem dL_law_164 : decode cL_law 164 = .ok (.iload 4, 2) := by decide +kernel
theorem dL_law_166 : decode cL_law 166 = .ok (.iconst 2, 1) := by decide +kernel
theorem dL_law_167 : decode cL_law 167 = .ok (.iadd, 1) := by decide +kernel
theorem dL_law_168 : decode cL_law 168 = .ok (.iaload, 1) := by decide +kernel
theorem dL_law_169 : decode cL_law 169 = .ok (.aload_n 0, 1) := by decide +kernel
theorem dL_law_170 : decode cL_law 170 = .ok (.iload 4, 2) := by decide +kernel
theorem dL_law_172 : decode cL_law 172 = .ok (.iconst 3, 1) := by decide +kernel
theorem dL_law_173 : decode cL_law 173 = .ok (.iadd, 1) := by decide +kernel
theorem dL_law_174 : decode cL_law 174 = .ok (.iaload, 1) := by decide +kernel
theorem dL_law_175 : decode cL_law 175 = .ok (.aload_n 3, 1) := by decide +kernel
theorem dL_law_176 : decode cL_law 176 = .ok (.invokestatic 102, 3) := by decide +kernel
theorem dL_law_179 : decode cL_law 179 = .ok (.istore 5, 2) := by decide +kernel
theorem dL_law_181 : decode cL_law 181 = .ok (.aload_n 2, 1) := by decide +kernel
theorem dL_law_182 : decode cL_law 182 = .ok (.aload_n 0, 1) := by decide +kernel
theorem dL_law_183 : decode cL_law 183 = .ok (.iload 4, 2) := by decide +kernel
theorem dL_law_185 : decode cL_law 185 = .ok (.iconst 1, 1) := by decide +kernel
theorem dL_law_186 : decode cL_law 186 = .ok (.iadd, 1) := by decide +kernel
theorem dL_law_187 : decode cL_law 187 = .ok (.iaload, 1) := by decide +kernel
theorem dL_law_188 : decode cL_law 188 = .ok (.aload_n 0, 1) := by decide +kernel
theorem dL_law_189 : decode cL_law 189 = .ok (.iload 4, 2) := by decide +kernel
theorem dL_law_191 : decode cL_law 191 = .ok (.iconst 2, 1) := by decide +kernel
theorem dL_law_192 : decode cL_law 192 = .ok (.iadd, 1) := by decide +kernel
theorem dL_law_193 : decode cL_law 193 = .ok (.iaload, 1) := by decide +kernel
theorem dL_law_194 : decode cL_law 194 = .ok (.aload_n 0, 1) := by decide +kernel
theorem dL_law_195 : decode cL_law 195 = .ok (.iload 4, 2) := by decide +kernel
theorem dL_law_197 : decode cL_law 197 = .ok (.iconst 3, 1) := by decide +kernel
theorem dL_law_198 : decode cL_law 198 = .ok (.iadd, 1) := by decide +kernel
theorem dL_law_199 : decode cL_law 199 = .ok (.iaload, 1) := by decide +kernel
theorem dL_law_200 : decode cL_law 200 = .ok (.invokevirtual 107, 3) := by decide +kernel
theorem dL_law_203 : decode cL_law 203 = .ok (.istore 6, 2) := by decide +kernel
theorem dL_law_205 : decode cL_law 205 = .ok (.aload_n 2, 1) := by decide +kernel
theorem dL_law_206 : decode cL_law 206 = .ok (.invokevirtual 108, 3) := by decide +kernel
theorem dL_law_209 : decode cL_law 209 = .ok (.iload 5, 2) := by decide +kernel
theorem dL_law_211 : decode cL_law 211 = .ok (.if_icmp .eq 5, 3) := by decide +kernel
theorem dL_law_214 : decode cL_law 214 = .ok (.iconst 0, 1) := by decide +kernel
theorem dL_law_215 : decode cL_law 215 = .ok (.ireturn, 1) := by decide +kernel
theorem dL_law_216 : decode cL_law 216 = .ok (.iload 5, 2) := by decide +kernel
theorem dL_law_218 : decode cL_law 218 = .ok (.ifCond .ne 15, 3) := by decide +kernel
theorem dL_law_221 : decode cL_law 221 = .ok (.aload_n 3, 1) := by decide +kernel
theorem dL_law_222 : decode cL_law 222 = .ok (.iconst 0, 1) := by decide +kernel
theorem dL_law_223 : decode cL_law 223 = .ok (.laload, 1) := by decide +kernel
theorem dL_law_224 : decode cL_law 224 = .ok (.iload 6, 2) := by decide +kernel
theorem dL_law_226 : decode cL_law 226 = .ok (.i2l, 1) := by decide +kernel
theorem dL_law_227 : decode cL_law 227 = .ok (.lcmp, 1) := by decide +kernel
theorem dL_law_228 : decode cL_law 228 = .ok (.ifCond .eq 5, 3) := by decide +kernel
theorem dL_law_231 : decode cL_law 231 = .ok (.iconst 0, 1) := by decide +kernel
theorem dL_law_232 : decode cL_law 232 = .ok (.ireturn, 1) := by decide +kernel
theorem dL_law_233 : decode cL_law 233 = .ok (.goto 1530, 3) := by decide +kernel
theorem dL_law_236 : decode cL_law 236 = .ok (.aload_n 1, 1) := by decide +kernel
theorem dL_law_237 : decode cL_law 237 = .ok (.aload_n 0, 1) := by decide +kernel
theorem dL_law_238 : decode cL_law 238 = .ok (.iload 4, 2) := by decide +kernel
theorem dL_law_240 : decode cL_law 240 = .ok (.iconst 1, 1) := by decide +kernel
theorem dL_law_241 : decode cL_law 241 = .ok (.iadd, 1) := by decide +kernel
theorem dL_law_242 : decode cL_law 242 = .ok (.iaload, 1) := by decide +kernel
theorem dL_law_243 : decode cL_law 243 = .ok (.aload_n 0, 1) := by decide +kernel
theorem dL_law_244 : decode cL_law 244 = .ok (.iload 4, 2) := by decide +kernel
theorem dL_law_246 : decode cL_law 246 = .ok (.iconst 2, 1) := by decide +kernel
theorem dL_law_247 : decode cL_law 247 = .ok (.iadd, 1) := by decide +kernel
theorem dL_law_248 : decode cL_law 248 = .ok (.iaload, 1) := by decide +kernel
theorem dL_law_249 : decode cL_law 249 = .ok (.aload_n 0, 1) := by decide +kernel
theorem dL_law_250 : decode cL_law 250 = .ok (.iload 4, 2) := by decide +kernel
theorem dL_law_252 : decode cL_law 252 = .ok (.iconst 3, 1) := by decide +kernel
theorem dL_law_253 : decode cL_law 253 = .ok (.iadd, 1) := by decide +kernel
theorem dL_law_254 : decode cL_law 254 = .ok (.iaload, 1) := by decide +kernel
theorem dL_law_255 : decode cL_law 255 = .ok (.aload_n 3, 1) := by decide +kernel
theorem dL_law_256 : decode cL_law 256 = .ok (.invokestatic 111, 3) := by decide +kernel
theorem dL_law_259 : decode cL_law 259 = .ok (.istore 5, 2) := by decide +kernel
theorem dL_law_261 : decode cL_law 261 = .ok (.aload_n 2, 1) := by decide +kernel
theorem dL_law_262 : decode cL_law 262 = .ok (.aload_n 0, 1) := by decide +kernel
theorem dL_law_263 : decode cL_law 263 = .ok (.iload 4, 2) := by decide +kernel
theorem dL_law_265 : decode cL_law 265 = .ok (.iconst 1, 1) := by decide +kernel
theorem dL_law_266 : decode cL_law 266 = .ok (.iadd, 1) := by decide +kernel
theorem dL_law_267 : decode cL_law 267 = .ok (.iaload, 1) := by decide +kernel
theorem dL_law_268 : decode cL_law 268 = .ok (.aload_n 0, 1) := by decide +kernel
theorem dL_law_269 : decode cL_law 269 = .ok (.iload 4, 2) := by decide +kernel
theorem dL_law_271 : decode cL_law 271 = .ok (.iconst 2, 1) := by decide +kernel
theorem dL_law_272 : decode cL_law 272 = .ok (.iadd, 1) := by decide +kernel
theorem dL_law_273 : decode cL_law 273 = .ok (.iaload, 1) := by decide +kernel
theorem dL_law_274 : decode cL_law 274 = .ok (.aload_n 0, 1) := by decide +kernel
theorem dL_law_275 : decode cL_law 275 = .ok (.iload 4, 2) := by decide +kernel
theorem dL_law_277 : decode cL_law 277 = .ok (.iconst 3, 1) := by decide +kernel
theorem dL_law_278 : decode cL_law 278 = .ok (.iadd, 1) := by decide +kernel
theorem dL_law_279 : decode cL_law 279 = .ok (.iaload, 1) := by decide +kernel
theorem dL_law_280 : decode cL_law 280 = .ok (.invokevirtual 113, 3) := by decide +kernel
theorem dL_law_283 : decode cL_law 283 = .ok (.istore 6, 2) := by decide +kernel
theorem dL_law_285 : decode cL_law 285 = .ok (.aload_n 2, 1) := by decide +kernel
theorem dL_law_286 : decode cL_law 286 = .ok (.invokevirtual 108, 3) := by decide +kernel
theorem dL_law_289 : decode cL_law 289 = .ok (.iload 5, 2) := by decide +kernel
theorem dL_law_291 : decode cL_law 291 = .ok (.if_icmp .eq 5, 3) := by decide +kernel
theorem dL_law_294 : decode cL_law 294 = .ok (.iconst 0, 1) := by decide +kernel
theorem dL_law_295 : decode cL_law 295 = .ok (.ireturn, 1) := by decide +kernel
theorem dL_law_296 : decode cL_law 296 = .ok (.iload 5, 2) := by decide +kernel
theorem dL_law_298 : decode cL_law 298 = .ok (.ifCond .ne 15, 3) := by decide +kernel
theorem dL_law_301 : decode cL_law 301 = .ok (.aload_n 3, 1) := by decide +kernel
theorem dL_law_302 : decode cL_law 302 = .ok (.iconst 0, 1) := by decide +kernel
theorem dL_law_303 : decode cL_law 303 = .ok (.laload, 1) := by decide +kernel
theorem dL_law_304 : decode cL_law 304 = .ok (.iload 6, 2) := by decide +kernel
theorem dL_law_306 : decode cL_law 306 = .ok (.i2l, 1) := by decide +kernel
theorem dL_law_307 : decode cL_law 307 = .ok (.lcmp, 1) := by decide +kernel
theorem dL_law_308 : decode cL_law 308 = .ok (.ifCond .eq 5, 3) := by decide +kernel
theorem dL_law_311 : decode cL_law 311 = .ok (.iconst 0, 1) := by decide +kernel
theorem dL_law_312 : decode cL_law 312 = .ok (.ireturn, 1) := by decide +kernel
theorem dL_law_313 : decode cL_law 313 = .ok (.goto 1450, 3) := by decide +kernel
theorem dL_law_316 : decode cL_law 316 = .ok (.aload_n 1, 1) := by decide +kernel
theorem dL_law_317 : decode cL_law 317 = .ok (.aload_n 0, 1) := by decide +kernel
theorem dL_law_318 : decode cL_law 318 = .ok (.iload 4, 2) := by decide +kernel
theorem dL_law_320 : decode cL_law 320 = .ok (.iconst 1, 1) := by decide +kernel
theorem dL_law_321 : decode cL_law 321 = .ok (.iadd, 1) := by decide +kernel
theorem dL_law_322 : decode cL_law 322 = .ok (.iaload, 1) := by decide +kernel
theorem dL_law_323 : decode cL_law 323 = .ok (.aload_n 0, 1) := by decide +kernel
theorem dL_law_324 : decode cL_law 324 = .ok (.iload 4, 2) := by decide +kernel
theorem dL_law_326 : decode cL_law 326 = .ok (.iconst 2, 1) := by decide +kernel
theorem dL_law_327 : decode cL_law 327 = .ok (.iadd, 1) := by decide +kernel
theorem dL_law_328 : decode cL_law 328 = .ok (.iaload, 1) := by decide +kernel
theorem dL_law_329 : decode cL_law 329 = .ok (.aload_n 0, 1) := by decide +kernel
theorem dL_law_330 : decode cL_law 330 = .ok (.iload 4, 2) := by decide +kernel
theorem dL_law_332 : decode cL_law 332 = .ok (.iconst 3, 1) := by decide +kernel
theorem dL_law_333 : decode cL_law 333 = .ok (.iadd, 1) := by decide +kernel
theorem dL_law_334 : decode cL_law 334 = .ok (.iaload, 1) := by decide +kernel
theorem dL_law_335 : decode cL_law 335 = .ok (.aload_n 3, 1) := by decide +kernel
theorem dL_law_336 : decode cL_law 336 = .ok (.invokestatic 114, 3) := by decide +kernel
theorem dL_law_339 : decode cL_law 339 = .ok (.istore 5, 2) := by decide +kernel
theorem dL_law_341 : decode cL_law 341 = .ok (.aload_n 2, 1) := by decide +kernel
theorem dL_law_342 : decode cL_law 342 = .ok (.aload_n 0, 1) := by decide +kernel
theorem dL_law_343 : decode cL_law 343 = .ok (.iload 4, 2) := by decide +kernel
theorem dL_law_345 : decode cL_law 345 = .ok (.iconst 1, 1) := by decide +kernel
theorem dL_law_346 : decode cL_law 346 = .ok (.iadd, 1) := by decide +kernel
theorem dL_law_347 : decode cL_law 347 = .ok (.iaload, 1) := by decide +kernel
theorem dL_law_348 : decode cL_law 348 = .ok (.aload_n 0, 1) := by decide +kernel
theorem dL_law_349 : decode cL_law 349 = .ok (.iload 4, 2) := by decide +kernel
theorem dL_law_351 : decode cL_law 351 = .ok (.iconst 2, 1) := by decide +kernel
theorem dL_law_352 : decode cL_law 352 = .ok (.iadd, 1) := by decide +kernel
theorem dL_law_353 : decode cL_law 353 = .ok (.iaload, 1) := by decide +kernel
theorem dL_law_354 : decode cL_law 354 = .ok (.aload_n 0, 1) := by decide +kernel
theorem dL_law_355 : decode cL_law 355 = .ok (.iload 4, 2) := by decide +kernel
theorem dL_law_357 : decode cL_law 357 = .ok (.iconst 3, 1) := by decide +kernel
theorem dL_law_358 : decode cL_law 358 = .ok (.iadd, 1) := by decide +kernel
theorem dL_law_359 : decode cL_law 359 = .ok (.iaload, 1) := by decide +kernel
theorem dL_law_360 : decode cL_law 360 = .ok (.invokevirtual 116, 3) := by decide +kernel
theorem dL_law_363 : decode cL_law 363 = .ok (.istore 6, 2) := by decide +kernel
theorem dL_law_365 : decode cL_law 365 = .ok (.aload_n 2, 1) := by decide +kernel
theorem dL_law_366 : decode cL_law 366 = .ok (.invokevirtual 108, 3) := by decide +kernel
theorem dL_law_369 : decode cL_law 369 = .ok (.iload 5, 2) := by decide +kernel
theorem dL_law_371 : decode cL_law 371 = .ok (.if_icmp .eq 5, 3) := by decide +kernel
theorem dL_law_374 : decode cL_law 374 = .ok (.iconst 0, 1) := by decide +kernel
theorem dL_law_375 : decode cL_law 375 = .ok (.ireturn, 1) := by decide +kernel
theorem dL_law_376 : decode cL_law 376 = .ok (.iload 5, 2) := by decide +kernel
theorem dL_law_378 : decode cL_law 378 = .ok (.ifCond .ne 15, 3) := by decide +kernel
theorem dL_law_381 : decode cL_law 381 = .ok (.aload_n 3, 1) := by decide +kernel
theorem dL_law_382 : decode cL_law 382 = .ok (.iconst 0, 1) := by decide +kernel
theorem dL_law_383 : decode cL_law 383 = .ok (.laload, 1) := by decide +kernel
theorem dL_law_384 : decode cL_law 384 = .ok (.iload 6, 2) := by decide +kernel
theorem dL_law_386 : decode cL_law 386 = .ok (.i2l, 1) := by decide +kernel
theorem dL_law_387 : decode cL_law 387 = .ok (.lcmp, 1) := by decide +kernel
theorem dL_law_388 : decode cL_law 388 = .ok (.ifCond .eq 5, 3) := by decide +kernel
theorem dL_law_391 : decode cL_law 391 = .ok (.iconst 0, 1) := by decide +kernel
theorem dL_law_392 : decode cL_law 392 = .ok (.ireturn, 1) := by decide +kernel
theorem dL_law_393 : decode cL_law 393 = .ok (.goto 1370, 3) := by decide +kernel
theorem dL_law_396 : decode cL_law 396 = .ok (.aload_n 1, 1) := by decide +kernel
theorem dL_law_397 : decode cL_law 397 = .ok (.aload_n 0, 1) := by decide +kernel
theorem dL_law_398 : decode cL_law 398 = .ok (.iload 4, 2) := by decide +kernel
theorem dL_law_400 : decode cL_law 400 = .ok (.iconst 1, 1) := by decide +kernel
theorem dL_law_401 : decode cL_law 401 = .ok (.iadd, 1) := by decide +kernel
theorem dL_law_402 : decode cL_law 402 = .ok (.iaload, 1) := by decide +kernel
theorem dL_law_403 : decode cL_law 403 = .ok (.aload_n 0, 1) := by decide +kernel
theorem dL_law_404 : decode cL_law 404 = .ok (.iload 4, 2) := by decide +kernel
theorem dL_law_406 : decode cL_law 406 = .ok (.iconst 2, 1) := by decide +kernel
theorem dL_law_407 : decode cL_law 407 = .ok (.iadd, 1) := by decide +kernel
theorem dL_law_408 : decode cL_law 408 = .ok (.iaload, 1) := by decide +kernel
theorem dL_law_409 : decode cL_law 409 = .ok (.aload_n 0, 1) := by decide +kernel
theorem dL_law_410 : decode cL_law 410 = .ok (.iload 4, 2) := by decide +kernel
theorem dL_law_412 : decode cL_law 412 = .ok (.iconst 3, 1) := by decide +kernel
theorem dL_law_413 : decode cL_law 413 = .ok (.iadd, 1) := by decide +kernel
theorem dL_law_414 : decode cL_law 414 = .ok (.iaload, 1) := by decide +kernel
theorem dL_law_415 : decode cL_law 415 = .ok (.aload_n 0, 1) := by decide +kernel
theorem dL_law_416 : decode cL_law 416 = .ok (.iload 4, 2) := by decide +kernel
theorem dL_law_418 : decode cL_law 418 = .ok (.iconst 4, 1) := by decide +kernel
theorem dL_law_419 : decode cL_law 419 = .ok (.iadd, 1) := by decide +kernel
theorem dL_law_420 : decode cL_law 420 = .ok (.iaload, 1) := by decide +kernel
theorem dL_law_421 : decode cL_law 421 = .ok (.aload_n 3, 1) := by decide +kernel
theorem dL_law_422 : decode cL_law 422 = .ok (.invokestatic 117, 3) := by decide +kernel
theorem dL_law_425 : decode cL_law 425 = .ok (.istore 5, 2) := by decide +kernel
theorem dL_law_427 : decode cL_law 427 = .ok (.aload_n 2, 1) := by decide +kernel
theorem dL_law_428 : decode cL_law 428 = .ok (.aload_n 0, 1) := by decide +kernel
theorem dL_law_429 : decode cL_law 429 = .ok (.iload 4, 2) := by decide +kernel
theorem dL_law_431 : decode cL_law 431 = .ok (.iconst 1, 1) := by decide +kernel
theorem dL_law_432 : decode cL_law 432 = .ok (.iadd, 1) := by decide +kernel
theorem dL_law_433 : decode cL_law 433 = .ok (.iaload, 1) := by decide +kernel
theorem dL_law_434 : decode cL_law 434 = .ok (.aload_n 0, 1) := by decide +kernel
theorem dL_law_435 : decode cL_law 435 = .ok (.iload 4, 2) := by decide +kernel
theorem dL_law_437 : decode cL_law 437 = .ok (.iconst 2, 1) := by decide +kernel
theorem dL_law_438 : decode cL_law 438 = .ok (.iadd, 1) := by decide +kernel
theorem dL_law_439 : decode cL_law 439 = .ok (.iaload, 1) := by decide +kernel
theorem dL_law_440 : decode cL_law 440 = .ok (.aload_n 0, 1) := by decide +kernel
theorem dL_law_441 : decode cL_law 441 = .ok (.iload 4, 2) := by decide +kernel
theorem dL_law_443 : decode cL_law 443 = .ok (.iconst 3, 1) := by decide +kernel
theorem dL_law_444 : decode cL_law 444 = .ok (.iadd, 1) := by decide +kernel
theorem dL_law_445 : decode cL_law 445 = .ok (.iaload, 1) := by decide +kernel
theorem dL_law_446 : decode cL_law 446 = .ok (.aload_n 0, 1) := by decide +kernel
theorem dL_law_447 : decode cL_law 447 = .ok (.iload 4, 2) := by decide +kernel
theorem dL_law_449 : decode cL_law 449 = .ok (.iconst 4, 1) := by decide +kernel
theorem dL_law_450 : decode cL_law 450 = .ok (.iadd, 1) := by decide +kernel
theorem dL_law_451 : decode cL_law 451 = .ok (.iaload, 1) := by decide +kernel
theorem dL_law_452 : decode cL_law 452 = .ok (.invokevirtual 120, 3) := by decide +kernel
theorem dL_law_455 : decode cL_law 455 = .ok (.istore 6, 2) := by decide +kernel
theorem dL_law_457 : decode cL_law 457 = .ok (.aload_n 2, 1) := by decide +kernel
theorem dL_law_458 : decode cL_law 458 = .ok (.invokevirtual 108, 3) := by decide +kernel
theorem dL_law_461 : decode cL_law 461 = .ok (.iload 5, 2) := by decide +kernel
theorem dL_law_463 : decode cL_law 463 = .ok (.if_icmp .eq 5, 3) := by decide +kernel
theorem dL_law_466 : decode cL_law 466 = .ok (.iconst 0, 1) := by decide +kernel
theorem dL_law_467 : decode cL_law 467 = .ok (.ireturn, 1) := by decide +kernel
theorem dL_law_468 : decode cL_law 468 = .ok (.iload 5, 2) := by decide +kernel
theorem dL_law_470 : decode cL_law 470 = .ok (.ifCond .ne 15, 3) := by decide +kernel
theorem dL_law_473 : decode cL_law 473 = .ok (.aload_n 3, 1) := by decide +kernel
theorem dL_law_474 : decode cL_law 474 = .ok (.iconst 0, 1) := by decide +kernel
theorem dL_law_475 : decode cL_law 475 = .ok (.laload, 1) := by decide +kernel
theorem dL_law_476 : decode cL_law 476 = .ok (.iload 6, 2) := by decide +kernel
theorem dL_law_478 : decode cL_law 478 = .ok (.i2l, 1) := by decide +kernel
theorem dL_law_479 : decode cL_law 479 = .ok (.lcmp, 1) := by decide +kernel
theorem dL_law_480 : decode cL_law 480 = .ok (.ifCond .eq 5, 3) := by decide +kernel
theorem dL_law_483 : decode cL_law 483 = .ok (.iconst 0, 1) := by decide +kernel
theorem dL_law_484 : decode cL_law 484 = .ok (.ireturn, 1) := by decide +kernel
theorem dL_law_485 : decode cL_law 485 = .ok (.goto 1278, 3) := by decide +kernel
theorem dL_law_488 : decode cL_law 488 = .ok (.aload_n 1, 1) := by decide +kernel
theorem dL_law_489 : decode cL_law 489 = .ok (.aload_n 0, 1) := by decide +kernel
theorem dL_law_490 : decode cL_law 490 = .ok (.iload 4, 2) := by decide +kernel
theorem dL_law_492 : decode cL_law 492 = .ok (.iconst 1, 1) := by decide +kernel
theorem dL_law_493 : decode cL_law 493 = .ok (.iadd, 1) := by decide +kernel
theorem dL_law_494 : decode cL_law 494 = .ok (.iaload, 1) := by decide +kernel
theorem dL_law_495 : decode cL_law 495 = .ok (.aload_n 0, 1) := by decide +kernel
theorem dL_law_496 : decode cL_law 496 = .ok (.iload 4, 2) := by decide +kernel
theorem dL_law_498 : decode cL_law 498 = .ok (.iconst 2, 1) := by decide +kernel
theorem dL_law_499 : decode cL_law 499 = .ok (.iadd, 1) := by decide +kernel
theorem dL_law_500 : decode cL_law 500 = .ok (.iaload, 1) := by decide +kernel
theorem dL_law_501 : decode cL_law 501 = .ok (.aload_n 0, 1) := by decide +kernel
theorem dL_law_502 : decode cL_law 502 = .ok (.iload 4, 2) := by decide +kernel
theorem dL_law_504 : decode cL_law 504 = .ok (.iconst 3, 1) := by decide +kernel
theorem dL_law_505 : decode cL_law 505 = .ok (.iadd, 1) := by decide +kernel
theorem dL_law_506 : decode cL_law 506 = .ok (.iaload, 1) := by decide +kernel
theorem dL_law_507 : decode cL_law 507 = .ok (.aload_n 3, 1) := by decide +kernel
theorem dL_law_508 : decode cL_law 508 = .ok (.invokestatic 121, 3) := by decide +kernel
theorem dL_law_511 : decode cL_law 511 = .ok (.istore 5, 2) := by decide +kernel
theorem dL_law_513 : decode cL_law 513 = .ok (.aload_n 2, 1) := by decide +kernel
theorem dL_law_514 : decode cL_law 514 = .ok (.aload_n 0, 1) := by decide +kernel
theorem dL_law_515 : decode cL_law 515 = .ok (.iload 4, 2) := by decide +kernel
theorem dL_law_517 : decode cL_law 517 = .ok (.iconst 1, 1) := by decide +kernel
theorem dL_law_518 : decode cL_law 518 = .ok (.iadd, 1) := by decide +kernel
theorem dL_law_519 : decode cL_law 519 = .ok (.iaload, 1) := by decide +kernel
theorem dL_law_520 : decode cL_law 520 = .ok (.aload_n 0, 1) := by decide +kernel
theorem dL_law_521 : decode cL_law 521 = .ok (.iload 4, 2) := by decide +kernel
theorem dL_law_523 : decode cL_law 523 = .ok (.iconst 2, 1) := by decide +kernel
theorem dL_law_524 : decode cL_law 524 = .ok (.iadd, 1) := by decide +kernel
theorem dL_law_525 : decode cL_law 525 = .ok (.iaload, 1) := by decide +kernel
theorem dL_law_526 : decode cL_law 526 = .ok (.aload_n 0, 1) := by decide +kernel
theorem dL_law_527 : decode cL_law 527 = .ok (.iload 4, 2) := by decide +kernel
theorem dL_law_529 : decode cL_law 529 = .ok (.iconst 3, 1) := by decide +kernel
theorem dL_law_530 : decode cL_law 530 = .ok (.iadd, 1) := by decide +kernel
theorem dL_law_531 : decode cL_law 531 = .ok (.iaload, 1) := by decide +kernel
theorem dL_law_532 : decode cL_law 532 = .ok (.invokevirtual 123, 3) := by decide +kernel
theorem dL_law_535 : decode cL_law 535 = .ok (.istore 6, 2) := by decide +kernel
theorem dL_law_537 : decode cL_law 537 = .ok (.aload_n 2, 1) := by decide +kernel
theorem dL_law_538 : decode cL_law 538 = .ok (.invokevirtual 108, 3) := by decide +kernel
theorem dL_law_541 : decode cL_law 541 = .ok (.iload 5, 2) := by decide +kernel
theorem dL_law_543 : decode cL_law 543 = .ok (.if_icmp .eq 5, 3) := by decide +kernel
theorem dL_law_546 : decode cL_law 546 = .ok (.iconst 0, 1) := by decide +kernel
theorem dL_law_547 : decode cL_law 547 = .ok (.ireturn, 1) := by decide +kernel
theorem dL_law_548 : decode cL_law 548 = .ok (.iload 5, 2) := by decide +kernel
theorem dL_law_550 : decode cL_law 550 = .ok (.ifCond .ne 15, 3) := by decide +kernel
theorem dL_law_553 : decode cL_law 553 = .ok (.aload_n 3, 1) := by decide +kernel
theorem dL_law_554 : decode cL_law 554 = .ok (.iconst 0, 1) := by decide +kernel
theorem dL_law_555 : decode cL_law 555 = .ok (.laload, 1) := by decide +kernel
theorem dL_law_556 : decode cL_law 556 = .ok (.iload 6, 2) := by decide +kernel
theorem dL_law_558 : decode cL_law 558 = .ok (.i2l, 1) := by decide +kernel
theorem dL_law_559 : decode cL_law 559 = .ok (.lcmp, 1) := by decide +kernel
theorem dL_law_560 : decode cL_law 560 = .ok (.ifCond .eq 5, 3) := by decide +kernel
theorem dL_law_563 : decode cL_law 563 = .ok (.iconst 0, 1) := by decide +kernel
theorem dL_law_564 : decode cL_law 564 = .ok (.ireturn, 1) := by decide +kernel
theorem dL_law_565 : decode cL_law 565 = .ok (.goto 1198, 3) := by decide +kernel
theorem dL_law_568 : decode cL_law 568 = .ok (.aload_n 1, 1) := by decide +kernel
theorem dL_law_569 : decode cL_law 569 = .ok (.aload_n 0, 1) := by decide +kernel
theorem dL_law_570 : decode cL_law 570 = .ok (.iload 4, 2) := by decide +kernel
theorem dL_law_572 : decode cL_law 572 = .ok (.iconst 1, 1) := by decide +kernel
theorem dL_law_573 : decode cL_law 573 = .ok (.iadd, 1) := by decide +kernel
theorem dL_law_574 : decode cL_law 574 = .ok (.iaload, 1) := by decide +kernel
theorem dL_law_575 : decode cL_law 575 = .ok (.aload_n 0, 1) := by decide +kernel
theorem dL_law_576 : decode cL_law 576 = .ok (.iload 4, 2) := by decide +kernel
theorem dL_law_578 : decode cL_law 578 = .ok (.iconst 2, 1) := by decide +kernel
theorem dL_law_579 : decode cL_law 579 = .ok (.iadd, 1) := by decide +kernel
theorem dL_law_580 : decode cL_law 580 = .ok (.iaload, 1) := by decide +kernel
theorem dL_law_581 : decode cL_law 581 = .ok (.aload_n 0, 1) := by decide +kernel
theorem dL_law_582 : decode cL_law 582 = .ok (.iload 4, 2) := by decide +kernel
theorem dL_law_584 : decode cL_law 584 = .ok (.iconst 3, 1) := by decide +kernel
theorem dL_law_585 : decode cL_law 585 = .ok (.iadd, 1) := by decide +kernel
theorem dL_law_586 : decode cL_law 586 = .ok (.iaload, 1) := by decide +kernel
theorem dL_law_587 : decode cL_law 587 = .ok (.aload_n 0, 1) := by decide +kernel
theorem dL_law_588 : decode cL_law 588 = .ok (.iload 4, 2) := by decide +kernel
theorem dL_law_590 : decode cL_law 590 = .ok (.iconst 4, 1) := by decide +kernel
theorem dL_law_591 : decode cL_law 591 = .ok (.iadd, 1) := by decide +kernel
theorem dL_law_592 : decode cL_law 592 = .ok (.iaload, 1) := by decide +kernel
theorem dL_law_593 : decode cL_law 593 = .ok (.aload_n 0, 1) := by decide +kernel
theorem dL_law_594 : decode cL_law 594 = .ok (.iload 4, 2) := by decide +kernel
theorem dL_law_596 : decode cL_law 596 = .ok (.iconst 5, 1) := by decide +kernel
theorem dL_law_597 : decode cL_law 597 = .ok (.iadd, 1) := by decide +kernel
theorem dL_law_598 : decode cL_law 598 = .ok (.iaload, 1) := by decide +kernel
theorem dL_law_599 : decode cL_law 599 = .ok (.invokestatic 124, 3) := by decide +kernel
theorem dL_law_602 : decode cL_law 602 = .ok (.istore 5, 2) := by decide +kernel
theorem dL_law_604 : decode cL_law 604 = .ok (.aload_n 2, 1) := by decide +kernel
theorem dL_law_605 : decode cL_law 605 = .ok (.aload_n 0, 1) := by decide +kernel
theorem dL_law_606 : decode cL_law 606 = .ok (.iload 4, 2) := by decide +kernel
theorem dL_law_608 : decode cL_law 608 = .ok (.iconst 1, 1) := by decide +kernel
theorem dL_law_609 : decode cL_law 609 = .ok (.iadd, 1) := by decide +kernel
theorem dL_law_610 : decode cL_law 610 = .ok (.iaload, 1) := by decide +kernel
theorem dL_law_611 : decode cL_law 611 = .ok (.aload_n 0, 1) := by decide +kernel
theorem dL_law_612 : decode cL_law 612 = .ok (.iload 4, 2) := by decide +kernel
theorem dL_law_614 : decode cL_law 614 = .ok (.iconst 2, 1) := by decide +kernel
theorem dL_law_615 : decode cL_law 615 = .ok (.iadd, 1) := by decide +kernel
theorem dL_law_616 : decode cL_law 616 = .ok (.iaload, 1) := by decide +kernel
theorem dL_law_617 : decode cL_law 617 = .ok (.aload_n 0, 1) := by decide +kernel
theorem dL_law_618 : decode cL_law 618 = .ok (.iload 4, 2) := by decide +kernel
theorem dL_law_620 : decode cL_law 620 = .ok (.iconst 3, 1) := by decide +kernel
theorem dL_law_621 : decode cL_law 621 = .ok (.iadd, 1) := by decide +kernel
theorem dL_law_622 : decode cL_law 622 = .ok (.iaload, 1) := by decide +kernel
theorem dL_law_623 : decode cL_law 623 = .ok (.aload_n 0, 1) := by decide +kernel
theorem dL_law_624 : decode cL_law 624 = .ok (.iload 4, 2) := by decide +kernel
theorem dL_law_626 : decode cL_law 626 = .ok (.iconst 4, 1) := by decide +kernel
theorem dL_law_627 : decode cL_law 627 = .ok (.iadd, 1) := by decide +kernel
theorem dL_law_628 : decode cL_law 628 = .ok (.iaload, 1) := by decide +kernel
theorem dL_law_629 : decode cL_law 629 = .ok (.aload_n 0, 1) := by decide +kernel
theorem dL_law_630 : decode cL_law 630 = .ok (.iload 4, 2) := by decide +kernel
theorem dL_law_632 : decode cL_law 632 = .ok (.iconst 5, 1) := by decide +kernel
theorem dL_law_633 : decode cL_law 633 = .ok (.iadd, 1) := by decide +kernel
theorem dL_law_634 : decode cL_law 634 = .ok (.iaload, 1) := by decide +kernel
theorem dL_law_635 : decode cL_law 635 = .ok (.invokevirtual 127, 3) := by decide +kernel
theorem dL_law_638 : decode cL_law 638 = .ok (.aload_n 2, 1) := by decide +kernel
theorem dL_law_639 : decode cL_law 639 = .ok (.invokevirtual 108, 3) := by decide +kernel
theorem dL_law_642 : decode cL_law 642 = .ok (.iload 5, 2) := by decide +kernel
theorem dL_law_644 : decode cL_law 644 = .ok (.if_icmp .eq 5, 3) := by decide +kernel
theorem dL_law_647 : decode cL_law 647 = .ok (.iconst 0, 1) := by decide +kernel
theorem dL_law_648 : decode cL_law 648 = .ok (.ireturn, 1) := by decide +kernel
theorem dL_law_649 : decode cL_law 649 = .ok (.goto 1114, 3) := by decide +kernel
theorem dL_law_652 : decode cL_law 652 = .ok (.aload_n 1, 1) := by decide +kernel
theorem dL_law_653 : decode cL_law 653 = .ok (.aload_n 0, 1) := by decide +kernel
theorem dL_law_654 : decode cL_law 654 = .ok (.iload 4, 2) := by decide +kernel
theorem dL_law_656 : decode cL_law 656 = .ok (.iconst 1, 1) := by decide +kernel
theorem dL_law_657 : decode cL_law 657 = .ok (.iadd, 1) := by decide +kernel
theorem dL_law_658 : decode cL_law 658 = .ok (.iaload, 1) := by decide +kernel
theorem dL_law_659 : decode cL_law 659 = .ok (.aload_n 3, 1) := by decide +kernel
theorem dL_law_660 : decode cL_law 660 = .ok (.invokestatic 128, 3) := by decide +kernel
theorem dL_law_663 : decode cL_law 663 = .ok (.istore 5, 2) := by decide +kernel
theorem dL_law_665 : decode cL_law 665 = .ok (.aload_n 2, 1) := by decide +kernel
theorem dL_law_666 : decode cL_law 666 = .ok (.aload_n 0, 1) := by decide +kernel
theorem dL_law_667 : decode cL_law 667 = .ok (.iload 4, 2) := by decide +kernel
theorem dL_law_669 : decode cL_law 669 = .ok (.iconst 1, 1) := by decide +kernel
theorem dL_law_670 : decode cL_law 670 = .ok (.iadd, 1) := by decide +kernel
theorem dL_law_671 : decode cL_law 671 = .ok (.iaload, 1) := by decide +kernel
theorem dL_law_672 : decode cL_law 672 = .ok (.invokevirtual 131, 3) := by decide +kernel
theorem dL_law_675 : decode cL_law 675 = .ok (.istore 6, 2) := by decide +kernel
theorem dL_law_677 : decode cL_law 677 = .ok (.aload_n 2, 1) := by decide +kernel
theorem dL_law_678 : decode cL_law 678 = .ok (.invokevirtual 108, 3) := by decide +kernel
theorem dL_law_681 : decode cL_law 681 = .ok (.iload 5, 2) := by decide +kernel
theorem dL_law_683 : decode cL_law 683 = .ok (.if_icmp .eq 5, 3) := by decide +kernel
theorem dL_law_686 : decode cL_law 686 = .ok (.iconst 0, 1) := by decide +kernel
theorem dL_law_687 : decode cL_law 687 = .ok (.ireturn, 1) := by decide +kernel
theorem dL_law_688 : decode cL_law 688 = .ok (.iload 5, 2) := by decide +kernel
theorem dL_law_690 : decode cL_law 690 = .ok (.ifCond .ne 15, 3) := by decide +kernel
theorem dL_law_693 : decode cL_law 693 = .ok (.aload_n 3, 1) := by decide +kernel
theorem dL_law_694 : decode cL_law 694 = .ok (.iconst 0, 1) := by decide +kernel
theorem dL_law_695 : decode cL_law 695 = .ok (.laload, 1) := by decide +kernel
theorem dL_law_696 : decode cL_law 696 = .ok (.iload 6, 2) := by decide +kernel
theorem dL_law_698 : decode cL_law 698 = .ok (.i2l, 1) := by decide +kernel
theorem dL_law_699 : decode cL_law 699 = .ok (.lcmp, 1) := by decide +kernel
theorem dL_law_700 : decode cL_law 700 = .ok (.ifCond .eq 5, 3) := by decide +kernel
theorem dL_law_703 : decode cL_law 703 = .ok (.iconst 0, 1) := by decide +kernel
theorem dL_law_704 : decode cL_law 704 = .ok (.ireturn, 1) := by decide +kernel
theorem dL_law_705 : decode cL_law 705 = .ok (.goto 1058, 3) := by decide +kernel
theorem dL_law_708 : decode cL_law 708 = .ok (.aload_n 1, 1) := by decide +kernel
theorem dL_law_709 : decode cL_law 709 = .ok (.aload_n 0, 1) := by decide +kernel
theorem dL_law_710 : decode cL_law 710 = .ok (.iload 4, 2) := by decide +kernel
theorem dL_law_712 : decode cL_law 712 = .ok (.iconst 1, 1) := by decide +kernel
theorem dL_law_713 : decode cL_law 713 = .ok (.iadd, 1) := by decide +kernel
theorem dL_law_714 : decode cL_law 714 = .ok (.iaload, 1) := by decide +kernel
theorem dL_law_715 : decode cL_law 715 = .ok (.aload_n 3, 1) := by decide +kernel
theorem dL_law_716 : decode cL_law 716 = .ok (.invokestatic 132, 3) := by decide +kernel
theorem dL_law_719 : decode cL_law 719 = .ok (.istore 5, 2) := by decide +kernel
theorem dL_law_721 : decode cL_law 721 = .ok (.aload_n 2, 1) := by decide +kernel
theorem dL_law_722 : decode cL_law 722 = .ok (.aload_n 0, 1) := by decide +kernel
theorem dL_law_723 : decode cL_law 723 = .ok (.iload 4, 2) := by decide +kernel
theorem dL_law_725 : decode cL_law 725 = .ok (.iconst 1, 1) := by decide +kernel
theorem dL_law_726 : decode cL_law 726 = .ok (.iadd, 1) := by decide +kernel
theorem dL_law_727 : decode cL_law 727 = .ok (.iaload, 1) := by decide +kernel
theorem dL_law_728 : decode cL_law 728 = .ok (.invokevirtual 134, 3) := by decide +kernel
theorem dL_law_731 : decode cL_law 731 = .ok (.istore 6, 2) := by decide +kernel
theorem dL_law_733 : decode cL_law 733 = .ok (.aload_n 2, 1) := by decide +kernel
theorem dL_law_734 : decode cL_law 734 = .ok (.invokevirtual 108, 3) := by decide +kernel
theorem dL_law_737 : decode cL_law 737 = .ok (.iload 5, 2) := by decide +kernel
theorem dL_law_739 : decode cL_law 739 = .ok (.if_icmp .eq 5, 3) := by decide +kernel
theorem dL_law_742 : decode cL_law 742 = .ok (.iconst 0, 1) := by decide +kernel
theorem dL_law_743 : decode cL_law 743 = .ok (.ireturn, 1) := by decide +kernel
theorem dL_law_744 : decode cL_law 744 = .ok (.iload 5, 2) := by decide +kernel
theorem dL_law_746 : decode cL_law 746 = .ok (.ifCond .ne 15, 3) := by decide +kernel
theorem dL_law_749 : decode cL_law 749 = .ok (.aload_n 3, 1) := by decide +kernel
theorem dL_law_750 : decode cL_law 750 = .ok (.iconst 0, 1) := by decide +kernel
theorem dL_law_751 : decode cL_law 751 = .ok (.laload, 1) := by decide +kernel
theorem dL_law_752 : decode cL_law 752 = .ok (.iload 6, 2) := by decide +kernel
theorem dL_law_754 : decode cL_law 754 = .ok (.i2l, 1) := by decide +kernel
theorem dL_law_755 : decode cL_law 755 = .ok (.lcmp, 1) := by decide +kernel
theorem dL_law_756 : decode cL_law 756 = .ok (.ifCond .eq 5, 3) := by decide +kernel
theorem dL_law_759 : decode cL_law 759 = .ok (.iconst 0, 1) := by decide +kernel
theorem dL_law_760 : decode cL_law 760 = .ok (.ireturn, 1) := by decide +kernel
theorem dL_law_761 : decode cL_law 761 = .ok (.goto 1002, 3) := by decide +kernel
theorem dL_law_764 : decode cL_law 764 = .ok (.aload_n 1, 1) := by decide +kernel
theorem dL_law_765 : decode cL_law 765 = .ok (.aload_n 0, 1) := by decide +kernel
theorem dL_law_766 : decode cL_law 766 = .ok (.iload 4, 2) := by decide +kernel
theorem dL_law_768 : decode cL_law 768 = .ok (.iconst 1, 1) := by decide +kernel
theorem dL_law_769 : decode cL_law 769 = .ok (.iadd, 1) := by decide +kernel
theorem dL_law_770 : decode cL_law 770 = .ok (.iaload, 1) := by decide +kernel
theorem dL_law_771 : decode cL_law 771 = .ok (.aload_n 3, 1) := by decide +kernel
theorem dL_law_772 : decode cL_law 772 = .ok (.invokestatic 135, 3) := by decide +kernel
theorem dL_law_775 : decode cL_law 775 = .ok (.istore 5, 2) := by decide +kernel
theorem dL_law_777 : decode cL_law 777 = .ok (.aload_n 2, 1) := by decide +kernel
theorem dL_law_778 : decode cL_law 778 = .ok (.aload_n 0, 1) := by decide +kernel
theorem dL_law_779 : decode cL_law 779 = .ok (.iload 4, 2) := by decide +kernel
theorem dL_law_781 : decode cL_law 781 = .ok (.iconst 1, 1) := by decide +kernel
theorem dL_law_782 : decode cL_law 782 = .ok (.iadd, 1) := by decide +kernel
theorem dL_law_783 : decode cL_law 783 = .ok (.iaload, 1) := by decide +kernel
theorem dL_law_784 : decode cL_law 784 = .ok (.invokevirtual 137, 3) := by decide +kernel
theorem dL_law_787 : decode cL_law 787 = .ok (.istore 6, 2) := by decide +kernel
theorem dL_law_789 : decode cL_law 789 = .ok (.aload_n 2, 1) := by decide +kernel
theorem dL_law_790 : decode cL_law 790 = .ok (.invokevirtual 108, 3) := by decide +kernel
theorem dL_law_793 : decode cL_law 793 = .ok (.iload 5, 2) := by decide +kernel
theorem dL_law_795 : decode cL_law 795 = .ok (.if_icmp .eq 5, 3) := by decide +kernel
theorem dL_law_798 : decode cL_law 798 = .ok (.iconst 0, 1) := by decide +kernel
theorem dL_law_799 : decode cL_law 799 = .ok (.ireturn, 1) := by decide +kernel
theorem dL_law_800 : decode cL_law 800 = .ok (.iload 5, 2) := by decide +kernel
theorem dL_law_802 : decode cL_law 802 = .ok (.ifCond .ne 15, 3) := by decide +kernel
theorem dL_law_805 : decode cL_law 805 = .ok (.aload_n 3, 1) := by decide +kernel
theorem dL_law_806 : decode cL_law 806 = .ok (.iconst 0, 1) := by decide +kernel
theorem dL_law_807 : decode cL_law 807 = .ok (.laload, 1) := by decide +kernel
theorem dL_law_808 : decode cL_law 808 = .ok (.iload 6, 2) := by decide +kernel
theorem dL_law_810 : decode cL_law 810 = .ok (.i2l, 1) := by decide +kernel
theorem dL_law_811 : decode cL_law 811 = .ok (.lcmp, 1) := by decide +kernel
theorem dL_law_812 : decode cL_law 812 = .ok (.ifCond .eq 5, 3) := by decide +kernel
theorem dL_law_815 : decode cL_law 815 = .ok (.iconst 0, 1) := by decide +kernel
theorem dL_law_816 : decode cL_law 816 = .ok (.ireturn, 1) := by decide +kernel
theorem dL_law_817 : decode cL_law 817 = .ok (.goto 946, 3) := by decide +kernel
theorem dL_law_820 : decode cL_law 820 = .ok (.aload_n 1, 1) := by decide +kernel
theorem dL_law_821 : decode cL_law 821 = .ok (.aload_n 0, 1) := by decide +kernel
theorem dL_law_822 : decode cL_law 822 = .ok (.iload 4, 2) := by decide +kernel
theorem dL_law_824 : decode cL_law 824 = .ok (.iconst 1, 1) := by decide +kernel
theorem dL_law_825 : decode cL_law 825 = .ok (.iadd, 1) := by decide +kernel
theorem dL_law_826 : decode cL_law 826 = .ok (.iaload, 1) := by decide +kernel
theorem dL_law_827 : decode cL_law 827 = .ok (.aload_n 3, 1) := by decide +kernel
theorem dL_law_828 : decode cL_law 828 = .ok (.invokestatic 138, 3) := by decide +kernel
theorem dL_law_831 : decode cL_law 831 = .ok (.istore 5, 2) := by decide +kernel
theorem dL_law_833 : decode cL_law 833 = .ok (.aload_n 2, 1) := by decide +kernel
theorem dL_law_834 : decode cL_law 834 = .ok (.aload_n 0, 1) := by decide +kernel
theorem dL_law_835 : decode cL_law 835 = .ok (.iload 4, 2) := by decide +kernel
theorem dL_law_837 : decode cL_law 837 = .ok (.iconst 1, 1) := by decide +kernel
theorem dL_law_838 : decode cL_law 838 = .ok (.iadd, 1) := by decide +kernel
theorem dL_law_839 : decode cL_law 839 = .ok (.iaload, 1) := by decide +kernel
theorem dL_law_840 : decode cL_law 840 = .ok (.invokevirtual 140, 3) := by decide +kernel
theorem dL_law_843 : decode cL_law 843 = .ok (.istore 6, 2) := by decide +kernel
theorem dL_law_845 : decode cL_law 845 = .ok (.aload_n 2, 1) := by decide +kernel
theorem dL_law_846 : decode cL_law 846 = .ok (.invokevirtual 108, 3) := by decide +kernel
theorem dL_law_849 : decode cL_law 849 = .ok (.iload 5, 2) := by decide +kernel
theorem dL_law_851 : decode cL_law 851 = .ok (.if_icmp .eq 5, 3) := by decide +kernel
theorem dL_law_854 : decode cL_law 854 = .ok (.iconst 0, 1) := by decide +kernel
theorem dL_law_855 : decode cL_law 855 = .ok (.ireturn, 1) := by decide +kernel
theorem dL_law_856 : decode cL_law 856 = .ok (.iload 5, 2) := by decide +kernel
theorem dL_law_858 : decode cL_law 858 = .ok (.ifCond .ne 15, 3) := by decide +kernel
theorem dL_law_861 : decode cL_law 861 = .ok (.aload_n 3, 1) := by decide +kernel
theorem dL_law_862 : decode cL_law 862 = .ok (.iconst 0, 1) := by decide +kernel
theorem dL_law_863 : decode cL_law 863 = .ok (.laload, 1) := by decide +kernel
theorem dL_law_864 : decode cL_law 864 = .ok (.iload 6, 2) := by decide +kernel
theorem dL_law_866 : decode cL_law 866 = .ok (.i2l, 1) := by decide +kernel
theorem dL_law_867 : decode cL_law 867 = .ok (.lcmp, 1) := by decide +kernel
theorem dL_law_868 : decode cL_law 868 = .ok (.ifCond .eq 5, 3) := by decide +kernel
theorem dL_law_871 : decode cL_law 871 = .ok (.iconst 0, 1) := by decide +kernel
theorem dL_law_872 : decode cL_law 872 = .ok (.ireturn, 1) := by decide +kernel
theorem dL_law_873 : decode cL_law 873 = .ok (.goto 890, 3) := by decide +kernel
theorem dL_law_876 : decode cL_law 876 = .ok (.aload_n 1, 1) := by decide +kernel
theorem dL_law_877 : decode cL_law 877 = .ok (.aload_n 0, 1) := by decide +kernel
theorem dL_law_878 : decode cL_law 878 = .ok (.iload 4, 2) := by decide +kernel
theorem dL_law_880 : decode cL_law 880 = .ok (.iconst 1, 1) := by decide +kernel
theorem dL_law_881 : decode cL_law 881 = .ok (.iadd, 1) := by decide +kernel
theorem dL_law_882 : decode cL_law 882 = .ok (.iaload, 1) := by decide +kernel
theorem dL_law_883 : decode cL_law 883 = .ok (.aload_n 0, 1) := by decide +kernel
theorem dL_law_884 : decode cL_law 884 = .ok (.iload 4, 2) := by decide +kernel
theorem dL_law_886 : decode cL_law 886 = .ok (.iconst 2, 1) := by decide +kernel
theorem dL_law_887 : decode cL_law 887 = .ok (.iadd, 1) := by decide +kernel
theorem dL_law_888 : decode cL_law 888 = .ok (.iaload, 1) := by decide +kernel
theorem dL_law_889 : decode cL_law 889 = .ok (.aload_n 3, 1) := by decide +kernel
theorem dL_law_890 : decode cL_law 890 = .ok (.invokestatic 141, 3) := by decide +kernel
theorem dL_law_893 : decode cL_law 893 = .ok (.istore 5, 2) := by decide +kernel
theorem dL_law_895 : decode cL_law 895 = .ok (.aload_n 2, 1) := by decide +kernel
theorem dL_law_896 : decode cL_law 896 = .ok (.aload_n 0, 1) := by decide +kernel
theorem dL_law_897 : decode cL_law 897 = .ok (.iload 4, 2) := by decide +kernel
theorem dL_law_899 : decode cL_law 899 = .ok (.iconst 1, 1) := by decide +kernel
theorem dL_law_900 : decode cL_law 900 = .ok (.iadd, 1) := by decide +kernel
theorem dL_law_901 : decode cL_law 901 = .ok (.iaload, 1) := by decide +kernel
theorem dL_law_902 : decode cL_law 902 = .ok (.aload_n 0, 1) := by decide +kernel
theorem dL_law_903 : decode cL_law 903 = .ok (.iload 4, 2) := by decide +kernel
theorem dL_law_905 : decode cL_law 905 = .ok (.iconst 2, 1) := by decide +kernel
theorem dL_law_906 : decode cL_law 906 = .ok (.iadd, 1) := by decide +kernel
theorem dL_law_907 : decode cL_law 907 = .ok (.iaload, 1) := by decide +kernel
theorem dL_law_908 : decode cL_law 908 = .ok (.invokevirtual 144, 3) := by decide +kernel
theorem dL_law_911 : decode cL_law 911 = .ok (.istore 6, 2) := by decide +kernel
theorem dL_law_913 : decode cL_law 913 = .ok (.aload_n 2, 1) := by decide +kernel
theorem dL_law_914 : decode cL_law 914 = .ok (.invokevirtual 108, 3) := by decide +kernel
theorem dL_law_917 : decode cL_law 917 = .ok (.iload 5, 2) := by decide +kernel
theorem dL_law_919 : decode cL_law 919 = .ok (.if_icmp .eq 5, 3) := by decide +kernel
theorem dL_law_922 : decode cL_law 922 = .ok (.iconst 0, 1) := by decide +kernel
theorem dL_law_923 : decode cL_law 923 = .ok (.ireturn, 1) := by decide +kernel
theorem dL_law_924 : decode cL_law 924 = .ok (.iload 5, 2) := by decide +kernel
theorem dL_law_926 : decode cL_law 926 = .ok (.ifCond .ne 15, 3) := by decide +kernel
theorem dL_law_929 : decode cL_law 929 = .ok (.aload_n 3, 1) := by decide +kernel
theorem dL_law_930 : decode cL_law 930 = .ok (.iconst 0, 1) := by decide +kernel
theorem dL_law_931 : decode cL_law 931 = .ok (.laload, 1) := by decide +kernel
theorem dL_law_932 : decode cL_law 932 = .ok (.iload 6, 2) := by decide +kernel
theorem dL_law_934 : decode cL_law 934 = .ok (.i2l, 1) := by decide +kernel
theorem dL_law_935 : decode cL_law 935 = .ok (.lcmp, 1) := by decide +kernel
theorem dL_law_936 : decode cL_law 936 = .ok (.ifCond .eq 5, 3) := by decide +kernel
theorem dL_law_939 : decode cL_law 939 = .ok (.iconst 0, 1) := by decide +kernel
theorem dL_law_940 : decode cL_law 940 = .ok (.ireturn, 1) := by decide +kernel
theorem dL_law_941 : decode cL_law 941 = .ok (.goto 822, 3) := by decide +kernel
theorem dL_law_944 : decode cL_law 944 = .ok (.aload_n 1, 1) := by decide +kernel
theorem dL_law_945 : decode cL_law 945 = .ok (.aload_n 0, 1) := by decide +kernel
theorem dL_law_946 : decode cL_law 946 = .ok (.iload 4, 2) := by decide +kernel
theorem dL_law_948 : decode cL_law 948 = .ok (.iconst 1, 1) := by decide +kernel
theorem dL_law_949 : decode cL_law 949 = .ok (.iadd, 1) := by decide +kernel
theorem dL_law_950 : decode cL_law 950 = .ok (.iaload, 1) := by decide +kernel
theorem dL_law_951 : decode cL_law 951 = .ok (.aload_n 0, 1) := by decide +kernel
theorem dL_law_952 : decode cL_law 952 = .ok (.iload 4, 2) := by decide +kernel
theorem dL_law_954 : decode cL_law 954 = .ok (.iconst 2, 1) := by decide +kernel
theorem dL_law_955 : decode cL_law 955 = .ok (.iadd, 1) := by decide +kernel
theorem dL_law_956 : decode cL_law 956 = .ok (.iaload, 1) := by decide +kernel
theorem dL_law_957 : decode cL_law 957 = .ok (.aload_n 3, 1) := by decide +kernel
theorem dL_law_958 : decode cL_law 958 = .ok (.invokestatic 145, 3) := by decide +kernel
theorem dL_law_961 : decode cL_law 961 = .ok (.istore 5, 2) := by decide +kernel
theorem dL_law_963 : decode cL_law 963 = .ok (.aload_n 2, 1) := by decide +kernel
theorem dL_law_964 : decode cL_law 964 = .ok (.aload_n 0, 1) := by decide +kernel
theorem dL_law_965 : decode cL_law 965 = .ok (.iload 4, 2) := by decide +kernel
theorem dL_law_967 : decode cL_law 967 = .ok (.iconst 1, 1) := by decide +kernel
theorem dL_law_968 : decode cL_law 968 = .ok (.iadd, 1) := by decide +kernel
theorem dL_law_969 : decode cL_law 969 = .ok (.iaload, 1) := by decide +kernel
theorem dL_law_970 : decode cL_law 970 = .ok (.aload_n 0, 1) := by decide +kernel
theorem dL_law_971 : decode cL_law 971 = .ok (.iload 4, 2) := by decide +kernel
theorem dL_law_973 : decode cL_law 973 = .ok (.iconst 2, 1) := by decide +kernel
theorem dL_law_974 : decode cL_law 974 = .ok (.iadd, 1) := by decide +kernel
theorem dL_law_975 : decode cL_law 975 = .ok (.iaload, 1) := by decide +kernel
theorem dL_law_976 : decode cL_law 976 = .ok (.invokevirtual 147, 3) := by decide +kernel
theorem dL_law_979 : decode cL_law 979 = .ok (.istore 6, 2) := by decide +kernel
theorem dL_law_981 : decode cL_law 981 = .ok (.aload_n 2, 1) := by decide +kernel
theorem dL_law_982 : decode cL_law 982 = .ok (.invokevirtual 108, 3) := by decide +kernel
theorem dL_law_985 : decode cL_law 985 = .ok (.iload 5, 2) := by decide +kernel
theorem dL_law_987 : decode cL_law 987 = .ok (.if_icmp .eq 5, 3) := by decide +kernel
theorem dL_law_990 : decode cL_law 990 = .ok (.iconst 0, 1) := by decide +kernel
theorem dL_law_991 : decode cL_law 991 = .ok (.ireturn, 1) := by decide +kernel
theorem dL_law_992 : decode cL_law 992 = .ok (.iload 5, 2) := by decide +kernel
theorem dL_law_994 : decode cL_law 994 = .ok (.ifCond .ne 15, 3) := by decide +kernel
theorem dL_law_997 : decode cL_law 997 = .ok (.aload_n 3, 1) := by decide +kernel
theorem dL_law_998 : decode cL_law 998 = .ok (.iconst 0, 1) := by decide +kernel
theorem dL_law_999 : decode cL_law 999 = .ok (.laload, 1) := by decide +kernel
theorem dL_law_1000 : decode cL_law 1000 = .ok (.iload 6, 2) := by decide +kernel
theorem dL_law_1002 : decode cL_law 1002 = .ok (.i2l, 1) := by decide +kernel
theorem dL_law_1003 : decode cL_law 1003 = .ok (.lcmp, 1) := by decide +kernel
theorem dL_law_1004 : decode cL_law 1004 = .ok (.ifCond .eq 5, 3) := by decide +kernel
theorem dL_law_1007 : decode cL_law 1007 = .ok (.iconst 0, 1) := by decide +kernel
theorem dL_law_1008 : decode cL_law 1008 = .ok (.ireturn, 1) := by decide +kernel
theorem dL_law_1009 : decode cL_law 1009 = .ok (.goto 754, 3) := by decide +kernel
theorem dL_law_1012 : decode cL_law 1012 = .ok (.aload_n 1, 1) := by decide +kernel
theorem dL_law_1013 : decode cL_law 1013 = .ok (.aload_n 0, 1) := by decide +kernel
theorem dL_law_1014 : decode cL_law 1014 = .ok (.iload 4, 2) := by decide +kernel
theorem dL_law_1016 : decode cL_law 1016 = .ok (.iconst 1, 1) := by decide +kernel
theorem dL_law_1017 : decode cL_law 1017 = .ok (.iadd, 1) := by decide +kernel
theorem dL_law_1018 : decode cL_law 1018 = .ok (.iaload, 1) := by decide +kernel
theorem dL_law_1019 : decode cL_law 1019 = .ok (.aload_n 3, 1) := by decide +kernel
theorem dL_law_1020 : decode cL_law 1020 = .ok (.invokestatic 148, 3) := by decide +kernel
theorem dL_law_1023 : decode cL_law 1023 = .ok (.istore 5, 2) := by decide +kernel
theorem dL_law_1025 : decode cL_law 1025 = .ok (.aload_n 2, 1) := by decide +kernel
theorem dL_law_1026 : decode cL_law 1026 = .ok (.aload_n 0, 1) := by decide +kernel
theorem dL_law_1027 : decode cL_law 1027 = .ok (.iload 4, 2) := by decide +kernel
theorem dL_law_1029 : decode cL_law 1029 = .ok (.iconst 1, 1) := by decide +kernel
theorem dL_law_1030 : decode cL_law 1030 = .ok (.iadd, 1) := by decide +kernel
theorem dL_law_1031 : decode cL_law 1031 = .ok (.iaload, 1) := by decide +kernel
theorem dL_law_1032 : decode cL_law 1032 = .ok (.invokevirtual 150, 3) := by decide +kernel
theorem dL_law_1035 : decode cL_law 1035 = .ok (.istore 6, 2) := by decide +kernel
theorem dL_law_1037 : decode cL_law 1037 = .ok (.aload_n 2, 1) := by decide +kernel
theorem dL_law_1038 : decode cL_law 1038 = .ok (.invokevirtual 108, 3) := by decide +kernel
theorem dL_law_1041 : decode cL_law 1041 = .ok (.iload 5, 2) := by decide +kernel
theorem dL_law_1043 : decode cL_law 1043 = .ok (.if_icmp .eq 5, 3) := by decide +kernel
theorem dL_law_1046 : decode cL_law 1046 = .ok (.iconst 0, 1) := by decide +kernel
theorem dL_law_1047 : decode cL_law 1047 = .ok (.ireturn, 1) := by decide +kernel
theorem dL_law_1048 : decode cL_law 1048 = .ok (.iload 5, 2) := by decide +kernel
theorem dL_law_1050 : decode cL_law 1050 = .ok (.ifCond .ne 15, 3) := by decide +kernel
theorem dL_law_1053 : decode cL_law 1053 = .ok (.aload_n 3, 1) := by decide +kernel
theorem dL_law_1054 : decode cL_law 1054 = .ok (.iconst 0, 1) := by decide +kernel
theorem dL_law_1055 : decode cL_law 1055 = .ok (.laload, 1) := by decide +kernel
theorem dL_law_1056 : decode cL_law 1056 = .ok (.iload 6, 2) := by decide +kernel
theorem dL_law_1058 : decode cL_law 1058 = .ok (.i2l, 1) := by decide +kernel
theorem dL_law_1059 : decode cL_law 1059 = .ok (.lcmp, 1) := by decide +kernel
theorem dL_law_1060 : decode cL_law 1060 = .ok (.ifCond .eq 5, 3) := by decide +kernel
theorem dL_law_1063 : decode cL_law 1063 = .ok (.iconst 0, 1) := by decide +kernel
theorem dL_law_1064 : decode cL_law 1064 = .ok (.ireturn, 1) := by decide +kernel
theorem dL_law_1065 : decode cL_law 1065 = .ok (.goto 698, 3) := by decide +kernel
theorem dL_law_1068 : decode cL_law 1068 = .ok (.aload_n 1, 1) := by decide +kernel
theorem dL_law_1069 : decode cL_law 1069 = .ok (.aload_n 0, 1) := by decide +kernel
theorem dL_law_1070 : decode cL_law 1070 = .ok (.iload 4, 2) := by decide +kernel
theorem dL_law_1072 : decode cL_law 1072 = .ok (.iconst 1, 1) := by decide +kernel
theorem dL_law_1073 : decode cL_law 1073 = .ok (.iadd, 1) := by decide +kernel
theorem dL_law_1074 : decode cL_law 1074 = .ok (.iaload, 1) := by decide +kernel
theorem dL_law_1075 : decode cL_law 1075 = .ok (.aload_n 0, 1) := by decide +kernel
theorem dL_law_1076 : decode cL_law 1076 = .ok (.iload 4, 2) := by decide +kernel
theorem dL_law_1078 : decode cL_law 1078 = .ok (.iconst 2, 1) := by decide +kernel
theorem dL_law_1079 : decode cL_law 1079 = .ok (.iadd, 1) := by decide +kernel
theorem dL_law_1080 : decode cL_law 1080 = .ok (.iaload, 1) := by decide +kernel
theorem dL_law_1081 : decode cL_law 1081 = .ok (.aload_n 3, 1) := by decide +kernel
theorem dL_law_1082 : decode cL_law 1082 = .ok (.invokestatic 151, 3) := by decide +kernel
theorem dL_law_1085 : decode cL_law 1085 = .ok (.istore 5, 2) := by decide +kernel
theorem dL_law_1087 : decode cL_law 1087 = .ok (.aload_n 2, 1) := by decide +kernel
theorem dL_law_1088 : decode cL_law 1088 = .ok (.aload_n 0, 1) := by decide +kernel
theorem dL_law_1089 : decode cL_law 1089 = .ok (.iload 4, 2) := by decide +kernel
theorem dL_law_1091 : decode cL_law 1091 = .ok (.iconst 1, 1) := by decide +kernel
theorem dL_law_1092 : decode cL_law 1092 = .ok (.iadd, 1) := by decide +kernel
theorem dL_law_1093 : decode cL_law 1093 = .ok (.iaload, 1) := by decide +kernel
theorem dL_law_1094 : decode cL_law 1094 = .ok (.aload_n 0, 1) := by decide +kernel
theorem dL_law_1095 : decode cL_law 1095 = .ok (.iload 4, 2) := by decide +kernel
theorem dL_law_1097 : decode cL_law 1097 = .ok (.iconst 2, 1) := by decide +kernel
theorem dL_law_1098 : decode cL_law 1098 = .ok (.iadd, 1) := by decide +kernel
theorem dL_law_1099 : decode cL_law 1099 = .ok (.iaload, 1) := by decide +kernel
theorem dL_law_1100 : decode cL_law 1100 = .ok (.invokevirtual 153, 3) := by decide +kernel
theorem dL_law_1103 : decode cL_law 1103 = .ok (.istore 6, 2) := by decide +kernel
theorem dL_law_1105 : decode cL_law 1105 = .ok (.aload_n 2, 1) := by decide +kernel
theorem dL_law_1106 : decode cL_law 1106 = .ok (.invokevirtual 108, 3) := by decide +kernel
theorem dL_law_1109 : decode cL_law 1109 = .ok (.iload 5, 2) := by decide +kernel
theorem dL_law_1111 : decode cL_law 1111 = .ok (.if_icmp .eq 5, 3) := by decide +kernel
theorem dL_law_1114 : decode cL_law 1114 = .ok (.iconst 0, 1) := by decide +kernel
theorem dL_law_1115 : decode cL_law 1115 = .ok (.ireturn, 1) := by decide +kernel
theorem dL_law_1116 : decode cL_law 1116 = .ok (.iload 5, 2) := by decide +kernel
theorem dL_law_1118 : decode cL_law 1118 = .ok (.ifCond .ne 15, 3) := by decide +kernel
theorem dL_law_1121 : decode cL_law 1121 = .ok (.aload_n 3, 1) := by decide +kernel
theorem dL_law_1122 : decode cL_law 1122 = .ok (.iconst 0, 1) := by decide +kernel
theorem dL_law_1123 : decode cL_law 1123 = .ok (.laload, 1) := by decide +kernel
theorem dL_law_1124 : decode cL_law 1124 = .ok (.iload 6, 2) := by decide +kernel
theorem dL_law_1126 : decode cL_law 1126 = .ok (.i2l, 1) := by decide +kernel
theorem dL_law_1127 : decode cL_law 1127 = .ok (.lcmp, 1) := by decide +kernel
theorem dL_law_1128 : decode cL_law 1128 = .ok (.ifCond .eq 5, 3) := by decide +kernel
theorem dL_law_1131 : decode cL_law 1131 = .ok (.iconst 0, 1) := by decide +kernel
theorem dL_law_1132 : decode cL_law 1132 = .ok (.ireturn, 1) := by decide +kernel
theorem dL_law_1133 : decode cL_law 1133 = .ok (.goto 630, 3) := by decide +kernel
theorem dL_law_1136 : decode cL_law 1136 = .ok (.aload_n 1, 1) := by decide +kernel
theorem dL_law_1137 : decode cL_law 1137 = .ok (.aload_n 0, 1) := by decide +kernel
theorem dL_law_1138 : decode cL_law 1138 = .ok (.iload 4, 2) := by decide +kernel
theorem dL_law_1140 : decode cL_law 1140 = .ok (.iconst 1, 1) := by decide +kernel
theorem dL_law_1141 : decode cL_law 1141 = .ok (.iadd, 1) := by decide +kernel
theorem dL_law_1142 : decode cL_law 1142 = .ok (.iaload, 1) := by decide +kernel
theorem dL_law_1143 : decode cL_law 1143 = .ok (.aload_n 0, 1) := by decide +kernel
theorem dL_law_1144 : decode cL_law 1144 = .ok (.iload 4, 2) := by decide +kernel
theorem dL_law_1146 : decode cL_law 1146 = .ok (.iconst 2, 1) := by decide +kernel
theorem dL_law_1147 : decode cL_law 1147 = .ok (.iadd, 1) := by decide +kernel
theorem dL_law_1148 : decode cL_law 1148 = .ok (.iaload, 1) := by decide +kernel
theorem dL_law_1149 : decode cL_law 1149 = .ok (.aload_n 3, 1) := by decide +kernel
theorem dL_law_1150 : decode cL_law 1150 = .ok (.invokestatic 154, 3) := by decide +kernel
theorem dL_law_1153 : decode cL_law 1153 = .ok (.istore 5, 2) := by decide +kernel
theorem dL_law_1155 : decode cL_law 1155 = .ok (.aload_n 2, 1) := by decide +kernel
theorem dL_law_1156 : decode cL_law 1156 = .ok (.aload_n 0, 1) := by decide +kernel
theorem dL_law_1157 : decode cL_law 1157 = .ok (.iload 4, 2) := by decide +kernel
theorem dL_law_1159 : decode cL_law 1159 = .ok (.iconst 1, 1) := by decide +kernel
theorem dL_law_1160 : decode cL_law 1160 = .ok (.iadd, 1) := by decide +kernel
theorem dL_law_1161 : decode cL_law 1161 = .ok (.iaload, 1) := by decide +kernel
theorem dL_law_1162 : decode cL_law 1162 = .ok (.aload_n 0, 1) := by decide +kernel
theorem dL_law_1163 : decode cL_law 1163 = .ok (.iload 4, 2) := by decide +kernel
theorem dL_law_1165 : decode cL_law 1165 = .ok (.iconst 2, 1) := by decide +kernel
theorem dL_law_1166 : decode cL_law 1166 = .ok (.iadd, 1) := by decide +kernel
theorem dL_law_1167 : decode cL_law 1167 = .ok (.iaload, 1) := by decide +kernel
theorem dL_law_1168 : decode cL_law 1168 = .ok (.invokevirtual 156, 3) := by decide +kernel
theorem dL_law_1171 : decode cL_law 1171 = .ok (.istore 6, 2) := by decide +kernel
theorem dL_law_1173 : decode cL_law 1173 = .ok (.aload_n 2, 1) := by decide +kernel
theorem dL_law_1174 : decode cL_law 1174 = .ok (.invokevirtual 108, 3) := by decide +kernel
theorem dL_law_1177 : decode cL_law 1177 = .ok (.iload 5, 2) := by decide +kernel
theorem dL_law_1179 : decode cL_law 1179 = .ok (.if_icmp .eq 5, 3) := by decide +kernel
theorem dL_law_1182 : decode cL_law 1182 = .ok (.iconst 0, 1) := by decide +kernel
theorem dL_law_1183 : decode cL_law 1183 = .ok (.ireturn, 1) := by decide +kernel
theorem dL_law_1184 : decode cL_law 1184 = .ok (.iload 5, 2) := by decide +kernel
theorem dL_law_1186 : decode cL_law 1186 = .ok (.ifCond .ne 15, 3) := by decide +kernel
theorem dL_law_1189 : decode cL_law 1189 = .ok (.aload_n 3, 1) := by decide +kernel
theorem dL_law_1190 : decode cL_law 1190 = .ok (.iconst 0, 1) := by decide +kernel
theorem dL_law_1191 : decode cL_law 1191 = .ok (.laload, 1) := by decide +kernel
theorem dL_law_1192 : decode cL_law 1192 = .ok (.iload 6, 2) := by decide +kernel
theorem dL_law_1194 : decode cL_law 1194 = .ok (.i2l, 1) := by decide +kernel
theorem dL_law_1195 : decode cL_law 1195 = .ok (.lcmp, 1) := by decide +kernel
theorem dL_law_1196 : decode cL_law 1196 = .ok (.ifCond .eq 5, 3) := by decide +kernel
theorem dL_law_1199 : decode cL_law 1199 = .ok (.iconst 0, 1) := by decide +kernel
theorem dL_law_1200 : decode cL_law 1200 = .ok (.ireturn, 1) := by decide +kernel
theorem dL_law_1201 : decode cL_law 1201 = .ok (.goto 562, 3) := by decide +kernel
theorem dL_law_1204 : decode cL_law 1204 = .ok (.aload_n 1, 1) := by decide +kernel
theorem dL_law_1205 : decode cL_law 1205 = .ok (.aload_n 0, 1) := by decide +kernel
theorem dL_law_1206 : decode cL_law 1206 = .ok (.iload 4, 2) := by decide +kernel
theorem dL_law_1208 : decode cL_law 1208 = .ok (.iconst 1, 1) := by decide +kernel
theorem dL_law_1209 : decode cL_law 1209 = .ok (.iadd, 1) := by decide +kernel
theorem dL_law_1210 : decode cL_law 1210 = .ok (.iaload, 1) := by decide +kernel
theorem dL_law_1211 : decode cL_law 1211 = .ok (.aload_n 3, 1) := by decide +kernel
theorem dL_law_1212 : decode cL_law 1212 = .ok (.invokestatic 157, 3) := by decide +kernel
theorem dL_law_1215 : decode cL_law 1215 = .ok (.istore 5, 2) := by decide +kernel
theorem dL_law_1217 : decode cL_law 1217 = .ok (.aload_n 2, 1) := by decide +kernel
theorem dL_law_1218 : decode cL_law 1218 = .ok (.aload_n 0, 1) := by decide +kernel
theorem dL_law_1219 : decode cL_law 1219 = .ok (.iload 4, 2) := by decide +kernel
theorem dL_law_1221 : decode cL_law 1221 = .ok (.iconst 1, 1) := by decide +kernel
theorem dL_law_1222 : decode cL_law 1222 = .ok (.iadd, 1) := by decide +kernel
theorem dL_law_1223 : decode cL_law 1223 = .ok (.iaload, 1) := by decide +kernel
theorem dL_law_1224 : decode cL_law 1224 = .ok (.invokevirtual 159, 3) := by decide +kernel
theorem dL_law_1227 : decode cL_law 1227 = .ok (.istore 6, 2) := by decide +kernel
theorem dL_law_1229 : decode cL_law 1229 = .ok (.aload_n 2, 1) := by decide +kernel
theorem dL_law_1230 : decode cL_law 1230 = .ok (.invokevirtual 108, 3) := by decide +kernel
theorem dL_law_1233 : decode cL_law 1233 = .ok (.iload 5, 2) := by decide +kernel
theorem dL_law_1235 : decode cL_law 1235 = .ok (.if_icmp .eq 5, 3) := by decide +kernel
theorem dL_law_1238 : decode cL_law 1238 = .ok (.iconst 0, 1) := by decide +kernel
theorem dL_law_1239 : decode cL_law 1239 = .ok (.ireturn, 1) := by decide +kernel
theorem dL_law_1240 : decode cL_law 1240 = .ok (.iload 5, 2) := by decide +kernel
theorem dL_law_1242 : decode cL_law 1242 = .ok (.ifCond .ne 15, 3) := by decide +kernel
theorem dL_law_1245 : decode cL_law 1245 = .ok (.aload_n 3, 1) := by decide +kernel
theorem dL_law_1246 : decode cL_law 1246 = .ok (.iconst 0, 1) := by decide +kernel
theorem dL_law_1247 : decode cL_law 1247 = .ok (.laload, 1) := by decide +kernel
theorem dL_law_1248 : decode cL_law 1248 = .ok (.iload 6, 2) := by decide +kernel
theorem dL_law_1250 : decode cL_law 1250 = .ok (.i2l, 1) := by decide +kernel
theorem dL_law_1251 : decode cL_law 1251 = .ok (.lcmp, 1) := by decide +kernel
theorem dL_law_1252 : decode cL_law 1252 = .ok (.ifCond .eq 5, 3) := by decide +kernel
theorem dL_law_1255 : decode cL_law 1255 = .ok (.iconst 0, 1) := by decide +kernel
theorem dL_law_1256 : decode cL_law 1256 = .ok (.ireturn, 1) := by decide +kernel
theorem dL_law_1257 : decode cL_law 1257 = .ok (.goto 506, 3) := by decide +kernel
theorem dL_law_1260 : decode cL_law 1260 = .ok (.aload_n 1, 1) := by decide +kernel
theorem dL_law_1261 : decode cL_law 1261 = .ok (.aload_n 0, 1) := by decide +kernel
theorem dL_law_1262 : decode cL_law 1262 = .ok (.iload 4, 2) := by decide +kernel
theorem dL_law_1264 : decode cL_law 1264 = .ok (.iconst 1, 1) := by decide +kernel
theorem dL_law_1265 : decode cL_law 1265 = .ok (.iadd, 1) := by decide +kernel
theorem dL_law_1266 : decode cL_law 1266 = .ok (.iaload, 1) := by decide +kernel
theorem dL_law_1267 : decode cL_law 1267 = .ok (.aload_n 0, 1) := by decide +kernel
theorem dL_law_1268 : decode cL_law 1268 = .ok (.iload 4, 2) := by decide +kernel
theorem dL_law_1270 : decode cL_law 1270 = .ok (.iconst 2, 1) := by decide +kernel
theorem dL_law_1271 : decode cL_law 1271 = .ok (.iadd, 1) := by decide +kernel
theorem dL_law_1272 : decode cL_law 1272 = .ok (.iaload, 1) := by decide +kernel
theorem dL_law_1273 : decode cL_law 1273 = .ok (.aload_n 0, 1) := by decide +kernel
theorem dL_law_1274 : decode cL_law 1274 = .ok (.iload 4, 2) := by decide +kernel
theorem dL_law_1276 : decode cL_law 1276 = .ok (.iconst 3, 1) := by decide +kernel
theorem dL_law_1277 : decode cL_law 1277 = .ok (.iadd, 1) := by decide +kernel
theorem dL_law_1278 : decode cL_law 1278 = .ok (.iaload, 1) := by decide +kernel
theorem dL_law_1279 : decode cL_law 1279 = .ok (.invokestatic 160, 3) := by decide +kernel
theorem dL_law_1282 : decode cL_law 1282 = .ok (.istore 5, 2) := by decide +kernel
theorem dL_law_1284 : decode cL_law 1284 = .ok (.aload_n 2, 1) := by decide +kernel
theorem dL_law_1285 : decode cL_law 1285 = .ok (.aload_n 0, 1) := by decide +kernel
theorem dL_law_1286 : decode cL_law 1286 = .ok (.iload 4, 2) := by decide +kernel
theorem dL_law_1288 : decode cL_law 1288 = .ok (.iconst 1, 1) := by decide +kernel
theorem dL_law_1289 : decode cL_law 1289 = .ok (.iadd, 1) := by decide +kernel
theorem dL_law_1290 : decode cL_law 1290 = .ok (.iaload, 1) := by decide +kernel
theorem dL_law_1291 : decode cL_law 1291 = .ok (.aload_n 0, 1) := by decide +kernel
theorem dL_law_1292 : decode cL_law 1292 = .ok (.iload 4, 2) := by decide +kernel
theorem dL_law_1294 : decode cL_law 1294 = .ok (.iconst 2, 1) := by decide +kernel
theorem dL_law_1295 : decode cL_law 1295 = .ok (.iadd, 1) := by decide +kernel
theorem dL_law_1296 : decode cL_law 1296 = .ok (.iaload, 1) := by decide +kernel
theorem dL_law_1297 : decode cL_law 1297 = .ok (.aload_n 0, 1) := by decide +kernel
theorem dL_law_1298 : decode cL_law 1298 = .ok (.iload 4, 2) := by decide +kernel
theorem dL_law_1300 : decode cL_law 1300 = .ok (.iconst 3, 1) := by decide +kernel
theorem dL_law_1301 : decode cL_law 1301 = .ok (.iadd, 1) := by decide +kernel
theorem dL_law_1302 : decode cL_law 1302 = .ok (.iaload, 1) := by decide +kernel
theorem dL_law_1303 : decode cL_law 1303 = .ok (.invokevirtual 163, 3) := by decide +kernel
theorem dL_law_1306 : decode cL_law 1306 = .ok (.aload_n 2, 1) := by decide +kernel
theorem dL_law_1307 : decode cL_law 1307 = .ok (.invokevirtual 108, 3) := by decide +kernel
theorem dL_law_1310 : decode cL_law 1310 = .ok (.iload 5, 2) := by decide +kernel
theorem dL_law_1312 : decode cL_law 1312 = .ok (.if_icmp .eq 5, 3) := by decide +kernel
theorem dL_law_1315 : decode cL_law 1315 = .ok (.iconst 0, 1) := by decide +kernel
theorem dL_law_1316 : decode cL_law 1316 = .ok (.ireturn, 1) := by decide +kernel
theorem dL_law_1317 : decode cL_law 1317 = .ok (.goto 446, 3) := by decide +kernel
theorem dL_law_1320 : decode cL_law 1320 = .ok (.aload_n 1, 1) := by decide +kernel
theorem dL_law_1321 : decode cL_law 1321 = .ok (.aload_n 3, 1) := by decide +kernel
theorem dL_law_1322 : decode cL_law 1322 = .ok (.invokestatic 164, 3) := by decide +kernel
theorem dL_law_1325 : decode cL_law 1325 = .ok (.istore 5, 2) := by decide +kernel
theorem dL_law_1327 : decode cL_law 1327 = .ok (.aload_n 2, 1) := by decide +kernel
theorem dL_law_1328 : decode cL_law 1328 = .ok (.invokevirtual 167, 3) := by decide +kernel
theorem dL_law_1331 : decode cL_law 1331 = .ok (.istore 6, 2) := by decide +kernel
theorem dL_law_1333 : decode cL_law 1333 = .ok (.aload_n 2, 1) := by decide +kernel
theorem dL_law_1334 : decode cL_law 1334 = .ok (.invokevirtual 108, 3) := by decide +kernel
theorem dL_law_1337 : decode cL_law 1337 = .ok (.iload 5, 2) := by decide +kernel
theorem dL_law_1339 : decode cL_law 1339 = .ok (.if_icmp .eq 5, 3) := by decide +kernel
theorem dL_law_1342 : decode cL_law 1342 = .ok (.iconst 0, 1) := by decide +kernel
theorem dL_law_1343 : decode cL_law 1343 = .ok (.ireturn, 1) := by decide +kernel
theorem dL_law_1344 : decode cL_law 1344 = .ok (.iload 5, 2) := by decide +kernel
theorem dL_law_1346 : decode cL_law 1346 = .ok (.ifCond .ne 15, 3) := by decide +kernel
theorem dL_law_1349 : decode cL_law 1349 = .ok (.aload_n 3, 1) := by decide +kernel
theorem dL_law_1350 : decode cL_law 1350 = .ok (.iconst 0, 1) := by decide +kernel
theorem dL_law_1351 : decode cL_law 1351 = .ok (.laload, 1) := by decide +kernel
theorem dL_law_1352 : decode cL_law 1352 = .ok (.iload 6, 2) := by decide +kernel
theorem dL_law_1354 : decode cL_law 1354 = .ok (.i2l, 1) := by decide +kernel
theorem dL_law_1355 : decode cL_law 1355 = .ok (.lcmp, 1) := by decide +kernel
theorem dL_law_1356 : decode cL_law 1356 = .ok (.ifCond .eq 5, 3) := by decide +kernel
theorem dL_law_1359 : decode cL_law 1359 = .ok (.iconst 0, 1) := by decide +kernel
theorem dL_law_1360 : decode cL_law 1360 = .ok (.ireturn, 1) := by decide +kernel
theorem dL_law_1361 : decode cL_law 1361 = .ok (.goto 402, 3) := by decide +kernel
theorem dL_law_1364 : decode cL_law 1364 = .ok (.aload_n 1, 1) := by decide +kernel
theorem dL_law_1365 : decode cL_law 1365 = .ok (.aload_n 3, 1) := by decide +kernel
theorem dL_law_1366 : decode cL_law 1366 = .ok (.invokestatic 168, 3) := by decide +kernel
theorem dL_law_1369 : decode cL_law 1369 = .ok (.istore 5, 2) := by decide +kernel
theorem dL_law_1371 : decode cL_law 1371 = .ok (.aload_n 2, 1) := by decide +kernel
theorem dL_law_1372 : decode cL_law 1372 = .ok (.invokevirtual 170, 3) := by decide +kernel
theorem dL_law_1375 : decode cL_law 1375 = .ok (.istore 6, 2) := by decide +kernel
theorem dL_law_1377 : decode cL_law 1377 = .ok (.aload_n 2, 1) := by decide +kernel
theorem dL_law_1378 : decode cL_law 1378 = .ok (.invokevirtual 108, 3) := by decide +kernel
theorem dL_law_1381 : decode cL_law 1381 = .ok (.iload 5, 2) := by decide +kernel
theorem dL_law_1383 : decode cL_law 1383 = .ok (.if_icmp .eq 5, 3) := by decide +kernel
theorem dL_law_1386 : decode cL_law 1386 = .ok (.iconst 0, 1) := by decide +kernel
theorem dL_law_1387 : decode cL_law 1387 = .ok (.ireturn, 1) := by decide +kernel
theorem dL_law_1388 : decode cL_law 1388 = .ok (.iload 5, 2) := by decide +kernel
theorem dL_law_1390 : decode cL_law 1390 = .ok (.ifCond .ne 15, 3) := by decide +kernel
theorem dL_law_1393 : decode cL_law 1393 = .ok (.aload_n 3, 1) := by decide +kernel
theorem dL_law_1394 : decode cL_law 1394 = .ok (.iconst 0, 1) := by decide +kernel
theorem dL_law_1395 : decode cL_law 1395 = .ok (.laload, 1) := by decide +kernel
theorem dL_law_1396 : decode cL_law 1396 = .ok (.iload 6, 2) := by decide +kernel
theorem dL_law_1398 : decode cL_law 1398 = .ok (.i2l, 1) := by decide +kernel
theorem dL_law_1399 : decode cL_law 1399 = .ok (.lcmp, 1) := by decide +kernel
theorem dL_law_1400 : decode cL_law 1400 = .ok (.ifCond .eq 5, 3) := by decide +kernel
theorem dL_law_1403 : decode cL_law 1403 = .ok (.iconst 0, 1) := by decide +kernel
theorem dL_law_1404 : decode cL_law 1404 = .ok (.ireturn, 1) := by decide +kernel
theorem dL_law_1405 : decode cL_law 1405 = .ok (.goto 358, 3) := by decide +kernel
theorem dL_law_1408 : decode cL_law 1408 = .ok (.aload_n 1, 1) := by decide +kernel
theorem dL_law_1409 : decode cL_law 1409 = .ok (.aload_n 0, 1) := by decide +kernel
theorem dL_law_1410 : decode cL_law 1410 = .ok (.iload 4, 2) := by decide +kernel
theorem dL_law_1412 : decode cL_law 1412 = .ok (.iconst 1, 1) := by decide +kernel
theorem dL_law_1413 : decode cL_law 1413 = .ok (.iadd, 1) := by decide +kernel
theorem dL_law_1414 : decode cL_law 1414 = .ok (.iaload, 1) := by decide +kernel
theorem dL_law_1415 : decode cL_law 1415 = .ok (.aload_n 0, 1) := by decide +kernel
theorem dL_law_1416 : decode cL_law 1416 = .ok (.iload 4, 2) := by decide +kernel
theorem dL_law_1418 : decode cL_law 1418 = .ok (.iconst 2, 1) := by decide +kernel
theorem dL_law_1419 : decode cL_law 1419 = .ok (.iadd, 1) := by decide +kernel
theorem dL_law_1420 : decode cL_law 1420 = .ok (.iaload, 1) := by decide +kernel
theorem dL_law_1421 : decode cL_law 1421 = .ok (.aload_n 3, 1) := by decide +kernel
theorem dL_law_1422 : decode cL_law 1422 = .ok (.invokestatic 171, 3) := by decide +kernel
theorem dL_law_1425 : decode cL_law 1425 = .ok (.istore 5, 2) := by decide +kernel
theorem dL_law_1427 : decode cL_law 1427 = .ok (.aload_n 2, 1) := by decide +kernel
theorem dL_law_1428 : decode cL_law 1428 = .ok (.aload_n 0, 1) := by decide +kernel
theorem dL_law_1429 : decode cL_law 1429 = .ok (.iload 4, 2) := by decide +kernel
theorem dL_law_1431 : decode cL_law 1431 = .ok (.iconst 1, 1) := by decide +kernel
theorem dL_law_1432 : decode cL_law 1432 = .ok (.iadd, 1) := by decide +kernel
theorem dL_law_1433 : decode cL_law 1433 = .ok (.iaload, 1) := by decide +kernel
theorem dL_law_1434 : decode cL_law 1434 = .ok (.aload_n 0, 1) := by decide +kernel
theorem dL_law_1435 : decode cL_law 1435 = .ok (.iload 4, 2) := by decide +kernel
theorem dL_law_1437 : decode cL_law 1437 = .ok (.iconst 2, 1) := by decide +kernel
theorem dL_law_1438 : decode cL_law 1438 = .ok (.iadd, 1) := by decide +kernel
theorem dL_law_1439 : decode cL_law 1439 = .ok (.iaload, 1) := by decide +kernel
theorem dL_law_1440 : decode cL_law 1440 = .ok (.invokevirtual 173, 3) := by decide +kernel
theorem dL_law_1443 : decode cL_law 1443 = .ok (.istore 6, 2) := by decide +kernel
theorem dL_law_1445 : decode cL_law 1445 = .ok (.aload_n 2, 1) := by decide +kernel
theorem dL_law_1446 : decode cL_law 1446 = .ok (.invokevirtual 108, 3) := by decide +kernel
theorem dL_law_1449 : decode cL_law 1449 = .ok (.iload 5, 2) := by decide +kernel
theorem dL_law_1451 : decode cL_law 1451 = .ok (.if_icmp .eq 5, 3) := by decide +kernel
theorem dL_law_1454 : decode cL_law 1454 = .ok (.iconst 0, 1) := by decide +kernel
theorem dL_law_1455 : decode cL_law 1455 = .ok (.ireturn, 1) := by decide +kernel
theorem dL_law_1456 : decode cL_law 1456 = .ok (.iload 5, 2) := by decide +kernel
theorem dL_law_1458 : decode cL_law 1458 = .ok (.ifCond .ne 22, 3) := by decide +kernel
theorem dL_law_1461 : decode cL_law 1461 = .ok (.aload_n 3, 1) := by decide +kernel
theorem dL_law_1462 : decode cL_law 1462 = .ok (.iconst 0, 1) := by decide +kernel
theorem dL_law_1463 : decode cL_law 1463 = .ok (.laload, 1) := by decide +kernel
theorem dL_law_1464 : decode cL_law 1464 = .ok (.iload 6, 2) := by decide +kernel
theorem dL_law_1466 : decode cL_law 1466 = .ok (.ifCond .eq 7, 3) := by decide +kernel
theorem dL_law_1469 : decode cL_law 1469 = .ok (.lconst 1, 1) := by decide +kernel
theorem dL_law_1470 : decode cL_law 1470 = .ok (.goto 4, 3) := by decide +kernel
theorem dL_law_1473 : decode cL_law 1473 = .ok (.lconst 0, 1) := by decide +kernel
theorem dL_law_1474 : decode cL_law 1474 = .ok (.lcmp, 1) := by decide +kernel
theorem dL_law_1475 : decode cL_law 1475 = .ok (.ifCond .eq 5, 3) := by decide +kernel
theorem dL_law_1478 : decode cL_law 1478 = .ok (.iconst 0, 1) := by decide +kernel
theorem dL_law_1479 : decode cL_law 1479 = .ok (.ireturn, 1) := by decide +kernel
theorem dL_law_1480 : decode cL_law 1480 = .ok (.goto 283, 3) := by decide +kernel
theorem dL_law_1483 : decode cL_law 1483 = .ok (.aload_n 1, 1) := by decide +kernel
theorem dL_law_1484 : decode cL_law 1484 = .ok (.aload_n 3, 1) := by decide +kernel
theorem dL_law_1485 : decode cL_law 1485 = .ok (.invokestatic 174, 3) := by decide +kernel
theorem dL_law_1488 : decode cL_law 1488 = .ok (.istore 5, 2) := by decide +kernel
theorem dL_law_1490 : decode cL_law 1490 = .ok (.aload_n 2, 1) := by decide +kernel
theorem dL_law_1491 : decode cL_law 1491 = .ok (.invokevirtual 176, 3) := by decide +kernel
theorem dL_law_1494 : decode cL_law 1494 = .ok (.istore 6, 2) := by decide +kernel
theorem dL_law_1496 : decode cL_law 1496 = .ok (.aload_n 2, 1) := by decide +kernel
theorem dL_law_1497 : decode cL_law 1497 = .ok (.invokevirtual 108, 3) := by decide +kernel
theorem dL_law_1500 : decode cL_law 1500 = .ok (.iload 5, 2) := by decide +kernel
theorem dL_law_1502 : decode cL_law 1502 = .ok (.if_icmp .eq 5, 3) := by decide +kernel
theorem dL_law_1505 : decode cL_law 1505 = .ok (.iconst 0, 1) := by decide +kernel
theorem dL_law_1506 : decode cL_law 1506 = .ok (.ireturn, 1) := by decide +kernel
theorem dL_law_1507 : decode cL_law 1507 = .ok (.iload 5, 2) := by decide +kernel
theorem dL_law_1509 : decode cL_law 1509 = .ok (.ifCond .ne 15, 3) := by decide +kernel
theorem dL_law_1512 : decode cL_law 1512 = .ok (.aload_n 3, 1) := by decide +kernel
theorem dL_law_1513 : decode cL_law 1513 = .ok (.iconst 0, 1) := by decide +kernel
theorem dL_law_1514 : decode cL_law 1514 = .ok (.laload, 1) := by decide +kernel
theorem dL_law_1515 : decode cL_law 1515 = .ok (.iload 6, 2) := by decide +kernel
theorem dL_law_1517 : decode cL_law 1517 = .ok (.i2l, 1) := by decide +kernel
theorem dL_law_1518 : decode cL_law 1518 = .ok (.lcmp, 1) := by decide +kernel
theorem dL_law_1519 : decode cL_law 1519 = .ok (.ifCond .eq 5, 3) := by decide +kernel
theorem dL_law_1522 : decode cL_law 1522 = .ok (.iconst 0, 1) := by decide +kernel
theorem dL_law_1523 : decode cL_law 1523 = .ok (.ireturn, 1) := by decide +kernel
theorem dL_law_1524 : decode cL_law 1524 = .ok (.goto 239, 3) := by decide +kernel
theorem dL_law_1527 : decode cL_law 1527 = .ok (.aload_n 1, 1) := by decide +kernel
theorem dL_law_1528 : decode cL_law 1528 = .ok (.aload_n 0, 1) := by decide +kernel
theorem dL_law_1529 : decode cL_law 1529 = .ok (.iload 4, 2) := by decide +kernel
theorem dL_law_1531 : decode cL_law 1531 = .ok (.iconst 1, 1) := by decide +kernel
theorem dL_law_1532 : decode cL_law 1532 = .ok (.iadd, 1) := by decide +kernel
theorem dL_law_1533 : decode cL_law 1533 = .ok (.iaload, 1) := by decide +kernel
theorem dL_law_1534 : decode cL_law 1534 = .ok (.aload_n 3, 1) := by decide +kernel
theorem dL_law_1535 : decode cL_law 1535 = .ok (.invokestatic 177, 3) := by decide +kernel
theorem dL_law_1538 : decode cL_law 1538 = .ok (.istore 5, 2) := by decide +kernel
theorem dL_law_1540 : decode cL_law 1540 = .ok (.aload_n 2, 1) := by decide +kernel
theorem dL_law_1541 : decode cL_law 1541 = .ok (.aload_n 0, 1) := by decide +kernel
theorem dL_law_1542 : decode cL_law 1542 = .ok (.iload 4, 2) := by decide +kernel
theorem dL_law_1544 : decode cL_law 1544 = .ok (.iconst 1, 1) := by decide +kernel
theorem dL_law_1545 : decode cL_law 1545 = .ok (.iadd, 1) := by decide +kernel
theorem dL_law_1546 : decode cL_law 1546 = .ok (.iaload, 1) := by decide +kernel
theorem dL_law_1547 : decode cL_law 1547 = .ok (.invokevirtual 179, 3) := by decide +kernel
theorem dL_law_1550 : decode cL_law 1550 = .ok (.istore 6, 2) := by decide +kernel
theorem dL_law_1552 : decode cL_law 1552 = .ok (.aload_n 2, 1) := by decide +kernel
theorem dL_law_1553 : decode cL_law 1553 = .ok (.invokevirtual 108, 3) := by decide +kernel
theorem dL_law_1556 : decode cL_law 1556 = .ok (.iload 5, 2) := by decide +kernel
theorem dL_law_1558 : decode cL_law 1558 = .ok (.if_icmp .eq 5, 3) := by decide +kernel
theorem dL_law_1561 : decode cL_law 1561 = .ok (.iconst 0, 1) := by decide +kernel
theorem dL_law_1562 : decode cL_law 1562 = .ok (.ireturn, 1) := by decide +kernel
theorem dL_law_1563 : decode cL_law 1563 = .ok (.iload 5, 2) := by decide +kernel
theorem dL_law_1565 : decode cL_law 1565 = .ok (.ifCond .ne 15, 3) := by decide +kernel
theorem dL_law_1568 : decode cL_law 1568 = .ok (.aload_n 3, 1) := by decide +kernel
theorem dL_law_1569 : decode cL_law 1569 = .ok (.iconst 0, 1) := by decide +kernel
theorem dL_law_1570 : decode cL_law 1570 = .ok (.laload, 1) := by decide +kernel
theorem dL_law_1571 : decode cL_law 1571 = .ok (.iload 6, 2) := by decide +kernel
theorem dL_law_1573 : decode cL_law 1573 = .ok (.i2l, 1) := by decide +kernel
theorem dL_law_1574 : decode cL_law 1574 = .ok (.lcmp, 1) := by decide +kernel
theorem dL_law_1575 : decode cL_law 1575 = .ok (.ifCond .eq 5, 3) := by decide +kernel
theorem dL_law_1578 : decode cL_law 1578 = .ok (.iconst 0, 1) := by decide +kernel
theorem dL_law_1579 : decode cL_law 1579 = .ok (.ireturn, 1) := by decide +kernel
theorem dL_law_1580 : decode cL_law 1580 = .ok (.goto 183, 3) := by decide +kernel
theorem dL_law_1583 : decode cL_law 1583 = .ok (.aload_n 1, 1) := by decide +kernel
theorem dL_law_1584 : decode cL_law 1584 = .ok (.aload_n 0, 1) := by decide +kernel
theorem dL_law_1585 : decode cL_law 1585 = .ok (.iload 4, 2) := by decide +kernel
theorem dL_law_1587 : decode cL_law 1587 = .ok (.iconst 1, 1) := by decide +kernel
theorem dL_law_1588 : decode cL_law 1588 = .ok (.iadd, 1) := by decide +kernel
theorem dL_law_1589 : decode cL_law 1589 = .ok (.iaload, 1) := by decide +kernel
theorem dL_law_1590 : decode cL_law 1590 = .ok (.aload_n 3, 1) := by decide +kernel
theorem dL_law_1591 : decode cL_law 1591 = .ok (.invokestatic 180, 3) := by decide +kernel
theorem dL_law_1594 : decode cL_law 1594 = .ok (.istore 5, 2) := by decide +kernel
theorem dL_law_1596 : decode cL_law 1596 = .ok (.aload_n 2, 1) := by decide +kernel
theorem dL_law_1597 : decode cL_law 1597 = .ok (.aload_n 0, 1) := by decide +kernel
theorem dL_law_1598 : decode cL_law 1598 = .ok (.iload 4, 2) := by decide +kernel
theorem dL_law_1600 : decode cL_law 1600 = .ok (.iconst 1, 1) := by decide +kernel
theorem dL_law_1601 : decode cL_law 1601 = .ok (.iadd, 1) := by decide +kernel
theorem dL_law_1602 : decode cL_law 1602 = .ok (.iaload, 1) := by decide +kernel
theorem dL_law_1603 : decode cL_law 1603 = .ok (.invokevirtual 182, 3) := by decide +kernel
theorem dL_law_1606 : decode cL_law 1606 = .ok (.istore 6, 2) := by decide +kernel
theorem dL_law_1608 : decode cL_law 1608 = .ok (.aload_n 2, 1) := by decide +kernel
theorem dL_law_1609 : decode cL_law 1609 = .ok (.invokevirtual 108, 3) := by decide +kernel
theorem dL_law_1612 : decode cL_law 1612 = .ok (.iload 5, 2) := by decide +kernel
theorem dL_law_1614 : decode cL_law 1614 = .ok (.if_icmp .eq 5, 3) := by decide +kernel
theorem dL_law_1617 : decode cL_law 1617 = .ok (.iconst 0, 1) := by decide +kernel
theorem dL_law_1618 : decode cL_law 1618 = .ok (.ireturn, 1) := by decide +kernel
theorem dL_law_1619 : decode cL_law 1619 = .ok (.iload 5, 2) := by decide +kernel
theorem dL_law_1621 : decode cL_law 1621 = .ok (.ifCond .ne 15, 3) := by decide +kernel
theorem dL_law_1624 : decode cL_law 1624 = .ok (.aload_n 3, 1) := by decide +kernel
theorem dL_law_1625 : decode cL_law 1625 = .ok (.iconst 0, 1) := by decide +kernel
theorem dL_law_1626 : decode cL_law 1626 = .ok (.laload, 1) := by decide +kernel
theorem dL_law_1627 : decode cL_law 1627 = .ok (.iload 6, 2) := by decide +kernel
theorem dL_law_1629 : decode cL_law 1629 = .ok (.i2l, 1) := by decide +kernel
theorem dL_law_1630 : decode cL_law 1630 = .ok (.lcmp, 1) := by decide +kernel
theorem dL_law_1631 : decode cL_law 1631 = .ok (.ifCond .eq 5, 3) := by decide +kernel
theorem dL_law_1634 : decode cL_law 1634 = .ok (.iconst 0, 1) := by decide +kernel
theorem dL_law_1635 : decode cL_law 1635 = .ok (.ireturn, 1) := by decide +kernel
theorem dL_law_1636 : decode cL_law 1636 = .ok (.goto 127, 3) := by decide +kernel
theorem dL_law_1639 : decode cL_law 1639 = .ok (.aload_n 1, 1) := by decide +kernel
theorem dL_law_1640 : decode cL_law 1640 = .ok (.aload_n 0, 1) := by decide +kernel
theorem dL_law_1641 : decode cL_law 1641 = .ok (.iload 4, 2) := by decide +kernel
theorem dL_law_1643 : decode cL_law 1643 = .ok (.iconst 1, 1) := by decide +kernel
theorem dL_law_1644 : decode cL_law 1644 = .ok (.iadd, 1) := by decide +kernel
theorem dL_law_1645 : decode cL_law 1645 = .ok (.iaload, 1) := by decide +kernel
theorem dL_law_1646 : decode cL_law 1646 = .ok (.aload_n 0, 1) := by decide +kernel
theorem dL_law_1647 : decode cL_law 1647 = .ok (.iload 4, 2) := by decide +kernel
theorem dL_law_1649 : decode cL_law 1649 = .ok (.iconst 2, 1) := by decide +kernel
theorem dL_law_1650 : decode cL_law 1650 = .ok (.iadd, 1) := by decide +kernel
theorem dL_law_1651 : decode cL_law 1651 = .ok (.iaload, 1) := by decide +kernel
theorem dL_law_1652 : decode cL_law 1652 = .ok (.aload_n 3, 1) := by decide +kernel
theorem dL_law_1653 : decode cL_law 1653 = .ok (.invokestatic 183, 3) := by decide +kernel
theorem dL_law_1656 : decode cL_law 1656 = .ok (.istore 5, 2) := by decide +kernel
theorem dL_law_1658 : decode cL_law 1658 = .ok (.aload_n 2, 1) := by decide +kernel
theorem dL_law_1659 : decode cL_law 1659 = .ok (.aload_n 0, 1) := by decide +kernel
theorem dL_law_1660 : decode cL_law 1660 = .ok (.iload 4, 2) := by decide +kernel
theorem dL_law_1662 : decode cL_law 1662 = .ok (.iconst 1, 1) := by decide +kernel
theorem dL_law_1663 : decode cL_law 1663 = .ok (.iadd, 1) := by decide +kernel
theorem dL_law_1664 : decode cL_law 1664 = .ok (.iaload, 1) := by decide +kernel
theorem dL_law_1665 : decode cL_law 1665 = .ok (.aload_n 0, 1) := by decide +kernel
theorem dL_law_1666 : decode cL_law 1666 = .ok (.iload 4, 2) := by decide +kernel
theorem dL_law_1668 : decode cL_law 1668 = .ok (.iconst 2, 1) := by decide +kernel
theorem dL_law_1669 : decode cL_law 1669 = .ok (.iadd, 1) := by decide +kernel
theorem dL_law_1670 : decode cL_law 1670 = .ok (.iaload, 1) := by decide +kernel
theorem dL_law_1671 : decode cL_law 1671 = .ok (.invokevirtual 185, 3) := by decide +kernel
theorem dL_law_1674 : decode cL_law 1674 = .ok (.istore 6, 2) := by decide +kernel
theorem dL_law_1676 : decode cL_law 1676 = .ok (.aload_n 2, 1) := by decide +kernel
theorem dL_law_1677 : decode cL_law 1677 = .ok (.invokevirtual 108, 3) := by decide +kernel
theorem dL_law_1680 : decode cL_law 1680 = .ok (.iload 5, 2) := by decide +kernel
theorem dL_law_1682 : decode cL_law 1682 = .ok (.if_icmp .eq 5, 3) := by decide +kernel
theorem dL_law_1685 : decode cL_law 1685 = .ok (.iconst 0, 1) := by decide +kernel
theorem dL_law_1686 : decode cL_law 1686 = .ok (.ireturn, 1) := by decide +kernel
theorem dL_law_1687 : decode cL_law 1687 = .ok (.iload 5, 2) := by decide +kernel
theorem dL_law_1689 : decode cL_law 1689 = .ok (.ifCond .ne 15, 3) := by decide +kernel
theorem dL_law_1692 : decode cL_law 1692 = .ok (.aload_n 3, 1) := by decide +kernel
theorem dL_law_1693 : decode cL_law 1693 = .ok (.iconst 0, 1) := by decide +kernel
theorem dL_law_1694 : decode cL_law 1694 = .ok (.laload, 1) := by decide +kernel
theorem dL_law_1695 : decode cL_law 1695 = .ok (.iload 6, 2) := by decide +kernel
theorem dL_law_1697 : decode cL_law 1697 = .ok (.i2l, 1) := by decide +kernel
theorem dL_law_1698 : decode cL_law 1698 = .ok (.lcmp, 1) := by decide +kernel
theorem dL_law_1699 : decode cL_law 1699 = .ok (.ifCond .eq 5, 3) := by decide +kernel
theorem dL_law_1702 : decode cL_law 1702 = .ok (.iconst 0, 1) := by decide +kernel
theorem dL_law_1703 : decode cL_law 1703 = .ok (.ireturn, 1) := by decide +kernel
theorem dL_law_1704 : decode cL_law 1704 = .ok (.goto 59, 3) := by decide +kernel
theorem dL_law_1707 : decode cL_law 1707 = .ok (.aload_n 1, 1) := by decide +kernel
theorem dL_law_1708 : decode cL_law 1708 = .ok (.aload_n 0, 1) := by decide +kernel
theorem dL_law_1709 : decode cL_law 1709 = .ok (.iload 4, 2) := by decide +kernel
theorem dL_law_1711 : decode cL_law 1711 = .ok (.iconst 1, 1) := by decide +kernel
theorem dL_law_1712 : decode cL_law 1712 = .ok (.iadd, 1) := by decide +kernel
theorem dL_law_1713 : decode cL_law 1713 = .ok (.iaload, 1) := by decide +kernel
theorem dL_law_1714 : decode cL_law 1714 = .ok (.aload_n 3, 1) := by decide +kernel
theorem dL_law_1715 : decode cL_law 1715 = .ok (.invokestatic 186, 3) := by decide +kernel
theorem dL_law_1718 : decode cL_law 1718 = .ok (.istore 5, 2) := by decide +kernel
theorem dL_law_1720 : decode cL_law 1720 = .ok (.aload_n 2, 1) := by decide +kernel
theorem dL_law_1721 : decode cL_law 1721 = .ok (.aload_n 0, 1) := by decide +kernel
theorem dL_law_1722 : decode cL_law 1722 = .ok (.iload 4, 2) := by decide +kernel
theorem dL_law_1724 : decode cL_law 1724 = .ok (.iconst 1, 1) := by decide +kernel
theorem dL_law_1725 : decode cL_law 1725 = .ok (.iadd, 1) := by decide +kernel
theorem dL_law_1726 : decode cL_law 1726 = .ok (.iaload, 1) := by decide +kernel
theorem dL_law_1727 : decode cL_law 1727 = .ok (.invokevirtual 188, 3) := by decide +kernel
theorem dL_law_1730 : decode cL_law 1730 = .ok (.istore 6, 2) := by decide +kernel
theorem dL_law_1732 : decode cL_law 1732 = .ok (.aload_n 2, 1) := by decide +kernel
theorem dL_law_1733 : decode cL_law 1733 = .ok (.invokevirtual 108, 3) := by decide +kernel
theorem dL_law_1736 : decode cL_law 1736 = .ok (.iload 5, 2) := by decide +kernel
theorem dL_law_1738 : decode cL_law 1738 = .ok (.if_icmp .eq 5, 3) := by decide +kernel
theorem dL_law_1741 : decode cL_law 1741 = .ok (.iconst 0, 1) := by decide +kernel
theorem dL_law_1742 : decode cL_law 1742 = .ok (.ireturn, 1) := by decide +kernel
theorem dL_law_1743 : decode cL_law 1743 = .ok (.iload 5, 2) := by decide +kernel
theorem dL_law_1745 : decode cL_law 1745 = .ok (.ifCond .ne 15, 3) := by decide +kernel
theorem dL_law_1748 : decode cL_law 1748 = .ok (.aload_n 3, 1) := by decide +kernel
theorem dL_law_1749 : decode cL_law 1749 = .ok (.iconst 0, 1) := by decide +kernel
theorem dL_law_1750 : decode cL_law 1750 = .ok (.laload, 1) := by decide +kernel
theorem dL_law_1751 : decode cL_law 1751 = .ok (.iload 6, 2) := by decide +kernel
theorem dL_law_1753 : decode cL_law 1753 = .ok (.i2l, 1) := by decide +kernel
theorem dL_law_1754 : decode cL_law 1754 = .ok (.lcmp, 1) := by decide +kernel
theorem dL_law_1755 : decode cL_law 1755 = .ok (.ifCond .eq 5, 3) := by decide +kernel
theorem dL_law_1758 : decode cL_law 1758 = .ok (.iconst 0, 1) := by decide +kernel
theorem dL_law_1759 : decode cL_law 1759 = .ok (.ireturn, 1) := by decide +kernel
theorem dL_law_1760 : decode cL_law 1760 = .ok (.goto 3, 3) := by decide +kernel
theorem dL_law_1763 : decode cL_law 1763 = .ok (.iinc 4 6, 3) := by decide +kernel
theorem dL_law_1766 : decode cL_law 1766 = .ok (.goto (-1743), 3) := by decide +kernel
theorem dL_law_1769 : decode cL_law 1769 = .ok (.iconst 1, 1) := by decide +kernel
theorem dL_law_1770 : decode cL_law 1770 = .ok (.ireturn, 1) := by decide +kernel
