theorem dX5_addPerson_32 : decode cX5_addPerson 32 = .ok (.iload_n 3, 1) := by decide +kernel
theorem dX5_addPerson_33 : decode cX5_addPerson 33 = .ok (.ifCond .eq 16, 3) := by decide +kernel
theorem dX5_addPerson_36 : decode cX5_addPerson 36 = .ok (.aload_n 0, 1) := by decide +kernel
theorem dX5_addPerson_37 : decode cX5_addPerson 37 = .ok (.dup, 1) := by decide +kernel
theorem dX5_addPerson_38 : decode cX5_addPerson 38 = .ok (.getfield 70, 3) := by decide +kernel
theorem dX5_addPerson_41 : decode cX5_addPerson 41 = .ok (.iconst 1, 1) := by decide +kernel
theorem dX5_addPerson_42 : decode cX5_addPerson 42 = .ok (.iload 4, 2) := by decide +kernel
theorem dX5_addPerson_44 : decode cX5_addPerson 44 = .ok (.ishl, 1) := by decide +kernel
theorem dX5_addPerson_45 : decode cX5_addPerson 45 = .ok (.ior, 1) := by decide +kernel
theorem dX5_addPerson_46 : decode cX5_addPerson 46 = .ok (.putfield 70, 3) := by decide +kernel
theorem dX5_addPerson_49 : decode cX5_addPerson 49 = .ok (.aload_n 0, 1) := by decide +kernel
theorem dX5_addPerson_50 : decode cX5_addPerson 50 = .ok (.getfield 58, 3) := by decide +kernel
theorem dX5_addPerson_53 : decode cX5_addPerson 53 = .ok (.ifCond .ne 16, 3) := by decide +kernel
theorem dX5_addPerson_56 : decode cX5_addPerson 56 = .ok (.aload_n 0, 1) := by decide +kernel
theorem dX5_addPerson_57 : decode cX5_addPerson 57 = .ok (.dup, 1) := by decide +kernel
theorem dX5_addPerson_58 : decode cX5_addPerson 58 = .ok (.getfield 61, 3) := by decide +kernel
theorem dX5_addPerson_61 : decode cX5_addPerson 61 = .ok (.iconst 1, 1) := by decide +kernel
theorem dX5_addPerson_62 : decode cX5_addPerson 62 = .ok (.iload 4, 2) := by decide +kernel
theorem dX5_addPerson_64 : decode cX5_addPerson 64 = .ok (.ishl, 1) := by decide +kernel
theorem dX5_addPerson_65 : decode cX5_addPerson 65 = .ok (.ior, 1) := by decide +kernel
theorem dX5_addPerson_66 : decode cX5_addPerson 66 = .ok (.putfield 61, 3) := by decide +kernel
theorem dX5_addPerson_69 : decode cX5_addPerson 69 = .ok (.aload_n 0, 1) := by decide +kernel
theorem dX5_addPerson_70 : decode cX5_addPerson 70 = .ok (.getfield 27, 3) := by decide +kernel
theorem dX5_addPerson_73 : decode cX5_addPerson 73 = .ok (.aload_n 0, 1) := by decide +kernel
theorem dX5_addPerson_74 : decode cX5_addPerson 74 = .ok (.getfield 58, 3) := by decide +kernel
theorem dX5_addPerson_77 : decode cX5_addPerson 77 = .ok (.iaload, 1) := by decide +kernel
theorem dX5_addPerson_78 : decode cX5_addPerson 78 = .ok (.iconst (-1), 1) := by decide +kernel
theorem dX5_addPerson_79 : decode cX5_addPerson 79 = .ok (.if_icmp .eq 19, 3) := by decide +kernel
theorem dX5_addPerson_82 : decode cX5_addPerson 82 = .ok (.aload_n 0, 1) := by decide +kernel
theorem dX5_addPerson_83 : decode cX5_addPerson 83 = .ok (.iload 4, 2) := by decide +kernel
theorem dX5_addPerson_85 : decode cX5_addPerson 85 = .ok (.aload_n 0, 1) := by decide +kernel
theorem dX5_addPerson_86 : decode cX5_addPerson 86 = .ok (.getfield 27, 3) := by decide +kernel
theorem dX5_addPerson_89 : decode cX5_addPerson 89 = .ok (.aload_n 0, 1) := by decide +kernel
theorem dX5_addPerson_90 : decode cX5_addPerson 90 = .ok (.getfield 58, 3) := by decide +kernel
theorem dX5_addPerson_93 : decode cX5_addPerson 93 = .ok (.iaload, 1) := by decide +kernel
theorem dX5_addPerson_94 : decode cX5_addPerson 94 = .ok (.iload_n 3, 1) := by decide +kernel
theorem dX5_addPerson_95 : decode cX5_addPerson 95 = .ok (.invokevirtual 86, 3) := by decide +kernel
theorem dX5_addPerson_98 : decode cX5_addPerson 98 = .ok (.aload_n 0, 1) := by decide +kernel
theorem dX5_addPerson_99 : decode cX5_addPerson 99 = .ok (.getfield 27, 3) := by decide +kernel
theorem dX5_addPerson_102 : decode cX5_addPerson 102 = .ok (.aload_n 0, 1) := by decide +kernel
theorem dX5_addPerson_103 : decode cX5_addPerson 103 = .ok (.getfield 58, 3) := by decide +kernel
theorem dX5_addPerson_106 : decode cX5_addPerson 106 = .ok (.iload 4, 2) := by decide +kernel
theorem dX5_addPerson_108 : decode cX5_addPerson 108 = .ok (.iastore, 1) := by decide +kernel
theorem dX5_addPerson_109 : decode cX5_addPerson 109 = .ok (.aload_n 0, 1) := by decide +kernel
theorem dX5_addPerson_110 : decode cX5_addPerson 110 = .ok (.getfield 30, 3) := by decide +kernel
theorem dX5_addPerson_113 : decode cX5_addPerson 113 = .ok (.aload_n 0, 1) := by decide +kernel
theorem dX5_addPerson_114 : decode cX5_addPerson 114 = .ok (.getfield 58, 3) := by decide +kernel
theorem dX5_addPerson_117 : decode cX5_addPerson 117 = .ok (.dup2, 1) := by decide +kernel
theorem dX5_addPerson_118 : decode cX5_addPerson 118 = .ok (.iaload, 1) := by decide +kernel
theorem dX5_addPerson_119 : decode cX5_addPerson 119 = .ok (.iconst 1, 1) := by decide +kernel
theorem dX5_addPerson_120 : decode cX5_addPerson 120 = .ok (.iadd, 1) := by decide +kernel
theorem dX5_addPerson_121 : decode cX5_addPerson 121 = .ok (.iastore, 1) := by decide +kernel
theorem dX5_addPerson_122 : decode cX5_addPerson 122 = .ok (.return_, 1) := by decide +kernel
theorem dX5_holdHands_0 : decode cX5_holdHands 0 = .ok (.aload_n 0, 1) := by decide +kernel
theorem dX5_holdHands_1 : decode cX5_holdHands 1 = .ok (.getfield 21, 3) := by decide +kernel
theorem dX5_holdHands_4 : decode cX5_holdHands 4 = .ok (.iload_n 1, 1) := by decide +kernel
theorem dX5_holdHands_5 : decode cX5_holdHands 5 = .ok (.dup2, 1) := by decide +kernel
theorem dX5_holdHands_6 : decode cX5_holdHands 6 = .ok (.iaload, 1) := by decide +kernel
theorem dX5_holdHands_7 : decode cX5_holdHands 7 = .ok (.iconst 1, 1) := by decide +kernel
theorem dX5_holdHands_8 : decode cX5_holdHands 8 = .ok (.iload_n 2, 1) := by decide +kernel
theorem dX5_holdHands_9 : decode cX5_holdHands 9 = .ok (.ishl, 1) := by decide +kernel
theorem dX5_holdHands_10 : decode cX5_holdHands 10 = .ok (.ior, 1) := by decide +kernel
theorem dX5_holdHands_11 : decode cX5_holdHands 11 = .ok (.iastore, 1) := by decide +kernel
theorem dX5_holdHands_12 : decode cX5_holdHands 12 = .ok (.aload_n 0, 1) := by decide +kernel
theorem dX5_holdHands_13 : decode cX5_holdHands 13 = .ok (.getfield 21, 3) := by decide +kernel
theorem dX5_holdHands_16 : decode cX5_holdHands 16 = .ok (.iload_n 2, 1) := by decide +kernel
theorem dX5_holdHands_17 : decode cX5_holdHands 17 = .ok (.dup2, 1) := by decide +kernel
theorem dX5_holdHands_18 : decode cX5_holdHands 18 = .ok (.iaload, 1) := by decide +kernel
theorem dX5_holdHands_19 : decode cX5_holdHands 19 = .ok (.iconst 1, 1) := by decide +kernel
theorem dX5_holdHands_20 : decode cX5_holdHands 20 = .ok (.iload_n 1, 1) := by decide +kernel
theorem dX5_holdHands_21 : decode cX5_holdHands 21 = .ok (.ishl, 1) := by decide +kernel
theorem dX5_holdHands_22 : decode cX5_holdHands 22 = .ok (.ior, 1) := by decide +kernel
theorem dX5_holdHands_23 : decode cX5_holdHands 23 = .ok (.iastore, 1) := by decide +kernel
theorem dX5_holdHands_24 : decode cX5_holdHands 24 = .ok (.iload_n 3, 1) := by decide +kernel
theorem dX5_holdHands_25 : decode cX5_holdHands 25 = .ok (.ifCond .eq 27, 3) := by decide +kernel
theorem dX5_holdHands_28 : decode cX5_holdHands 28 = .ok (.aload_n 0, 1) := by decide +kernel
theorem dX5_holdHands_29 : decode cX5_holdHands 29 = .ok (.getfield 24, 3) := by decide +kernel
theorem dX5_holdHands_32 : decode cX5_holdHands 32 = .ok (.iload_n 1, 1) := by decide +kernel
theorem dX5_holdHands_33 : decode cX5_holdHands 33 = .ok (.dup2, 1) := by decide +kernel
theorem dX5_holdHands_34 : decode cX5_holdHands 34 = .ok (.iaload, 1) := by decide +kernel
theorem dX5_holdHands_35 : decode cX5_holdHands 35 = .ok (.iconst 1, 1) := by decide +kernel
theorem dX5_holdHands_36 : decode cX5_holdHands 36 = .ok (.iload_n 2, 1) := by decide +kernel
theorem dX5_holdHands_37 : decode cX5_holdHands 37 = .ok (.ishl, 1) := by decide +kernel
theorem dX5_holdHands_38 : decode cX5_holdHands 38 = .ok (.ior, 1) := by decide +kernel
theorem dX5_holdHands_39 : decode cX5_holdHands 39 = .ok (.iastore, 1) := by decide +kernel
theorem dX5_holdHands_40 : decode cX5_holdHands 40 = .ok (.aload_n 0, 1) := by decide +kernel
theorem dX5_holdHands_41 : decode cX5_holdHands 41 = .ok (.getfield 24, 3) := by decide +kernel
theorem dX5_holdHands_44 : decode cX5_holdHands 44 = .ok (.iload_n 2, 1) := by decide +kernel
theorem dX5_holdHands_45 : decode cX5_holdHands 45 = .ok (.dup2, 1) := by decide +kernel
theorem dX5_holdHands_46 : decode cX5_holdHands 46 = .ok (.iaload, 1) := by decide +kernel
theorem dX5_holdHands_47 : decode cX5_holdHands 47 = .ok (.iconst 1, 1) := by decide +kernel
theorem dX5_holdHands_48 : decode cX5_holdHands 48 = .ok (.iload_n 1, 1) := by decide +kernel
theorem dX5_holdHands_49 : decode cX5_holdHands 49 = .ok (.ishl, 1) := by decide +kernel
theorem dX5_holdHands_50 : decode cX5_holdHands 50 = .ok (.ior, 1) := by decide +kernel
theorem dX5_holdHands_51 : decode cX5_holdHands 51 = .ok (.iastore, 1) := by decide +kernel
theorem dX5_holdHands_52 : decode cX5_holdHands 52 = .ok (.return_, 1) := by decide +kernel
set_option maxRecDepth 20000 in
theorem ggX6_init_J7_fill_53178 : GoodIn wsX6_init wsJ7_fill_53178 := goodIn_r _ [12] (by decide +kernel) (by decide +kernel)
set_option maxRecDepth 20000 in
theorem gX6_init_J7_fill_53178 : GoodIn wsX6_init (va_wsS RX6 25 yJ7_fill_53178 wsJ7_fill_53178) := goodIn_app (goodIn_of _ (by decide +kernel)) ggX6_init_J7_fill_53178
theorem dX6_init_0 : decode cX6_init 0 = .ok (.aload_n 0, 1) := by decide +kernel
theorem dX6_init_1 : decode cX6_init 1 = .ok (.invokespecial 3, 3) := by decide +kernel
theorem dX6_init_4 : decode cX6_init 4 = .ok (.aload_n 0, 1) := by decide +kernel
theorem dX6_init_5 : decode cX6_init 5 = .ok (.sipush 240, 3) := by decide +kernel
theorem dX6_init_8 : decode cX6_init 8 = .ok (.newarray .int, 2) := by decide +kernel
theorem dX6_init_10 : decode cX6_init 10 = .ok (.putfield 11, 3) := by decide +kernel
theorem dX6_init_13 : decode cX6_init 13 = .ok (.aload_n 0, 1) := by decide +kernel
theorem dX6_init_14 : decode cX6_init 14 = .ok (.iconst 4, 1) := by decide +kernel
theorem dX6_init_15 : decode cX6_init 15 = .ok (.newarray .int, 2) := by decide +kernel
theorem dX6_init_17 : decode cX6_init 17 = .ok (.putfield 15, 3) := by decide +kernel
theorem dX6_init_20 : decode cX6_init 20 = .ok (.aload_n 0, 1) := by decide +kernel
theorem dX6_init_21 : decode cX6_init 21 = .ok (.iconst 4, 1) := by decide +kernel
theorem dX6_init_22 : decode cX6_init 22 = .ok (.newarray .int, 2) := by decide +kernel
theorem dX6_init_24 : decode cX6_init 24 = .ok (.putfield 18, 3) := by decide +kernel
theorem dX6_init_27 : decode cX6_init 27 = .ok (.aload_n 0, 1) := by decide +kernel
theorem dX6_init_28 : decode cX6_init 28 = .ok (.iconst 0, 1) := by decide +kernel
theorem dX6_init_29 : decode cX6_init 29 = .ok (.putfield 21, 3) := by decide +kernel
theorem dX6_init_32 : decode cX6_init 32 = .ok (.aload_n 0, 1) := by decide +kernel
theorem dX6_init_33 : decode cX6_init 33 = .ok (.getfield 15, 3) := by decide +kernel
theorem dX6_init_36 : decode cX6_init 36 = .ok (.iconst (-1), 1) := by decide +kernel
theorem dX6_init_37 : decode cX6_init 37 = .ok (.invokestatic 25, 3) := by decide +kernel
theorem dX6_init_40 : decode cX6_init 40 = .ok (.return_, 1) := by decide +kernel
theorem dX6_isPlace_0 : decode cX6_isPlace 0 = .ok (.iload_n 0, 1) := by decide +kernel
theorem dX6_isPlace_1 : decode cX6_isPlace 1 = .ok (.ifCond .lt 12, 3) := by decide +kernel
theorem dX6_isPlace_4 : decode cX6_isPlace 4 = .ok (.iload_n 0, 1) := by decide +kernel
theorem dX6_isPlace_5 : decode cX6_isPlace 5 = .ok (.iconst 4, 1) := by decide +kernel
theorem dX6_isPlace_6 : decode cX6_isPlace 6 = .ok (.if_icmp .ge 7, 3) := by decide +kernel
theorem dX6_isPlace_9 : decode cX6_isPlace 9 = .ok (.iconst 1, 1) := by decide +kernel
theorem dX6_isPlace_10 : decode cX6_isPlace 10 = .ok (.goto 4, 3) := by decide +kernel
theorem dX6_isPlace_13 : decode cX6_isPlace 13 = .ok (.iconst 0, 1) := by decide +kernel
theorem dX6_isPlace_14 : decode cX6_isPlace 14 = .ok (.ireturn, 1) := by decide +kernel
theorem dX6_isForm_0 : decode cX6_isForm 0 = .ok (.iload_n 0, 1) := by decide +kernel
theorem dX6_isForm_1 : decode cX6_isForm 1 = .ok (.ifCond .lt 12, 3) := by decide +kernel
theorem dX6_isForm_4 : decode cX6_isForm 4 = .ok (.iload_n 0, 1) := by decide +kernel
theorem dX6_isForm_5 : decode cX6_isForm 5 = .ok (.iconst 2, 1) := by decide +kernel
theorem dX6_isForm_6 : decode cX6_isForm 6 = .ok (.if_icmp .gt 7, 3) := by decide +kernel
theorem dX6_isForm_9 : decode cX6_isForm 9 = .ok (.iconst 1, 1) := by decide +kernel
theorem dX6_isForm_10 : decode cX6_isForm 10 = .ok (.goto 4, 3) := by decide +kernel
theorem dX6_isForm_13 : decode cX6_isForm 13 = .ok (.iconst 0, 1) := by decide +kernel
theorem dX6_isForm_14 : decode cX6_isForm 14 = .ok (.ireturn, 1) := by decide +kernel
theorem dX6_isLost_0 : decode cX6_isLost 0 = .ok (.aload_n 0, 1) := by decide +kernel
theorem dX6_isLost_1 : decode cX6_isLost 1 = .ok (.getfield 15, 3) := by decide +kernel
theorem dX6_isLost_4 : decode cX6_isLost 4 = .ok (.iload_n 1, 1) := by decide +kernel
theorem dX6_isLost_5 : decode cX6_isLost 5 = .ok (.iaload, 1) := by decide +kernel
theorem dX6_isLost_6 : decode cX6_isLost 6 = .ok (.iconst (-1), 1) := by decide +kernel
theorem dX6_isLost_7 : decode cX6_isLost 7 = .ok (.if_icmp .ne 7, 3) := by decide +kernel
theorem dX6_isLost_10 : decode cX6_isLost 10 = .ok (.iconst 1, 1) := by decide +kernel
theorem dX6_isLost_11 : decode cX6_isLost 11 = .ok (.goto 4, 3) := by decide +kernel
theorem dX6_isLost_14 : decode cX6_isLost 14 = .ok (.iconst 0, 1) := by decide +kernel
theorem dX6_isLost_15 : decode cX6_isLost 15 = .ok (.ireturn, 1) := by decide +kernel
theorem dX6_finding_0 : decode cX6_finding 0 = .ok (.aload_n 0, 1) := by decide +kernel
theorem dX6_finding_1 : decode cX6_finding 1 = .ok (.iload_n 1, 1) := by decide +kernel
theorem dX6_finding_2 : decode cX6_finding 2 = .ok (.putfield 21, 3) := by decide +kernel
theorem dX6_finding_5 : decode cX6_finding 5 = .ok (.bipush (-10), 2) := by decide +kernel
theorem dX6_finding_7 : decode cX6_finding 7 = .ok (.iload_n 1, 1) := by decide +kernel
theorem dX6_finding_8 : decode cX6_finding 8 = .ok (.isub, 1) := by decide +kernel
theorem dX6_finding_9 : decode cX6_finding 9 = .ok (.ireturn, 1) := by decide +kernel
set_option maxRecDepth 20000 in
theorem ggX6_findingAt_X6_isLost : GoodIn wsX6_findingAt wsX6_isLost := goodIn_r _ [7, 1, 8, 9, 10, 11] (by decide +kernel) (by decide +kernel)
set_option maxRecDepth 20000 in
theorem gX6_findingAt_X6_isLost : GoodIn wsX6_findingAt (wsV RX6 31 RX6 yX6_isLost wsX6_isLost) := goodIn_app (goodIn_of _ (by decide +kernel)) ggX6_findingAt_X6_isLost
theorem dX6_findingAt_0 : decode cX6_findingAt 0 = .ok (.aload_n 0, 1) := by decide +kernel
theorem dX6_findingAt_1 : decode cX6_findingAt 1 = .ok (.iload_n 1, 1) := by decide +kernel
theorem dX6_findingAt_2 : decode cX6_findingAt 2 = .ok (.invokevirtual 31, 3) := by decide +kernel
theorem dX6_findingAt_5 : decode cX6_findingAt 5 = .ok (.ifCond .eq 5, 3) := by decide +kernel
theorem dX6_findingAt_8 : decode cX6_findingAt 8 = .ok (.iconst 1, 1) := by decide +kernel
theorem dX6_findingAt_9 : decode cX6_findingAt 9 = .ok (.ireturn, 1) := by decide +kernel
theorem dX6_findingAt_10 : decode cX6_findingAt 10 = .ok (.aload_n 0, 1) := by decide +kernel
theorem dX6_findingAt_11 : decode cX6_findingAt 11 = .ok (.getfield 15, 3) := by decide +kernel
theorem dX6_findingAt_14 : decode cX6_findingAt 14 = .ok (.iload_n 1, 1) := by decide +kernel
theorem dX6_findingAt_15 : decode cX6_findingAt 15 = .ok (.iaload, 1) := by decide +kernel
theorem dX6_findingAt_16 : decode cX6_findingAt 16 = .ok (.iload_n 2, 1) := by decide +kernel
theorem dX6_findingAt_17 : decode cX6_findingAt 17 = .ok (.if_icmp .eq 5, 3) := by decide +kernel
theorem dX6_findingAt_20 : decode cX6_findingAt 20 = .ok (.iconst 3, 1) := by decide +kernel
theorem dX6_findingAt_21 : decode cX6_findingAt 21 = .ok (.ireturn, 1) := by decide +kernel
theorem dX6_findingAt_22 : decode cX6_findingAt 22 = .ok (.iload_n 3, 1) := by decide +kernel
theorem dX6_findingAt_23 : decode cX6_findingAt 23 = .ok (.ifCond .lt 13, 3) := by decide +kernel
theorem dX6_findingAt_26 : decode cX6_findingAt 26 = .ok (.iload_n 3, 1) := by decide +kernel
theorem dX6_findingAt_27 : decode cX6_findingAt 27 = .ok (.aload_n 0, 1) := by decide +kernel
theorem dX6_findingAt_28 : decode cX6_findingAt 28 = .ok (.getfield 18, 3) := by decide +kernel
theorem dX6_findingAt_31 : decode cX6_findingAt 31 = .ok (.iload_n 1, 1) := by decide +kernel
theorem dX6_findingAt_32 : decode cX6_findingAt 32 = .ok (.iaload, 1) := by decide +kernel
theorem dX6_findingAt_33 : decode cX6_findingAt 33 = .ok (.if_icmp .lt 7, 3) := by decide +kernel
theorem dX6_findingAt_36 : decode cX6_findingAt 36 = .ok (.iconst 2, 1) := by decide +kernel
theorem dX6_findingAt_37 : decode cX6_findingAt 37 = .ok (.goto 4, 3) := by decide +kernel
theorem dX6_findingAt_40 : decode cX6_findingAt 40 = .ok (.iconst 0, 1) := by decide +kernel
theorem dX6_findingAt_41 : decode cX6_findingAt 41 = .ok (.ireturn, 1) := by decide +kernel
set_option maxRecDepth 20000 in
theorem ggX6_layOut_X6_finding : GoodIn wsX6_layOut wsX6_finding := goodIn_r _ [7, 8, 14, 15, 16, 17] (by decide +kernel) (by decide +kernel)
set_option maxRecDepth 20000 in
theorem gX6_layOut_X6_finding : GoodIn wsX6_layOut (wsV RX6 35 RX6 yX6_finding wsX6_finding) := goodIn_app (goodIn_of _ (by decide +kernel)) ggX6_layOut_X6_finding
set_option maxRecDepth 20000 in
theorem ggX6_layOut_X6_store : GoodIn wsX6_layOut wsX6_store := goodIn_r _ [12, 1, 13, 14, 15, 16, 17] (by decide +kernel) (by decide +kernel)
set_option maxRecDepth 20000 in
theorem gX6_layOut_X6_store : GoodIn wsX6_layOut (wsV RX6 39 RX6 yX6_store wsX6_store) := goodIn_app (goodIn_of _ (by decide +kernel)) ggX6_layOut_X6_store
theorem dX6_layOut_0 : decode cX6_layOut 0 = .ok (.iload_n 3, 1) := by decide +kernel
theorem dX6_layOut_1 : decode cX6_layOut 1 = .ok (.ifCond .ge 9, 3) := by decide +kernel
theorem dX6_layOut_4 : decode cX6_layOut 4 = .ok (.aload_n 0, 1) := by decide +kernel
theorem dX6_layOut_5 : decode cX6_layOut 5 = .ok (.iconst 5, 1) := by decide +kernel
theorem dX6_layOut_6 : decode cX6_layOut 6 = .ok (.invokevirtual 35, 3) := by decide +kernel
theorem dX6_layOut_9 : decode cX6_layOut 9 = .ok (.ireturn, 1) := by decide +kernel
theorem dX6_layOut_10 : decode cX6_layOut 10 = .ok (.aload_n 0, 1) := by decide +kernel
theorem dX6_layOut_11 : decode cX6_layOut 11 = .ok (.getfield 15, 3) := by decide +kernel
theorem dX6_layOut_14 : decode cX6_layOut 14 = .ok (.iload_n 1, 1) := by decide +kernel
theorem dX6_layOut_15 : decode cX6_layOut 15 = .ok (.iload_n 2, 1) := by decide +kernel
theorem dX6_layOut_16 : decode cX6_layOut 16 = .ok (.iastore, 1) := by decide +kernel
theorem dX6_layOut_17 : decode cX6_layOut 17 = .ok (.aload_n 0, 1) := by decide +kernel
theorem dX6_layOut_18 : decode cX6_layOut 18 = .ok (.getfield 18, 3) := by decide +kernel
theorem dX6_layOut_21 : decode cX6_layOut 21 = .ok (.iload_n 1, 1) := by decide +kernel
theorem dX6_layOut_22 : decode cX6_layOut 22 = .ok (.iload_n 3, 1) := by decide +kernel
theorem dX6_layOut_23 : decode cX6_layOut 23 = .ok (.iastore, 1) := by decide +kernel
theorem dX6_layOut_24 : decode cX6_layOut 24 = .ok (.iconst 0, 1) := by decide +kernel
theorem dX6_layOut_25 : decode cX6_layOut 25 = .ok (.istore 4, 2) := by decide +kernel
theorem dX6_layOut_27 : decode cX6_layOut 27 = .ok (.iload 4, 2) := by decide +kernel
theorem dX6_layOut_29 : decode cX6_layOut 29 = .ok (.iload_n 3, 1) := by decide +kernel
theorem dX6_layOut_30 : decode cX6_layOut 30 = .ok (.if_icmp .ge 17, 3) := by decide +kernel
theorem dX6_layOut_33 : decode cX6_layOut 33 = .ok (.aload_n 0, 1) := by decide +kernel
theorem dX6_layOut_34 : decode cX6_layOut 34 = .ok (.iload_n 1, 1) := by decide +kernel
theorem dX6_layOut_35 : decode cX6_layOut 35 = .ok (.iload 4, 2) := by decide +kernel
theorem dX6_layOut_37 : decode cX6_layOut 37 = .ok (.iconst 0, 1) := by decide +kernel
theorem dX6_layOut_38 : decode cX6_layOut 38 = .ok (.invokevirtual 39, 3) := by decide +kernel
theorem dX6_layOut_41 : decode cX6_layOut 41 = .ok (.iinc 4 1, 3) := by decide +kernel
theorem dX6_layOut_44 : decode cX6_layOut 44 = .ok (.goto (-17), 3) := by decide +kernel
theorem dX6_layOut_47 : decode cX6_layOut 47 = .ok (.iload_n 3, 1) := by decide +kernel
theorem dX6_layOut_48 : decode cX6_layOut 48 = .ok (.ireturn, 1) := by decide +kernel
set_option maxRecDepth 20000 in
theorem ggX6_takeAway_X6_isLost : GoodIn wsX6_takeAway wsX6_isLost := goodIn_r _ [7, 1, 13, 14, 15, 16] (by decide +kernel) (by decide +kernel)
set_option maxRecDepth 20000 in
theorem gX6_takeAway_X6_isLost : GoodIn wsX6_takeAway (wsV RX6 31 RX6 yX6_isLost wsX6_isLost) := goodIn_app (goodIn_of _ (by decide +kernel)) ggX6_takeAway_X6_isLost
set_option maxRecDepth 20000 in
theorem ggX6_takeAway_X6_finding : GoodIn wsX6_takeAway wsX6_finding := goodIn_r _ [11, 12, 13, 14, 15, 16] (by decide +kernel) (by decide +kernel)
set_option maxRecDepth 20000 in
theorem gX6_takeAway_X6_finding : GoodIn wsX6_takeAway (wsV RX6 35 RX6 yX6_finding wsX6_finding) := goodIn_app (goodIn_of _ (by decide +kernel)) ggX6_takeAway_X6_finding
theorem dX6_takeAway_0 : decode cX6_takeAway 0 = .ok (.aload_n 0, 1) := by decide +kernel
theorem dX6_takeAway_1 : decode cX6_takeAway 1 = .ok (.iload_n 1, 1) := by decide +kernel
theorem dX6_takeAway_2 : decode cX6_takeAway 2 = .ok (.invokevirtual 31, 3) := by decide +kernel
theorem dX6_takeAway_5 : decode cX6_takeAway 5 = .ok (.ifCond .eq 9, 3) := by decide +kernel
theorem dX6_takeAway_8 : decode cX6_takeAway 8 = .ok (.aload_n 0, 1) := by decide +kernel
theorem dX6_takeAway_9 : decode cX6_takeAway 9 = .ok (.iconst 1, 1) := by decide +kernel
theorem dX6_takeAway_10 : decode cX6_takeAway 10 = .ok (.invokevirtual 35, 3) := by decide +kernel
theorem dX6_takeAway_13 : decode cX6_takeAway 13 = .ok (.ireturn, 1) := by decide +kernel
theorem dX6_takeAway_14 : decode cX6_takeAway 14 = .ok (.aload_n 0, 1) := by decide +kernel
theorem dX6_takeAway_15 : decode cX6_takeAway 15 = .ok (.getfield 15, 3) := by decide +kernel
theorem dX6_takeAway_18 : decode cX6_takeAway 18 = .ok (.iload_n 1, 1) := by decide +kernel
theorem dX6_takeAway_19 : decode cX6_takeAway 19 = .ok (.iconst (-1), 1) := by decide +kernel
theorem dX6_takeAway_20 : decode cX6_takeAway 20 = .ok (.iastore, 1) := by decide +kernel
theorem dX6_takeAway_21 : decode cX6_takeAway 21 = .ok (.aload_n 0, 1) := by decide +kernel
theorem dX6_takeAway_22 : decode cX6_takeAway 22 = .ok (.getfield 18, 3) := by decide +kernel
theorem dX6_takeAway_25 : decode cX6_takeAway 25 = .ok (.iload_n 1, 1) := by decide +kernel
theorem dX6_takeAway_26 : decode cX6_takeAway 26 = .ok (.iaload, 1) := by decide +kernel
theorem dX6_takeAway_27 : decode cX6_takeAway 27 = .ok (.ireturn, 1) := by decide +kernel
theorem dX6_itemAt_0 : decode cX6_itemAt 0 = .ok (.aload_n 0, 1) := by decide +kernel
theorem dX6_itemAt_1 : decode cX6_itemAt 1 = .ok (.getfield 11, 3) := by decide +kernel
theorem dX6_itemAt_4 : decode cX6_itemAt 4 = .ok (.iload_n 1, 1) := by decide +kernel
theorem dX6_itemAt_5 : decode cX6_itemAt 5 = .ok (.bipush 60, 2) := by decide +kernel
theorem dX6_itemAt_7 : decode cX6_itemAt 7 = .ok (.imul, 1) := by decide +kernel
theorem dX6_itemAt_8 : decode cX6_itemAt 8 = .ok (.iload_n 2, 1) := by decide +kernel
theorem dX6_itemAt_9 : decode cX6_itemAt 9 = .ok (.iadd, 1) := by decide +kernel
theorem dX6_itemAt_10 : decode cX6_itemAt 10 = .ok (.iaload, 1) := by decide +kernel
theorem dX6_itemAt_11 : decode cX6_itemAt 11 = .ok (.ireturn, 1) := by decide +kernel
theorem dX6_store_0 : decode cX6_store 0 = .ok (.iload_n 3, 1) := by decide +kernel
theorem dX6_store_1 : decode cX6_store 1 = .ok (.istore 4, 2) := by decide +kernel
theorem dX6_store_3 : decode cX6_store 3 = .ok (.aload_n 0, 1) := by decide +kernel
theorem dX6_store_4 : decode cX6_store 4 = .ok (.getfield 15, 3) := by decide +kernel
theorem dX6_store_7 : decode cX6_store 7 = .ok (.iload_n 1, 1) := by decide +kernel
theorem dX6_store_8 : decode cX6_store 8 = .ok (.iaload, 1) := by decide +kernel
theorem dX6_store_9 : decode cX6_store 9 = .ok (.ifCond .ne 10, 3) := by decide +kernel
theorem dX6_store_12 : decode cX6_store 12 = .ok (.iload_n 3, 1) := by decide +kernel
theorem dX6_store_13 : decode cX6_store 13 = .ok (.i2b, 1) := by decide +kernel
theorem dX6_store_14 : decode cX6_store 14 = .ok (.istore 4, 2) := by decide +kernel
theorem dX6_store_16 : decode cX6_store 16 = .ok (.goto 17, 3) := by decide +kernel
theorem dX6_store_19 : decode cX6_store 19 = .ok (.aload_n 0, 1) := by decide +kernel
theorem dX6_store_20 : decode cX6_store 20 = .ok (.getfield 15, 3) := by decide +kernel
theorem dX6_store_23 : decode cX6_store 23 = .ok (.iload_n 1, 1) := by decide +kernel
theorem dX6_store_24 : decode cX6_store 24 = .ok (.iaload, 1) := by decide +kernel
theorem dX6_store_25 : decode cX6_store 25 = .ok (.iconst 1, 1) := by decide +kernel
theorem dX6_store_26 : decode cX6_store 26 = .ok (.if_icmp .ne 7, 3) := by decide +kernel
theorem dX6_store_29 : decode cX6_store 29 = .ok (.iload_n 3, 1) := by decide +kernel
theorem dX6_store_30 : decode cX6_store 30 = .ok (.i2s, 1) := by decide +kernel
theorem dX6_store_31 : decode cX6_store 31 = .ok (.istore 4, 2) := by decide +kernel
theorem dX6_store_33 : decode cX6_store 33 = .ok (.aload_n 0, 1) := by decide +kernel
theorem dX6_store_34 : decode cX6_store 34 = .ok (.getfield 11, 3) := by decide +kernel
theorem dX6_store_37 : decode cX6_store 37 = .ok (.iload_n 1, 1) := by decide +kernel
theorem dX6_store_38 : decode cX6_store 38 = .ok (.bipush 60, 2) := by decide +kernel
theorem dX6_store_40 : decode cX6_store 40 = .ok (.imul, 1) := by decide +kernel
theorem dX6_store_41 : decode cX6_store 41 = .ok (.iload_n 2, 1) := by decide +kernel
theorem dX6_store_42 : decode cX6_store 42 = .ok (.iadd, 1) := by decide +kernel
theorem dX6_store_43 : decode cX6_store 43 = .ok (.iload 4, 2) := by decide +kernel
theorem dX6_store_45 : decode cX6_store 45 = .ok (.iastore, 1) := by decide +kernel
theorem dX6_store_46 : decode cX6_store 46 = .ok (.return_, 1) := by decide +kernel
set_option maxRecDepth 20000 in
theorem ggX6_copyItems_X6_isLost : GoodIn wsX6_copyItems wsX6_isLost := goodIn_r _ [11, 1, 22, 23, 24, 25] (by decide +kernel) (by decide +kernel)
set_option maxRecDepth 20000 in
theorem gX6_copyItems_X6_isLost : GoodIn wsX6_copyItems (wsV RX6 31 RX6 yX6_isLost wsX6_isLost) := goodIn_app (goodIn_of _ (by decide +kernel)) ggX6_copyItems_X6_isLost
set_option maxRecDepth 20000 in
theorem ggX6_copyItems_X6_finding : GoodIn wsX6_copyItems wsX6_finding := goodIn_r _ [15, 16, 22, 23, 24, 25] (by decide +kernel) (by decide +kernel)
set_option maxRecDepth 20000 in
theorem gX6_copyItems_X6_finding : GoodIn wsX6_copyItems (wsV RX6 35 RX6 yX6_finding wsX6_finding) := goodIn_app (goodIn_of _ (by decide +kernel)) ggX6_copyItems_X6_finding
set_option maxRecDepth 20000 in
theorem ggX6_copyItems_X6_hasItems : GoodIn wsX6_copyItems wsX6_hasItems := goodIn_r _ [20, 21, 22, 23, 24, 25] (by decide +kernel) (by decide +kernel)
set_option maxRecDepth 20000 in
theorem gX6_copyItems_X6_hasItems : GoodIn wsX6_copyItems (wsV RX6 43 RX6 yX6_hasItems wsX6_hasItems) := goodIn_app (goodIn_of _ (by decide +kernel)) ggX6_copyItems_X6_hasItems
theorem dX6_copyItems_0 : decode cX6_copyItems 0 = .ok (.aload_n 0, 1) := by decide +kernel
theorem dX6_copyItems_1 : decode cX6_copyItems 1 = .ok (.iload_n 1, 1) := by decide +kernel
theorem dX6_copyItems_2 : decode cX6_copyItems 2 = .ok (.invokevirtual 31, 3) := by decide +kernel
theorem dX6_copyItems_5 : decode cX6_copyItems 5 = .ok (.ifCond .ne 11, 3) := by decide +kernel
theorem dX6_copyItems_8 : decode cX6_copyItems 8 = .ok (.aload_n 0, 1) := by decide +kernel
theorem dX6_copyItems_9 : decode cX6_copyItems 9 = .ok (.iload_n 3, 1) := by decide +kernel
theorem dX6_copyItems_10 : decode cX6_copyItems 10 = .ok (.invokevirtual 31, 3) := by decide +kernel
theorem dX6_copyItems_13 : decode cX6_copyItems 13 = .ok (.ifCond .eq 9, 3) := by decide +kernel
theorem dX6_copyItems_16 : decode cX6_copyItems 16 = .ok (.aload_n 0, 1) := by decide +kernel
theorem dX6_copyItems_17 : decode cX6_copyItems 17 = .ok (.iconst 1, 1) := by decide +kernel
theorem dX6_copyItems_18 : decode cX6_copyItems 18 = .ok (.invokevirtual 35, 3) := by decide +kernel
theorem dX6_copyItems_21 : decode cX6_copyItems 21 = .ok (.ireturn, 1) := by decide +kernel
theorem dX6_copyItems_22 : decode cX6_copyItems 22 = .ok (.aload_n 0, 1) := by decide +kernel
theorem dX6_copyItems_23 : decode cX6_copyItems 23 = .ok (.getfield 15, 3) := by decide +kernel
theorem dX6_copyItems_26 : decode cX6_copyItems 26 = .ok (.iload_n 1, 1) := by decide +kernel
theorem dX6_copyItems_27 : decode cX6_copyItems 27 = .ok (.iaload, 1) := by decide +kernel
theorem dX6_copyItems_28 : decode cX6_copyItems 28 = .ok (.aload_n 0, 1) := by decide +kernel
theorem dX6_copyItems_29 : decode cX6_copyItems 29 = .ok (.getfield 15, 3) := by decide +kernel
theorem dX6_copyItems_32 : decode cX6_copyItems 32 = .ok (.iload_n 3, 1) := by decide +kernel
theorem dX6_copyItems_33 : decode cX6_copyItems 33 = .ok (.iaload, 1) := by decide +kernel
theorem dX6_copyItems_34 : decode cX6_copyItems 34 = .ok (.if_icmp .eq 9, 3) := by decide +kernel
theorem dX6_copyItems_37 : decode cX6_copyItems 37 = .ok (.aload_n 0, 1) := by decide +kernel
theorem dX6_copyItems_38 : decode cX6_copyItems 38 = .ok (.iconst 4, 1) := by decide +kernel
theorem dX6_copyItems_39 : decode cX6_copyItems 39 = .ok (.invokevirtual 35, 3) := by decide +kernel
theorem dX6_copyItems_42 : decode cX6_copyItems 42 = .ok (.ireturn, 1) := by decide +kernel
theorem dX6_copyItems_43 : decode cX6_copyItems 43 = .ok (.aload_n 0, 1) := by decide +kernel
theorem dX6_copyItems_44 : decode cX6_copyItems 44 = .ok (.iload_n 1, 1) := by decide +kernel
theorem dX6_copyItems_45 : decode cX6_copyItems 45 = .ok (.iload_n 2, 1) := by decide +kernel
theorem dX6_copyItems_46 : decode cX6_copyItems 46 = .ok (.iload 5, 2) := by decide +kernel
theorem dX6_copyItems_48 : decode cX6_copyItems 48 = .ok (.invokevirtual 43, 3) := by decide +kernel
theorem dX6_copyItems_51 : decode cX6_copyItems 51 = .ok (.ifCond .eq 15, 3) := by decide +kernel
theorem dX6_copyItems_54 : decode cX6_copyItems 54 = .ok (.aload_n 0, 1) := by decide +kernel
theorem dX6_copyItems_55 : decode cX6_copyItems 55 = .ok (.iload_n 3, 1) := by decide +kernel
theorem dX6_copyItems_56 : decode cX6_copyItems 56 = .ok (.iload 4, 2) := by decide +kernel
theorem dX6_copyItems_58 : decode cX6_copyItems 58 = .ok (.iload 5, 2) := by decide +kernel
theorem dX6_copyItems_60 : decode cX6_copyItems 60 = .ok (.invokevirtual 43, 3) := by decide +kernel
theorem dX6_copyItems_63 : decode cX6_copyItems 63 = .ok (.ifCond .ne 9, 3) := by decide +kernel
theorem dX6_copyItems_66 : decode cX6_copyItems 66 = .ok (.aload_n 0, 1) := by decide +kernel
theorem dX6_copyItems_67 : decode cX6_copyItems 67 = .ok (.iconst 2, 1) := by decide +kernel
theorem dX6_copyItems_68 : decode cX6_copyItems 68 = .ok (.invokevirtual 35, 3) := by decide +kernel
theorem dX6_copyItems_71 : decode cX6_copyItems 71 = .ok (.ireturn, 1) := by decide +kernel
theorem dX6_copyItems_72 : decode cX6_copyItems 72 = .ok (.aload_n 0, 1) := by decide +kernel
theorem dX6_copyItems_73 : decode cX6_copyItems 73 = .ok (.getfield 11, 3) := by decide +kernel
theorem dX6_copyItems_76 : decode cX6_copyItems 76 = .ok (.iload_n 1, 1) := by decide +kernel
theorem dX6_copyItems_77 : decode cX6_copyItems 77 = .ok (.bipush 60, 2) := by decide +kernel
theorem dX6_copyItems_79 : decode cX6_copyItems 79 = .ok (.imul, 1) := by decide +kernel
theorem dX6_copyItems_80 : decode cX6_copyItems 80 = .ok (.iload_n 2, 1) := by decide +kernel
theorem dX6_copyItems_81 : decode cX6_copyItems 81 = .ok (.iadd, 1) := by decide +kernel
theorem dX6_copyItems_82 : decode cX6_copyItems 82 = .ok (.aload_n 0, 1) := by decide +kernel
theorem dX6_copyItems_83 : decode cX6_copyItems 83 = .ok (.getfield 11, 3) := by decide +kernel
theorem dX6_copyItems_86 : decode cX6_copyItems 86 = .ok (.iload_n 3, 1) := by decide +kernel
theorem dX6_copyItems_87 : decode cX6_copyItems 87 = .ok (.bipush 60, 2) := by decide +kernel
theorem dX6_copyItems_89 : decode cX6_copyItems 89 = .ok (.imul, 1) := by decide +kernel
theorem dX6_copyItems_90 : decode cX6_copyItems 90 = .ok (.iload 4, 2) := by decide +kernel
theorem dX6_copyItems_92 : decode cX6_copyItems 92 = .ok (.iadd, 1) := by decide +kernel
theorem dX6_copyItems_93 : decode cX6_copyItems 93 = .ok (.iload 5, 2) := by decide +kernel
theorem dX6_copyItems_95 : decode cX6_copyItems 95 = .ok (.invokestatic 47, 3) := by decide +kernel
theorem dX6_copyItems_98 : decode cX6_copyItems 98 = .ok (.iconst 1, 1) := by decide +kernel
theorem dX6_copyItems_99 : decode cX6_copyItems 99 = .ok (.ireturn, 1) := by decide +kernel
theorem dX6_hasItems_0 : decode cX6_hasItems 0 = .ok (.iload_n 2, 1) := by decide +kernel
theorem dX6_hasItems_1 : decode cX6_hasItems 1 = .ok (.ifCond .lt 33, 3) := by decide +kernel
theorem dX6_hasItems_4 : decode cX6_hasItems 4 = .ok (.iload_n 3, 1) := by decide +kernel
theorem dX6_hasItems_5 : decode cX6_hasItems 5 = .ok (.ifCond .lt 29, 3) := by decide +kernel
theorem dX6_hasItems_8 : decode cX6_hasItems 8 = .ok (.iload_n 3, 1) := by decide +kernel
theorem dX6_hasItems_9 : decode cX6_hasItems 9 = .ok (.aload_n 0, 1) := by decide +kernel
theorem dX6_hasItems_10 : decode cX6_hasItems 10 = .ok (.getfield 18, 3) := by decide +kernel
theorem dX6_hasItems_13 : decode cX6_hasItems 13 = .ok (.iload_n 1, 1) := by decide +kernel
theorem dX6_hasItems_14 : decode cX6_hasItems 14 = .ok (.iaload, 1) := by decide +kernel
theorem dX6_hasItems_15 : decode cX6_hasItems 15 = .ok (.if_icmp .gt 19, 3) := by decide +kernel
theorem dX6_hasItems_18 : decode cX6_hasItems 18 = .ok (.iload_n 2, 1) := by decide +kernel
theorem dX6_hasItems_19 : decode cX6_hasItems 19 = .ok (.aload_n 0, 1) := by decide +kernel
theorem dX6_hasItems_20 : decode cX6_hasItems 20 = .ok (.getfield 18, 3) := by decide +kernel
theorem dX6_hasItems_23 : decode cX6_hasItems 23 = .ok (.iload_n 1, 1) := by decide +kernel
theorem dX6_hasItems_24 : decode cX6_hasItems 24 = .ok (.iaload, 1) := by decide +kernel
theorem dX6_hasItems_25 : decode cX6_hasItems 25 = .ok (.iload_n 3, 1) := by decide +kernel
theorem dX6_hasItems_26 : decode cX6_hasItems 26 = .ok (.isub, 1) := by decide +kernel
theorem dX6_hasItems_27 : decode cX6_hasItems 27 = .ok (.if_icmp .gt 7, 3) := by decide +kernel
theorem dX6_hasItems_30 : decode cX6_hasItems 30 = .ok (.iconst 1, 1) := by decide +kernel
theorem dX6_hasItems_31 : decode cX6_hasItems 31 = .ok (.goto 4, 3) := by decide +kernel
theorem dX6_hasItems_34 : decode cX6_hasItems 34 = .ok (.iconst 0, 1) := by decide +kernel
theorem dX6_hasItems_35 : decode cX6_hasItems 35 = .ok (.ireturn, 1) := by decide +kernel
theorem dX7_init_0 : decode cX7_init 0 = .ok (.aload_n 0, 1) := by decide +kernel
theorem dX7_init_1 : decode cX7_init 1 = .ok (.invokespecial 3, 3) := by decide +kernel
theorem dX7_init_4 : decode cX7_init 4 = .ok (.aload_n 0, 1) := by decide +kernel
theorem dX7_init_5 : decode cX7_init 5 = .ok (.aload_n 1, 1) := by decide +kernel
theorem dX7_init_6 : decode cX7_init 6 = .ok (.putfield 9, 3) := by decide +kernel
theorem dX7_init_9 : decode cX7_init 9 = .ok (.aload_n 0, 1) := by decide +kernel
theorem dX7_init_10 : decode cX7_init 10 = .ok (.aload_n 2, 1) := by decide +kernel
theorem dX7_init_11 : decode cX7_init 11 = .ok (.putfield 15, 3) := by decide +kernel
theorem dX7_init_14 : decode cX7_init 14 = .ok (.aload_n 0, 1) := by decide +kernel
theorem dX7_init_15 : decode cX7_init 15 = .ok (.sipush 400, 3) := by decide +kernel
theorem dX7_init_18 : decode cX7_init 18 = .ok (.newarray .int, 2) := by decide +kernel
theorem dX7_init_20 : decode cX7_init 20 = .ok (.putfield 19, 3) := by decide +kernel
theorem dX7_init_23 : decode cX7_init 23 = .ok (.aload_n 0, 1) := by decide +kernel
theorem dX7_init_24 : decode cX7_init 24 = .ok (.iconst 0, 1) := by decide +kernel
theorem dX7_init_25 : decode cX7_init 25 = .ok (.putfield 23, 3) := by decide +kernel
theorem dX7_init_28 : decode cX7_init 28 = .ok (.return_, 1) := by decide +kernel
set_option maxRecDepth 20000 in
theorem ggX7_findOut_X8_run : GoodIn wsX7_findOut wsX8_run := goodIn_r _ [15, 16, 17, 18, 19, 20, 21, 22, 23, 24, 25, 14, 26, 27, 28, 29, 30, 31, 32, 33, 34, 35, 36, 37, 38, 39, 40, 41, 42, 43, 44, 45, 46, 47, 48, 49, 50, 51, 52, 53, 54, 55, 56, 57, 58, 59, 60, 61, 62, 8, 9, 10, 63, 64, 65, 66, 67, 68, 69, 70, 71, 72, 73, 74, 75, 76, 77, 78, 79, 80, 81, 82, 100, 101, 102, 103, 104, 105, 106, 107, 108, 109, 87, 88, 89, 90, 91, 92, 93, 94, 95, 96, 97, 98, 99, 110, 111] (by decide +kernel) (by decide +kernel)
set_option maxRecDepth 20000 in
theorem gX7_findOut_X8_run : GoodIn wsX7_findOut (wsV RX7 33 RX8 yX8_run wsX8_run) := goodIn_app (goodIn_of _ (by decide +kernel)) ggX7_findOut_X8_run
theorem dX7_findOut_0 : decode cX7_findOut 0 = .ok (.aload_n 0, 1) := by decide +kernel
theorem dX7_findOut_1 : decode cX7_findOut 1 = .ok (.getfield 23, 3) := by decide +kernel
theorem dX7_findOut_4 : decode cX7_findOut 4 = .ok (.ifCond .eq 4, 3) := by decide +kernel
theorem dX7_findOut_7 : decode cX7_findOut 7 = .ok (.return_, 1) := by decide +kernel
theorem dX7_findOut_8 : decode cX7_findOut 8 = .ok (.iconst 0, 1) := by decide +kernel
theorem dX7_findOut_9 : decode cX7_findOut 9 = .ok (.istore 4, 2) := by decide +kernel
theorem dX7_findOut_11 : decode cX7_findOut 11 = .ok (.iload 4, 2) := by decide +kernel
theorem dX7_findOut_13 : decode cX7_findOut 13 = .ok (.aload_n 0, 1) := by decide +kernel
theorem dX7_findOut_14 : decode cX7_findOut 14 = .ok (.getfield 9, 3) := by decide +kernel
theorem dX7_findOut_17 : decode cX7_findOut 17 = .ok (.getfield 27, 3) := by decide +kernel
theorem dX7_findOut_20 : decode cX7_findOut 20 = .ok (.if_icmp .ge 43, 3) := by decide +kernel
theorem dX7_findOut_23 : decode cX7_findOut 23 = .ok (.aload_n 0, 1) := by decide +kernel
theorem dX7_findOut_24 : decode cX7_findOut 24 = .ok (.getfield 15, 3) := by decide +kernel
theorem dX7_findOut_27 : decode cX7_findOut 27 = .ok (.iload_n 1, 1) := by decide +kernel
theorem dX7_findOut_28 : decode cX7_findOut 28 = .ok (.iload_n 2, 1) := by decide +kernel
theorem dX7_findOut_29 : decode cX7_findOut 29 = .ok (.iload_n 3, 1) := by decide +kernel
theorem dX7_findOut_30 : decode cX7_findOut 30 = .ok (.iload 4, 2) := by decide +kernel
theorem dX7_findOut_32 : decode cX7_findOut 32 = .ok (.invokevirtual 33, 3) := by decide +kernel
theorem dX7_findOut_35 : decode cX7_findOut 35 = .ok (.aload_n 0, 1) := by decide +kernel
theorem dX7_findOut_36 : decode cX7_findOut 36 = .ok (.getfield 15, 3) := by decide +kernel
theorem dX7_findOut_39 : decode cX7_findOut 39 = .ok (.getfield 39, 3) := by decide +kernel
theorem dX7_findOut_42 : decode cX7_findOut 42 = .ok (.iconst 0, 1) := by decide +kernel
theorem dX7_findOut_43 : decode cX7_findOut 43 = .ok (.aload_n 0, 1) := by decide +kernel
theorem dX7_findOut_44 : decode cX7_findOut 44 = .ok (.getfield 19, 3) := by decide +kernel
theorem dX7_findOut_47 : decode cX7_findOut 47 = .ok (.iload 4, 2) := by decide +kernel
theorem dX7_findOut_49 : decode cX7_findOut 49 = .ok (.bipush 20, 2) := by decide +kernel
theorem dX7_findOut_51 : decode cX7_findOut 51 = .ok (.imul, 1) := by decide +kernel
theorem dX7_findOut_52 : decode cX7_findOut 52 = .ok (.bipush 20, 2) := by decide +kernel
theorem dX7_findOut_54 : decode cX7_findOut 54 = .ok (.invokestatic 42, 3) := by decide +kernel
theorem dX7_findOut_57 : decode cX7_findOut 57 = .ok (.iinc 4 1, 3) := by decide +kernel
theorem dX7_findOut_60 : decode cX7_findOut 60 = .ok (.goto (-49), 3) := by decide +kernel
theorem dX7_findOut_63 : decode cX7_findOut 63 = .ok (.aload_n 0, 1) := by decide +kernel
theorem dX7_findOut_64 : decode cX7_findOut 64 = .ok (.iconst 1, 1) := by decide +kernel
theorem dX7_findOut_65 : decode cX7_findOut 65 = .ok (.putfield 23, 3) := by decide +kernel
theorem dX7_findOut_68 : decode cX7_findOut 68 = .ok (.return_, 1) := by decide +kernel
theorem dX8_init_0 : decode cX8_init 0 = .ok (.aload_n 0, 1) := by decide +kernel
theorem dX8_init_1 : decode cX8_init 1 = .ok (.invokespecial 3, 3) := by decide +kernel
theorem dX8_init_4 : decode cX8_init 4 = .ok (.aload_n 0, 1) := by decide +kernel
theorem dX8_init_5 : decode cX8_init 5 = .ok (.aload_n 1, 1) := by decide +kernel
theorem dX8_init_6 : decode cX8_init 6 = .ok (.putfield 9, 3) := by decide +kernel
theorem dX8_init_9 : decode cX8_init 9 = .ok (.aload_n 0, 1) := by decide +kernel
theorem dX8_init_10 : decode cX8_init 10 = .ok (.aload_n 2, 1) := by decide +kernel
theorem dX8_init_11 : decode cX8_init 11 = .ok (.putfield 15, 3) := by decide +kernel
theorem dX8_init_14 : decode cX8_init 14 = .ok (.aload_n 0, 1) := by decide +kernel
theorem dX8_init_15 : decode cX8_init 15 = .ok (.sipush 640, 3) := by decide +kernel
theorem dX8_init_18 : decode cX8_init 18 = .ok (.newarray .int, 2) := by decide +kernel
theorem dX8_init_20 : decode cX8_init 20 = .ok (.putfield 19, 3) := by decide +kernel
theorem dX8_init_23 : decode cX8_init 23 = .ok (.aload_n 0, 1) := by decide +kernel
theorem dX8_init_24 : decode cX8_init 24 = .ok (.bipush 20, 2) := by decide +kernel
theorem dX8_init_26 : decode cX8_init 26 = .ok (.newarray .int, 2) := by decide +kernel
theorem dX8_init_28 : decode cX8_init 28 = .ok (.putfield 23, 3) := by decide +kernel
theorem dX8_init_31 : decode cX8_init 31 = .ok (.aload_n 0, 1) := by decide +kernel
theorem dX8_init_32 : decode cX8_init 32 = .ok (.bipush 20, 2) := by decide +kernel
theorem dX8_init_34 : decode cX8_init 34 = .ok (.newarray .int, 2) := by decide +kernel
theorem dX8_init_36 : decode cX8_init 36 = .ok (.putfield 26, 3) := by decide +kernel
theorem dX8_init_39 : decode cX8_init 39 = .ok (.aload_n 0, 1) := by decide +kernel
theorem dX8_init_40 : decode cX8_init 40 = .ok (.bipush 20, 2) := by decide +kernel
theorem dX8_init_42 : decode cX8_init 42 = .ok (.newarray .int, 2) := by decide +kernel
theorem dX8_init_44 : decode cX8_init 44 = .ok (.putfield 29, 3) := by decide +kernel
theorem dX8_init_47 : decode cX8_init 47 = .ok (.aload_n 0, 1) := by decide +kernel
theorem dX8_init_48 : decode cX8_init 48 = .ok (.bipush 20, 2) := by decide +kernel
theorem dX8_init_50 : decode cX8_init 50 = .ok (.newarray .int, 2) := by decide +kernel
theorem dX8_init_52 : decode cX8_init 52 = .ok (.putfield 32, 3) := by decide +kernel
theorem dX8_init_55 : decode cX8_init 55 = .ok (.return_, 1) := by decide +kernel
set_option maxRecDepth 20000 in
theorem ggX8_run_X8_clear : GoodIn wsX8_run wsX8_clear := goodIn_r _ [12, 4, 13, 14, 15, 16, 5, 2, 3, 7, 6, 17, 18, 19, 20, 21, 72, 73, 74, 75, 76, 77, 78, 79, 80, 81, 82, 83, 84, 85, 86, 87, 88, 89, 90, 91, 92, 93, 94, 95, 96] (by decide +kernel) (by decide +kernel)
set_option maxRecDepth 20000 in
theorem gX8_run_X8_clear : GoodIn wsX8_run (wsV RX8 35 RX8 yX8_clear wsX8_clear) := goodIn_app (goodIn_of _ (by decide +kernel)) ggX8_run_X8_clear
set_option maxRecDepth 20000 in
theorem ggX8_run_X1_makeRoom : GoodIn wsX8_run wsX1_makeRoom := goodIn_r _ [26, 27, 28, 29, 30, 31, 32, 33, 34, 35, 36, 37, 38, 20, 39, 40, 41, 42, 43, 44, 45, 46, 47, 48, 49, 50, 51, 95, 96] (by decide +kernel) (by decide +kernel)
set_option maxRecDepth 20000 in
theorem gX8_run_X1_makeRoom : GoodIn wsX8_run (wsV RX8 53 RX1 yX1_makeRoom wsX1_makeRoom) := goodIn_app (goodIn_of _ (by decide +kernel)) ggX8_run_X1_makeRoom
set_option maxRecDepth 20000 in
theorem ggX8_run_X8_feelAll : GoodIn wsX8_run wsX8_feelAll := goodIn_r _ [55, 2, 3, 4, 56, 57, 58, 11, 59, 13, 6, 15, 14, 16, 7, 1, 60, 61, 62, 63, 64, 25, 65, 27, 33, 66, 67, 68, 69, 70, 71, 5, 72, 73, 74, 75, 76, 77, 78, 79, 80, 81, 82, 83, 84, 85, 86, 87, 88, 89, 90, 91, 92, 93, 94, 95, 96] (by decide +kernel) (by decide +kernel)
set_option maxRecDepth 20000 in
theorem gX8_run_X8_feelAll : GoodIn wsX8_run (wsV RX8 59 RX8 yX8_feelAll wsX8_feelAll) := goodIn_app (goodIn_of _ (by decide +kernel)) ggX8_run_X8_feelAll
theorem dX8_run_0 : decode cX8_run 0 = .ok (.aload_n 0, 1) := by decide +kernel
theorem dX8_run_1 : decode cX8_run 1 = .ok (.invokevirtual 35, 3) := by decide +kernel
theorem dX8_run_4 : decode cX8_run 4 = .ok (.aload_n 0, 1) := by decide +kernel
theorem dX8_run_5 : decode cX8_run 5 = .ok (.iload 4, 2) := by decide +kernel
theorem dX8_run_7 : decode cX8_run 7 = .ok (.putfield 38, 3) := by decide +kernel
theorem dX8_run_10 : decode cX8_run 10 = .ok (.iload_n 2, 1) := by decide +kernel
theorem dX8_run_11 : decode cX8_run 11 = .ok (.iconst (-1), 1) := by decide +kernel
theorem dX8_run_12 : decode cX8_run 12 = .ok (.if_icmp .eq 18, 3) := by decide +kernel
theorem dX8_run_15 : decode cX8_run 15 = .ok (.iload_n 2, 1) := by decide +kernel
theorem dX8_run_16 : decode cX8_run 16 = .ok (.aload_n 0, 1) := by decide +kernel
theorem dX8_run_17 : decode cX8_run 17 = .ok (.getfield 9, 3) := by decide +kernel
theorem dX8_run_20 : decode cX8_run 20 = .ok (.getfield 42, 3) := by decide +kernel
theorem dX8_run_23 : decode cX8_run 23 = .ok (.if_icmp .ge 7, 3) := by decide +kernel
theorem dX8_run_26 : decode cX8_run 26 = .ok (.iconst 1, 1) := by decide +kernel
theorem dX8_run_27 : decode cX8_run 27 = .ok (.goto 4, 3) := by decide +kernel
theorem dX8_run_30 : decode cX8_run 30 = .ok (.iconst 0, 1) := by decide +kernel
theorem dX8_run_31 : decode cX8_run 31 = .ok (.istore 5, 2) := by decide +kernel
theorem dX8_run_33 : decode cX8_run 33 = .ok (.iload_n 1, 1) := by decide +kernel
theorem dX8_run_34 : decode cX8_run 34 = .ok (.aload_n 0, 1) := by decide +kernel
theorem dX8_run_35 : decode cX8_run 35 = .ok (.getfield 9, 3) := by decide +kernel
theorem dX8_run_38 : decode cX8_run 38 = .ok (.getfield 42, 3) := by decide +kernel
theorem dX8_run_41 : decode cX8_run 41 = .ok (.if_icmp .ge 18, 3) := by decide +kernel
theorem dX8_run_44 : decode cX8_run 44 = .ok (.aload_n 0, 1) := by decide +kernel
theorem dX8_run_45 : decode cX8_run 45 = .ok (.getfield 19, 3) := by decide +kernel
theorem dX8_run_48 : decode cX8_run 48 = .ok (.iload_n 1, 1) := by decide +kernel
theorem dX8_run_49 : decode cX8_run 49 = .ok (.dup2, 1) := by decide +kernel
theorem dX8_run_50 : decode cX8_run 50 = .ok (.iaload, 1) := by decide +kernel
theorem dX8_run_51 : decode cX8_run 51 = .ok (.iconst 1, 1) := by decide +kernel
theorem dX8_run_52 : decode cX8_run 52 = .ok (.ior, 1) := by decide +kernel
theorem dX8_run_53 : decode cX8_run 53 = .ok (.iastore, 1) := by decide +kernel
theorem dX8_run_54 : decode cX8_run 54 = .ok (.aload_n 0, 1) := by decide +kernel
theorem dX8_run_55 : decode cX8_run 55 = .ok (.iconst 0, 1) := by decide +kernel
theorem dX8_run_56 : decode cX8_run 56 = .ok (.putfield 47, 3) := by decide +kernel
theorem dX8_run_59 : decode cX8_run 59 = .ok (.iload 5, 2) := by decide +kernel
theorem dX8_run_61 : decode cX8_run 61 = .ok (.ifCond .eq 8, 3) := by decide +kernel
theorem dX8_run_64 : decode cX8_run 64 = .ok (.aload_n 0, 1) := by decide +kernel
theorem dX8_run_65 : decode cX8_run 65 = .ok (.iload_n 3, 1) := by decide +kernel
theorem dX8_run_66 : decode cX8_run 66 = .ok (.putfield 47, 3) := by decide +kernel
theorem dX8_run_69 : decode cX8_run 69 = .ok (.iconst 0, 1) := by decide +kernel
theorem dX8_run_70 : decode cX8_run 70 = .ok (.istore 6, 2) := by decide +kernel
theorem dX8_run_72 : decode cX8_run 72 = .ok (.iload 6, 2) := by decide +kernel
theorem dX8_run_74 : decode cX8_run 74 = .ok (.sipush 400, 3) := by decide +kernel
theorem dX8_run_77 : decode cX8_run 77 = .ok (.if_icmp .gt 90, 3) := by decide +kernel
theorem dX8_run_80 : decode cX8_run 80 = .ok (.iload 6, 2) := by decide +kernel
theorem dX8_run_82 : decode cX8_run 82 = .ok (.aload_n 0, 1) := by decide +kernel
theorem dX8_run_83 : decode cX8_run 83 = .ok (.getfield 47, 3) := by decide +kernel
theorem dX8_run_86 : decode cX8_run 86 = .ok (.if_icmp .gt 81, 3) := by decide +kernel
theorem dX8_run_89 : decode cX8_run 89 = .ok (.aload_n 0, 1) := by decide +kernel
theorem dX8_run_90 : decode cX8_run 90 = .ok (.getfield 15, 3) := by decide +kernel
theorem dX8_run_93 : decode cX8_run 93 = .ok (.ifnonnull 10, 3) := by decide +kernel
theorem dX8_run_96 : decode cX8_run 96 = .ok (.aload_n 0, 1) := by decide +kernel
theorem dX8_run_97 : decode cX8_run 97 = .ok (.getfield 50, 3) := by decide +kernel
theorem dX8_run_100 : decode cX8_run 100 = .ok (.ifCond .le 67, 3) := by decide +kernel
theorem dX8_run_103 : decode cX8_run 103 = .ok (.iload 6, 2) := by decide +kernel
theorem dX8_run_105 : decode cX8_run 105 = .ok (.bipush 32, 2) := by decide +kernel
theorem dX8_run_107 : decode cX8_run 107 = .ok (.irem, 1) := by decide +kernel
theorem dX8_run_108 : decode cX8_run 108 = .ok (.bipush 20, 2) := by decide +kernel
theorem dX8_run_110 : decode cX8_run 110 = .ok (.imul, 1) := by decide +kernel
theorem dX8_run_111 : decode cX8_run 111 = .ok (.istore 7, 2) := by decide +kernel
theorem dX8_run_113 : decode cX8_run 113 = .ok (.iload 5, 2) := by decide +kernel
theorem dX8_run_115 : decode cX8_run 115 = .ok (.ifCond .eq 22, 3) := by decide +kernel
theorem dX8_run_118 : decode cX8_run 118 = .ok (.iload 6, 2) := by decide +kernel
theorem dX8_run_120 : decode cX8_run 120 = .ok (.iload_n 3, 1) := by decide +kernel
theorem dX8_run_121 : decode cX8_run 121 = .ok (.if_icmp .ne 16, 3) := by decide +kernel
theorem dX8_run_124 : decode cX8_run 124 = .ok (.aload_n 0, 1) := by decide +kernel
theorem dX8_run_125 : decode cX8_run 125 = .ok (.getfield 19, 3) := by decide +kernel
theorem dX8_run_128 : decode cX8_run 128 = .ok (.iload 7, 2) := by decide +kernel
theorem dX8_run_130 : decode cX8_run 130 = .ok (.iload_n 2, 1) := by decide +kernel
theorem dX8_run_131 : decode cX8_run 131 = .ok (.iadd, 1) := by decide +kernel
theorem dX8_run_132 : decode cX8_run 132 = .ok (.dup2, 1) := by decide +kernel
theorem dX8_run_133 : decode cX8_run 133 = .ok (.iaload, 1) := by decide +kernel
theorem dX8_run_134 : decode cX8_run 134 = .ok (.iconst 2, 1) := by decide +kernel
theorem dX8_run_135 : decode cX8_run 135 = .ok (.ior, 1) := by decide +kernel
theorem dX8_run_136 : decode cX8_run 136 = .ok (.iastore, 1) := by decide +kernel
theorem dX8_run_137 : decode cX8_run 137 = .ok (.aload_n 0, 1) := by decide +kernel
theorem dX8_run_138 : decode cX8_run 138 = .ok (.getfield 15, 3) := by decide +kernel
theorem dX8_run_141 : decode cX8_run 141 = .ok (.ifnull 12, 3) := by decide +kernel
theorem dX8_run_144 : decode cX8_run 144 = .ok (.aload_n 0, 1) := by decide +kernel
theorem dX8_run_145 : decode cX8_run 145 = .ok (.getfield 15, 3) := by decide +kernel
theorem dX8_run_148 : decode cX8_run 148 = .ok (.bipush 64, 2) := by decide +kernel
theorem dX8_run_150 : decode cX8_run 150 = .ok (.invokevirtual 53, 3) := by decide +kernel
theorem dX8_run_153 : decode cX8_run 153 = .ok (.aload_n 0, 1) := by decide +kernel
theorem dX8_run_154 : decode cX8_run 154 = .ok (.iload 6, 2) := by decide +kernel
theorem dX8_run_156 : decode cX8_run 156 = .ok (.iload 7, 2) := by decide +kernel
theorem dX8_run_158 : decode cX8_run 158 = .ok (.invokevirtual 59, 3) := by decide +kernel
theorem dX8_run_161 : decode cX8_run 161 = .ok (.iinc 6 1, 3) := by decide +kernel
theorem dX8_run_164 : decode cX8_run 164 = .ok (.goto (-92), 3) := by decide +kernel
theorem dX8_run_167 : decode cX8_run 167 = .ok (.return_, 1) := by decide +kernel
set_option maxRecDepth 20000 in
theorem ggX8_clear_J7_fill_53178 : GoodIn wsX8_clear wsJ7_fill_53178 := goodIn_r _ [15] (by decide +kernel) (by decide +kernel)
set_option maxRecDepth 20000 in
theorem gX8_clear_J7_fill_53178 : GoodIn wsX8_clear (va_wsS RX8 63 yJ7_fill_53178 wsJ7_fill_53178) := goodIn_app (goodIn_of _ (by decide +kernel)) ggX8_clear_J7_fill_53178
theorem dX8_clear_0 : decode cX8_clear 0 = .ok (.aload_n 0, 1) := by decide +kernel
theorem dX8_clear_1 : decode cX8_clear 1 = .ok (.getfield 19, 3) := by decide +kernel
theorem dX8_clear_4 : decode cX8_clear 4 = .ok (.iconst 0, 1) := by decide +kernel
theorem dX8_clear_5 : decode cX8_clear 5 = .ok (.invokestatic 63, 3) := by decide +kernel
theorem dX8_clear_8 : decode cX8_clear 8 = .ok (.aload_n 0, 1) := by decide +kernel
theorem dX8_clear_9 : decode cX8_clear 9 = .ok (.getfield 23, 3) := by decide +kernel
theorem dX8_clear_12 : decode cX8_clear 12 = .ok (.iconst 0, 1) := by decide +kernel
theorem dX8_clear_13 : decode cX8_clear 13 = .ok (.invokestatic 63, 3) := by decide +kernel
theorem dX8_clear_16 : decode cX8_clear 16 = .ok (.aload_n 0, 1) := by decide +kernel
theorem dX8_clear_17 : decode cX8_clear 17 = .ok (.getfield 26, 3) := by decide +kernel
theorem dX8_clear_20 : decode cX8_clear 20 = .ok (.iconst 0, 1) := by decide +kernel
theorem dX8_clear_21 : decode cX8_clear 21 = .ok (.invokestatic 63, 3) := by decide +kernel
theorem dX8_clear_24 : decode cX8_clear 24 = .ok (.aload_n 0, 1) := by decide +kernel
theorem dX8_clear_25 : decode cX8_clear 25 = .ok (.getfield 29, 3) := by decide +kernel
theorem dX8_clear_28 : decode cX8_clear 28 = .ok (.iconst 0, 1) := by decide +kernel
theorem dX8_clear_29 : decode cX8_clear 29 = .ok (.invokestatic 63, 3) := by decide +kernel
theorem dX8_clear_32 : decode cX8_clear 32 = .ok (.aload_n 0, 1) := by decide +kernel
theorem dX8_clear_33 : decode cX8_clear 33 = .ok (.getfield 32, 3) := by decide +kernel
theorem dX8_clear_36 : decode cX8_clear 36 = .ok (.iconst (-1), 1) := by decide +kernel
theorem dX8_clear_37 : decode cX8_clear 37 = .ok (.invokestatic 63, 3) := by decide +kernel
theorem dX8_clear_40 : decode cX8_clear 40 = .ok (.aload_n 0, 1) := by decide +kernel
theorem dX8_clear_41 : decode cX8_clear 41 = .ok (.iconst (-1), 1) := by decide +kernel
theorem dX8_clear_42 : decode cX8_clear 42 = .ok (.putfield 47, 3) := by decide +kernel
theorem dX8_clear_45 : decode cX8_clear 45 = .ok (.aload_n 0, 1) := by decide +kernel
theorem dX8_clear_46 : decode cX8_clear 46 = .ok (.aload_n 0, 1) := by decide +kernel
theorem dX8_clear_47 : decode cX8_clear 47 = .ok (.getfield 9, 3) := by decide +kernel
theorem dX8_clear_50 : decode cX8_clear 50 = .ok (.getfield 42, 3) := by decide +kernel
theorem dX8_clear_53 : decode cX8_clear 53 = .ok (.putfield 50, 3) := by decide +kernel
theorem dX8_clear_56 : decode cX8_clear 56 = .ok (.aload_n 0, 1) := by decide +kernel
theorem dX8_clear_57 : decode cX8_clear 57 = .ok (.getfield 15, 3) := by decide +kernel
theorem dX8_clear_60 : decode cX8_clear 60 = .ok (.ifnull 11, 3) := by decide +kernel
theorem dX8_clear_63 : decode cX8_clear 63 = .ok (.aload_n 0, 1) := by decide +kernel
theorem dX8_clear_64 : decode cX8_clear 64 = .ok (.getfield 15, 3) := by decide +kernel
theorem dX8_clear_67 : decode cX8_clear 67 = .ok (.iconst 0, 1) := by decide +kernel
theorem dX8_clear_68 : decode cX8_clear 68 = .ok (.putfield 69, 3) := by decide +kernel
theorem dX8_clear_71 : decode cX8_clear 71 = .ok (.return_, 1) := by decide +kernel
set_option maxRecDepth 20000 in
theorem ggX8_feelAll_X8_feelOne : GoodIn wsX8_feelAll wsX8_feelOne := goodIn_r _ [8, 9, 10, 11, 12, 13, 14, 15, 1, 16, 17, 18, 19, 20, 21, 22, 23, 24, 25, 26, 27, 7, 28, 2, 29, 30, 3, 31, 32, 33, 34, 35, 36, 37, 38, 39, 40, 41, 42, 43, 44, 45, 46, 47, 48, 49, 50, 51, 52, 53, 54, 55, 56] (by decide +kernel) (by decide +kernel)
set_option maxRecDepth 20000 in
theorem gX8_feelAll_X8_feelOne : GoodIn wsX8_feelAll (wsV RX8 72 RX8 yX8_feelOne wsX8_feelOne) := goodIn_app (goodIn_of _ (by decide +kernel)) ggX8_feelAll_X8_feelOne
theorem dX8_feelAll_0 : decode cX8_feelAll 0 = .ok (.iconst 0, 1) := by decide +kernel
theorem dX8_feelAll_1 : decode cX8_feelAll 1 = .ok (.istore_n 3, 1) := by decide +kernel
theorem dX8_feelAll_2 : decode cX8_feelAll 2 = .ok (.iload_n 3, 1) := by decide +kernel
theorem dX8_feelAll_3 : decode cX8_feelAll 3 = .ok (.aload_n 0, 1) := by decide +kernel
theorem dX8_feelAll_4 : decode cX8_feelAll 4 = .ok (.getfield 9, 3) := by decide +kernel
theorem dX8_feelAll_7 : decode cX8_feelAll 7 = .ok (.getfield 42, 3) := by decide +kernel
theorem dX8_feelAll_10 : decode cX8_feelAll 10 = .ok (.if_icmp .ge 82, 3) := by decide +kernel
theorem dX8_feelAll_13 : decode cX8_feelAll 13 = .ok (.aload_n 0, 1) := by decide +kernel
theorem dX8_feelAll_14 : decode cX8_feelAll 14 = .ok (.getfield 19, 3) := by decide +kernel
theorem dX8_feelAll_17 : decode cX8_feelAll 17 = .ok (.iload_n 2, 1) := by decide +kernel
theorem dX8_feelAll_18 : decode cX8_feelAll 18 = .ok (.iload_n 3, 1) := by decide +kernel
theorem dX8_feelAll_19 : decode cX8_feelAll 19 = .ok (.iadd, 1) := by decide +kernel
theorem dX8_feelAll_20 : decode cX8_feelAll 20 = .ok (.iaload, 1) := by decide +kernel
theorem dX8_feelAll_21 : decode cX8_feelAll 21 = .ok (.istore 4, 2) := by decide +kernel
theorem dX8_feelAll_23 : decode cX8_feelAll 23 = .ok (.aload_n 0, 1) := by decide +kernel
theorem dX8_feelAll_24 : decode cX8_feelAll 24 = .ok (.getfield 19, 3) := by decide +kernel
theorem dX8_feelAll_27 : decode cX8_feelAll 27 = .ok (.iload_n 2, 1) := by decide +kernel
theorem dX8_feelAll_28 : decode cX8_feelAll 28 = .ok (.iload_n 3, 1) := by decide +kernel
theorem dX8_feelAll_29 : decode cX8_feelAll 29 = .ok (.iadd, 1) := by decide +kernel
theorem dX8_feelAll_30 : decode cX8_feelAll 30 = .ok (.iconst 0, 1) := by decide +kernel
theorem dX8_feelAll_31 : decode cX8_feelAll 31 = .ok (.iastore, 1) := by decide +kernel
theorem dX8_feelAll_32 : decode cX8_feelAll 32 = .ok (.iconst 0, 1) := by decide +kernel
theorem dX8_feelAll_33 : decode cX8_feelAll 33 = .ok (.istore 5, 2) := by decide +kernel
theorem dX8_feelAll_35 : decode cX8_feelAll 35 = .ok (.iload 4, 2) := by decide +kernel
theorem dX8_feelAll_37 : decode cX8_feelAll 37 = .ok (.ifCond .eq 49, 3) := by decide +kernel
theorem dX8_feelAll_40 : decode cX8_feelAll 40 = .ok (.iload 5, 2) := by decide +kernel
theorem dX8_feelAll_42 : decode cX8_feelAll 42 = .ok (.bipush 22, 2) := by decide +kernel
theorem dX8_feelAll_44 : decode cX8_feelAll 44 = .ok (.if_icmp .ge 42, 3) := by decide +kernel
theorem dX8_feelAll_47 : decode cX8_feelAll 47 = .ok (.iload 4, 2) := by decide +kernel
theorem dX8_feelAll_49 : decode cX8_feelAll 49 = .ok (.iconst 1, 1) := by decide +kernel
theorem dX8_feelAll_50 : decode cX8_feelAll 50 = .ok (.iand, 1) := by decide +kernel
theorem dX8_feelAll_51 : decode cX8_feelAll 51 = .ok (.ifCond .eq 23, 3) := by decide +kernel
theorem dX8_feelAll_54 : decode cX8_feelAll 54 = .ok (.aload_n 0, 1) := by decide +kernel
theorem dX8_feelAll_55 : decode cX8_feelAll 55 = .ok (.iload_n 3, 1) := by decide +kernel
theorem dX8_feelAll_56 : decode cX8_feelAll 56 = .ok (.iload_n 1, 1) := by decide +kernel
theorem dX8_feelAll_57 : decode cX8_feelAll 57 = .ok (.iload 5, 2) := by decide +kernel
theorem dX8_feelAll_59 : decode cX8_feelAll 59 = .ok (.iconst 2, 1) := by decide +kernel
theorem dX8_feelAll_60 : decode cX8_feelAll 60 = .ok (.if_icmp .ge 7, 3) := by decide +kernel
theorem dX8_feelAll_63 : decode cX8_feelAll 63 = .ok (.iconst (-1), 1) := by decide +kernel
theorem dX8_feelAll_64 : decode cX8_feelAll 64 = .ok (.goto 7, 3) := by decide +kernel
theorem dX8_feelAll_67 : decode cX8_feelAll 67 = .ok (.iload 5, 2) := by decide +kernel
theorem dX8_feelAll_69 : decode cX8_feelAll 69 = .ok (.iconst 2, 1) := by decide +kernel
theorem dX8_feelAll_70 : decode cX8_feelAll 70 = .ok (.isub, 1) := by decide +kernel
theorem dX8_feelAll_71 : decode cX8_feelAll 71 = .ok (.invokevirtual 72, 3) := by decide +kernel
theorem dX8_feelAll_74 : decode cX8_feelAll 74 = .ok (.iload 4, 2) := by decide +kernel
theorem dX8_feelAll_76 : decode cX8_feelAll 76 = .ok (.iconst 1, 1) := by decide +kernel
theorem dX8_feelAll_77 : decode cX8_feelAll 77 = .ok (.ishr, 1) := by decide +kernel
theorem dX8_feelAll_78 : decode cX8_feelAll 78 = .ok (.istore 4, 2) := by decide +kernel
theorem dX8_feelAll_80 : decode cX8_feelAll 80 = .ok (.iinc 5 1, 3) := by decide +kernel
theorem dX8_feelAll_83 : decode cX8_feelAll 83 = .ok (.goto (-48), 3) := by decide +kernel
theorem dX8_feelAll_86 : decode cX8_feelAll 86 = .ok (.iinc 3 1, 3) := by decide +kernel
theorem dX8_feelAll_89 : decode cX8_feelAll 89 = .ok (.goto (-87), 3) := by decide +kernel
theorem dX8_feelAll_92 : decode cX8_feelAll 92 = .ok (.return_, 1) := by decide +kernel
set_option maxRecDepth 20000 in
theorem ggX8_feelOne_X1_note : GoodIn wsX8_feelOne wsX1_note := goodIn_r _ [15, 16, 17, 51, 52] (by decide +kernel) (by decide +kernel)
set_option maxRecDepth 20000 in
theorem gX8_feelOne_X1_note : GoodIn wsX8_feelOne (wsV RX8 76 RX1 yX1_note wsX1_note) := goodIn_app (goodIn_of _ (by decide +kernel)) ggX8_feelOne_X1_note
set_option maxRecDepth 20000 in
theorem ggX8_feelOne_X8_passOn : GoodIn wsX8_feelOne wsX8_passOn := goodIn_r _ [22, 8, 23, 24, 25, 26, 27, 28, 29, 30, 31, 32, 33, 34, 35, 36, 37, 38, 39, 40, 41, 42, 43, 44, 45, 46, 47, 48, 49, 50] (by decide +kernel) (by decide +kernel)
set_option maxRecDepth 20000 in
theorem gX8_feelOne_X8_passOn : GoodIn wsX8_feelOne (wsV RX8 86 RX8 yX8_passOn wsX8_passOn) := goodIn_app (goodIn_of _ (by decide +kernel)) ggX8_feelOne_X8_passOn
theorem dX8_feelOne_0 : decode cX8_feelOne 0 = .ok (.iload_n 2, 1) := by decide +kernel
theorem dX8_feelOne_1 : decode cX8_feelOne 1 = .ok (.aload_n 0, 1) := by decide +kernel
theorem dX8_feelOne_2 : decode cX8_feelOne 2 = .ok (.getfield 23, 3) := by decide +kernel
theorem dX8_feelOne_5 : decode cX8_feelOne 5 = .ok (.iload_n 1, 1) := by decide +kernel
theorem dX8_feelOne_6 : decode cX8_feelOne 6 = .ok (.iaload, 1) := by decide +kernel
theorem dX8_feelOne_7 : decode cX8_feelOne 7 = .ok (.if_icmp .ge 7, 3) := by decide +kernel
theorem dX8_feelOne_10 : decode cX8_feelOne 10 = .ok (.iconst 1, 1) := by decide +kernel
theorem dX8_feelOne_11 : decode cX8_feelOne 11 = .ok (.goto 4, 3) := by decide +kernel
theorem dX8_feelOne_14 : decode cX8_feelOne 14 = .ok (.iconst 0, 1) := by decide +kernel
theorem dX8_feelOne_15 : decode cX8_feelOne 15 = .ok (.istore 4, 2) := by decide +kernel
theorem dX8_feelOne_17 : decode cX8_feelOne 17 = .ok (.aload_n 0, 1) := by decide +kernel
theorem dX8_feelOne_18 : decode cX8_feelOne 18 = .ok (.getfield 15, 3) := by decide +kernel
theorem dX8_feelOne_21 : decode cX8_feelOne 21 = .ok (.ifnull 23, 3) := by decide +kernel
theorem dX8_feelOne_24 : decode cX8_feelOne 24 = .ok (.aload_n 0, 1) := by decide +kernel
theorem dX8_feelOne_25 : decode cX8_feelOne 25 = .ok (.getfield 15, 3) := by decide +kernel
theorem dX8_feelOne_28 : decode cX8_feelOne 28 = .ok (.iload_n 2, 1) := by decide +kernel
theorem dX8_feelOne_29 : decode cX8_feelOne 29 = .ok (.iload_n 1, 1) := by decide +kernel
theorem dX8_feelOne_30 : decode cX8_feelOne 30 = .ok (.iload_n 3, 1) := by decide +kernel
theorem dX8_feelOne_31 : decode cX8_feelOne 31 = .ok (.iload 4, 2) := by decide +kernel
theorem dX8_feelOne_33 : decode cX8_feelOne 33 = .ok (.ifCond .eq 7, 3) := by decide +kernel
theorem dX8_feelOne_36 : decode cX8_feelOne 36 = .ok (.iconst 1, 1) := by decide +kernel
theorem dX8_feelOne_37 : decode cX8_feelOne 37 = .ok (.goto 4, 3) := by decide +kernel
theorem dX8_feelOne_40 : decode cX8_feelOne 40 = .ok (.iconst 0, 1) := by decide +kernel
theorem dX8_feelOne_41 : decode cX8_feelOne 41 = .ok (.invokevirtual 76, 3) := by decide +kernel
theorem dX8_feelOne_44 : decode cX8_feelOne 44 = .ok (.iload 4, 2) := by decide +kernel
theorem dX8_feelOne_46 : decode cX8_feelOne 46 = .ok (.ifCond .eq 14, 3) := by decide +kernel
theorem dX8_feelOne_49 : decode cX8_feelOne 49 = .ok (.aload_n 0, 1) := by decide +kernel
theorem dX8_feelOne_50 : decode cX8_feelOne 50 = .ok (.getfield 29, 3) := by decide +kernel
theorem dX8_feelOne_53 : decode cX8_feelOne 53 = .ok (.iload_n 1, 1) := by decide +kernel
theorem dX8_feelOne_54 : decode cX8_feelOne 54 = .ok (.dup2, 1) := by decide +kernel
theorem dX8_feelOne_55 : decode cX8_feelOne 55 = .ok (.iaload, 1) := by decide +kernel
theorem dX8_feelOne_56 : decode cX8_feelOne 56 = .ok (.iconst 1, 1) := by decide +kernel
theorem dX8_feelOne_57 : decode cX8_feelOne 57 = .ok (.iadd, 1) := by decide +kernel
theorem dX8_feelOne_58 : decode cX8_feelOne 58 = .ok (.iastore, 1) := by decide +kernel
theorem dX8_feelOne_59 : decode cX8_feelOne 59 = .ok (.return_, 1) := by decide +kernel
theorem dX8_feelOne_60 : decode cX8_feelOne 60 = .ok (.aload_n 0, 1) := by decide +kernel
theorem dX8_feelOne_61 : decode cX8_feelOne 61 = .ok (.getfield 26, 3) := by decide +kernel
theorem dX8_feelOne_64 : decode cX8_feelOne 64 = .ok (.iload_n 1, 1) := by decide +kernel
theorem dX8_feelOne_65 : decode cX8_feelOne 65 = .ok (.dup2, 1) := by decide +kernel
theorem dX8_feelOne_66 : decode cX8_feelOne 66 = .ok (.iaload, 1) := by decide +kernel
theorem dX8_feelOne_67 : decode cX8_feelOne 67 = .ok (.iconst 1, 1) := by decide +kernel
theorem dX8_feelOne_68 : decode cX8_feelOne 68 = .ok (.iadd, 1) := by decide +kernel
theorem dX8_feelOne_69 : decode cX8_feelOne 69 = .ok (.iastore, 1) := by decide +kernel
theorem dX8_feelOne_70 : decode cX8_feelOne 70 = .ok (.aload_n 0, 1) := by decide +kernel
theorem dX8_feelOne_71 : decode cX8_feelOne 71 = .ok (.getfield 32, 3) := by decide +kernel
theorem dX8_feelOne_74 : decode cX8_feelOne 74 = .ok (.iload_n 1, 1) := by decide +kernel
theorem dX8_feelOne_75 : decode cX8_feelOne 75 = .ok (.iaload, 1) := by decide +kernel
theorem dX8_feelOne_76 : decode cX8_feelOne 76 = .ok (.iconst (-1), 1) := by decide +kernel
theorem dX8_feelOne_77 : decode cX8_feelOne 77 = .ok (.if_icmp .ne 20, 3) := by decide +kernel
theorem dX8_feelOne_80 : decode cX8_feelOne 80 = .ok (.aload_n 0, 1) := by decide +kernel
theorem dX8_feelOne_81 : decode cX8_feelOne 81 = .ok (.getfield 32, 3) := by decide +kernel
theorem dX8_feelOne_84 : decode cX8_feelOne 84 = .ok (.iload_n 1, 1) := by decide +kernel
theorem dX8_feelOne_85 : decode cX8_feelOne 85 = .ok (.iload_n 2, 1) := by decide +kernel
theorem dX8_feelOne_86 : decode cX8_feelOne 86 = .ok (.iastore, 1) := by decide +kernel
theorem dX8_feelOne_87 : decode cX8_feelOne 87 = .ok (.aload_n 0, 1) := by decide +kernel
theorem dX8_feelOne_88 : decode cX8_feelOne 88 = .ok (.dup, 1) := by decide +kernel
theorem dX8_feelOne_89 : decode cX8_feelOne 89 = .ok (.getfield 50, 3) := by decide +kernel
theorem dX8_feelOne_92 : decode cX8_feelOne 92 = .ok (.iconst 1, 1) := by decide +kernel
theorem dX8_feelOne_93 : decode cX8_feelOne 93 = .ok (.isub, 1) := by decide +kernel
theorem dX8_feelOne_94 : decode cX8_feelOne 94 = .ok (.putfield 50, 3) := by decide +kernel
theorem dX8_feelOne_97 : decode cX8_feelOne 97 = .ok (.iload_n 1, 1) := by decide +kernel
theorem dX8_feelOne_98 : decode cX8_feelOne 98 = .ok (.aload_n 0, 1) := by decide +kernel
theorem dX8_feelOne_99 : decode cX8_feelOne 99 = .ok (.getfield 38, 3) := by decide +kernel
theorem dX8_feelOne_102 : decode cX8_feelOne 102 = .ok (.if_icmp .ne 7, 3) := by decide +kernel
theorem dX8_feelOne_105 : decode cX8_feelOne 105 = .ok (.iconst 3, 1) := by decide +kernel
theorem dX8_feelOne_106 : decode cX8_feelOne 106 = .ok (.goto 12, 3) := by decide +kernel
theorem dX8_feelOne_109 : decode cX8_feelOne 109 = .ok (.aload_n 0, 1) := by decide +kernel
theorem dX8_feelOne_110 : decode cX8_feelOne 110 = .ok (.getfield 9, 3) := by decide +kernel
theorem dX8_feelOne_113 : decode cX8_feelOne 113 = .ok (.getfield 80, 3) := by decide +kernel
theorem dX8_feelOne_116 : decode cX8_feelOne 116 = .ok (.iload_n 1, 1) := by decide +kernel
theorem dX8_feelOne_117 : decode cX8_feelOne 117 = .ok (.iaload, 1) := by decide +kernel
theorem dX8_feelOne_118 : decode cX8_feelOne 118 = .ok (.istore 5, 2) := by decide +kernel
theorem dX8_feelOne_120 : decode cX8_feelOne 120 = .ok (.iload 5, 2) := by decide +kernel
theorem dX8_feelOne_122 : decode cX8_feelOne 122 = .ok (.iconst 3, 1) := by decide +kernel
theorem dX8_feelOne_123 : decode cX8_feelOne 123 = .ok (.if_icmp .eq 21, 3) := by decide +kernel
theorem dX8_feelOne_126 : decode cX8_feelOne 126 = .ok (.iload 5, 2) := by decide +kernel
theorem dX8_feelOne_128 : decode cX8_feelOne 128 = .ok (.iconst 2, 1) := by decide +kernel
theorem dX8_feelOne_129 : decode cX8_feelOne 129 = .ok (.if_icmp .ne 16, 3) := by decide +kernel
theorem dX8_feelOne_132 : decode cX8_feelOne 132 = .ok (.aload_n 0, 1) := by decide +kernel
theorem dX8_feelOne_133 : decode cX8_feelOne 133 = .ok (.getfield 26, 3) := by decide +kernel
theorem dX8_feelOne_136 : decode cX8_feelOne 136 = .ok (.iload_n 1, 1) := by decide +kernel
theorem dX8_feelOne_137 : decode cX8_feelOne 137 = .ok (.iaload, 1) := by decide +kernel
theorem dX8_feelOne_138 : decode cX8_feelOne 138 = .ok (.iconst 2, 1) := by decide +kernel
theorem dX8_feelOne_139 : decode cX8_feelOne 139 = .ok (.irem, 1) := by decide +kernel
theorem dX8_feelOne_140 : decode cX8_feelOne 140 = .ok (.iconst 1, 1) := by decide +kernel
theorem dX8_feelOne_141 : decode cX8_feelOne 141 = .ok (.if_icmp .ne 4, 3) := by decide +kernel
theorem dX8_feelOne_144 : decode cX8_feelOne 144 = .ok (.return_, 1) := by decide +kernel
theorem dX8_feelOne_145 : decode cX8_feelOne 145 = .ok (.aload_n 0, 1) := by decide +kernel
theorem dX8_feelOne_146 : decode cX8_feelOne 146 = .ok (.getfield 9, 3) := by decide +kernel
theorem dX8_feelOne_149 : decode cX8_feelOne 149 = .ok (.getfield 83, 3) := by decide +kernel
theorem dX8_feelOne_152 : decode cX8_feelOne 152 = .ok (.iload_n 1, 1) := by decide +kernel
theorem dX8_feelOne_153 : decode cX8_feelOne 153 = .ok (.iaload, 1) := by decide +kernel
theorem dX8_feelOne_154 : decode cX8_feelOne 154 = .ok (.istore 6, 2) := by decide +kernel
theorem dX8_feelOne_156 : decode cX8_feelOne 156 = .ok (.aload_n 0, 1) := by decide +kernel
theorem dX8_feelOne_157 : decode cX8_feelOne 157 = .ok (.iload_n 1, 1) := by decide +kernel
theorem dX8_feelOne_158 : decode cX8_feelOne 158 = .ok (.iload_n 2, 1) := by decide +kernel
theorem dX8_feelOne_159 : decode cX8_feelOne 159 = .ok (.iload 6, 2) := by decide +kernel
theorem dX8_feelOne_161 : decode cX8_feelOne 161 = .ok (.iadd, 1) := by decide +kernel
theorem dX8_feelOne_162 : decode cX8_feelOne 162 = .ok (.iload_n 3, 1) := by decide +kernel
theorem dX8_feelOne_163 : decode cX8_feelOne 163 = .ok (.invokevirtual 86, 3) := by decide +kernel
theorem dX8_feelOne_166 : decode cX8_feelOne 166 = .ok (.aload_n 0, 1) := by decide +kernel
theorem dX8_feelOne_167 : decode cX8_feelOne 167 = .ok (.getfield 23, 3) := by decide +kernel
theorem dX8_feelOne_170 : decode cX8_feelOne 170 = .ok (.iload_n 1, 1) := by decide +kernel
theorem dX8_feelOne_171 : decode cX8_feelOne 171 = .ok (.iload_n 2, 1) := by decide +kernel
theorem dX8_feelOne_172 : decode cX8_feelOne 172 = .ok (.iload 6, 2) := by decide +kernel
theorem dX8_feelOne_174 : decode cX8_feelOne 174 = .ok (.iadd, 1) := by decide +kernel
theorem dX8_feelOne_175 : decode cX8_feelOne 175 = .ok (.iastore, 1) := by decide +kernel
theorem dX8_feelOne_176 : decode cX8_feelOne 176 = .ok (.iload 5, 2) := by decide +kernel
theorem dX8_feelOne_178 : decode cX8_feelOne 178 = .ok (.iconst 1, 1) := by decide +kernel
theorem dX8_feelOne_179 : decode cX8_feelOne 179 = .ok (.if_icmp .ne 27, 3) := by decide +kernel
theorem dX8_feelOne_182 : decode cX8_feelOne 182 = .ok (.aload_n 0, 1) := by decide +kernel
theorem dX8_feelOne_183 : decode cX8_feelOne 183 = .ok (.iload_n 1, 1) := by decide +kernel
theorem dX8_feelOne_184 : decode cX8_feelOne 184 = .ok (.iload_n 2, 1) := by decide +kernel
theorem dX8_feelOne_185 : decode cX8_feelOne 185 = .ok (.iconst 2, 1) := by decide +kernel
theorem dX8_feelOne_186 : decode cX8_feelOne 186 = .ok (.iload 6, 2) := by decide +kernel
theorem dX8_feelOne_188 : decode cX8_feelOne 188 = .ok (.imul, 1) := by decide +kernel
theorem dX8_feelOne_189 : decode cX8_feelOne 189 = .ok (.iadd, 1) := by decide +kernel
theorem dX8_feelOne_190 : decode cX8_feelOne 190 = .ok (.iload_n 3, 1) := by decide +kernel
theorem dX8_feelOne_191 : decode cX8_feelOne 191 = .ok (.invokevirtual 86, 3) := by decide +kernel
theorem dX8_feelOne_194 : decode cX8_feelOne 194 = .ok (.aload_n 0, 1) := by decide +kernel
theorem dX8_feelOne_195 : decode cX8_feelOne 195 = .ok (.getfield 23, 3) := by decide +kernel
theorem dX8_feelOne_198 : decode cX8_feelOne 198 = .ok (.iload_n 1, 1) := by decide +kernel
theorem dX8_feelOne_199 : decode cX8_feelOne 199 = .ok (.iload_n 2, 1) := by decide +kernel
theorem dX8_feelOne_200 : decode cX8_feelOne 200 = .ok (.iconst 2, 1) := by decide +kernel
theorem dX8_feelOne_201 : decode cX8_feelOne 201 = .ok (.iload 6, 2) := by decide +kernel
theorem dX8_feelOne_203 : decode cX8_feelOne 203 = .ok (.imul, 1) := by decide +kernel
theorem dX8_feelOne_204 : decode cX8_feelOne 204 = .ok (.iadd, 1) := by decide +kernel
theorem dX8_feelOne_205 : decode cX8_feelOne 205 = .ok (.iastore, 1) := by decide +kernel
theorem dX8_feelOne_206 : decode cX8_feelOne 206 = .ok (.return_, 1) := by decide +kernel
theorem dX8_passOn_0 : decode cX8_passOn 0 = .ok (.iconst 0, 1) := by decide +kernel
theorem dX8_passOn_1 : decode cX8_passOn 1 = .ok (.istore 4, 2) := by decide +kernel
theorem dX8_passOn_3 : decode cX8_passOn 3 = .ok (.iload 4, 2) := by decide +kernel
theorem dX8_passOn_5 : decode cX8_passOn 5 = .ok (.aload_n 0, 1) := by decide +kernel
theorem dX8_passOn_6 : decode cX8_passOn 6 = .ok (.getfield 9, 3) := by decide +kernel
theorem dX8_passOn_9 : decode cX8_passOn 9 = .ok (.getfield 42, 3) := by decide +kernel
theorem dX8_passOn_12 : decode cX8_passOn 12 = .ok (.if_icmp .ge 115, 3) := by decide +kernel
theorem dX8_passOn_15 : decode cX8_passOn 15 = .ok (.iload 4, 2) := by decide +kernel
theorem dX8_passOn_17 : decode cX8_passOn 17 = .ok (.iload_n 3, 1) := by decide +kernel
theorem dX8_passOn_18 : decode cX8_passOn 18 = .ok (.if_icmp .eq 103, 3) := by decide +kernel
theorem dX8_passOn_21 : decode cX8_passOn 21 = .ok (.aload_n 0, 1) := by decide +kernel
theorem dX8_passOn_22 : decode cX8_passOn 22 = .ok (.getfield 9, 3) := by decide +kernel
theorem dX8_passOn_25 : decode cX8_passOn 25 = .ok (.getfield 89, 3) := by decide +kernel
theorem dX8_passOn_28 : decode cX8_passOn 28 = .ok (.iload_n 1, 1) := by decide +kernel
theorem dX8_passOn_29 : decode cX8_passOn 29 = .ok (.iaload, 1) := by decide +kernel
theorem dX8_passOn_30 : decode cX8_passOn 30 = .ok (.iload 4, 2) := by decide +kernel
theorem dX8_passOn_32 : decode cX8_passOn 32 = .ok (.ishr, 1) := by decide +kernel
theorem dX8_passOn_33 : decode cX8_passOn 33 = .ok (.iconst 1, 1) := by decide +kernel
theorem dX8_passOn_34 : decode cX8_passOn 34 = .ok (.iand, 1) := by decide +kernel
theorem dX8_passOn_35 : decode cX8_passOn 35 = .ok (.ifCond .ne 6, 3) := by decide +kernel
theorem dX8_passOn_38 : decode cX8_passOn 38 = .ok (.goto 83, 3) := by decide +kernel
theorem dX8_passOn_41 : decode cX8_passOn 41 = .ok (.aload_n 0, 1) := by decide +kernel
theorem dX8_passOn_42 : decode cX8_passOn 42 = .ok (.getfield 9, 3) := by decide +kernel
theorem dX8_passOn_45 : decode cX8_passOn 45 = .ok (.getfield 92, 3) := by decide +kernel
theorem dX8_passOn_48 : decode cX8_passOn 48 = .ok (.iload_n 1, 1) := by decide +kernel
theorem dX8_passOn_49 : decode cX8_passOn 49 = .ok (.iaload, 1) := by decide +kernel
theorem dX8_passOn_50 : decode cX8_passOn 50 = .ok (.iload 4, 2) := by decide +kernel
theorem dX8_passOn_52 : decode cX8_passOn 52 = .ok (.ishr, 1) := by decide +kernel
theorem dX8_passOn_53 : decode cX8_passOn 53 = .ok (.iconst 1, 1) := by decide +kernel
theorem dX8_passOn_54 : decode cX8_passOn 54 = .ok (.iand, 1) := by decide +kernel
theorem dX8_passOn_55 : decode cX8_passOn 55 = .ok (.ifCond .ne 7, 3) := by decide +kernel
theorem dX8_passOn_58 : decode cX8_passOn 58 = .ok (.iload_n 2, 1) := by decide +kernel
theorem dX8_passOn_59 : decode cX8_passOn 59 = .ok (.goto 6, 3) := by decide +kernel
theorem dX8_passOn_62 : decode cX8_passOn 62 = .ok (.iload_n 2, 1) := by decide +kernel
theorem dX8_passOn_63 : decode cX8_passOn 63 = .ok (.iconst 3, 1) := by decide +kernel
theorem dX8_passOn_64 : decode cX8_passOn 64 = .ok (.iadd, 1) := by decide +kernel
theorem dX8_passOn_65 : decode cX8_passOn 65 = .ok (.istore 5, 2) := by decide +kernel
theorem dX8_passOn_67 : decode cX8_passOn 67 = .ok (.iload 5, 2) := by decide +kernel
theorem dX8_passOn_69 : decode cX8_passOn 69 = .ok (.sipush 400, 3) := by decide +kernel
theorem dX8_passOn_72 : decode cX8_passOn 72 = .ok (.if_icmp .gt 49, 3) := by decide +kernel
theorem dX8_passOn_75 : decode cX8_passOn 75 = .ok (.aload_n 0, 1) := by decide +kernel
theorem dX8_passOn_76 : decode cX8_passOn 76 = .ok (.getfield 19, 3) := by decide +kernel
theorem dX8_passOn_79 : decode cX8_passOn 79 = .ok (.iload 5, 2) := by decide +kernel
theorem dX8_passOn_81 : decode cX8_passOn 81 = .ok (.bipush 32, 2) := by decide +kernel
theorem dX8_passOn_83 : decode cX8_passOn 83 = .ok (.irem, 1) := by decide +kernel
theorem dX8_passOn_84 : decode cX8_passOn 84 = .ok (.bipush 20, 2) := by decide +kernel
theorem dX8_passOn_86 : decode cX8_passOn 86 = .ok (.imul, 1) := by decide +kernel
theorem dX8_passOn_87 : decode cX8_passOn 87 = .ok (.iload 4, 2) := by decide +kernel
theorem dX8_passOn_89 : decode cX8_passOn 89 = .ok (.iadd, 1) := by decide +kernel
theorem dX8_passOn_90 : decode cX8_passOn 90 = .ok (.dup2, 1) := by decide +kernel
theorem dX8_passOn_91 : decode cX8_passOn 91 = .ok (.iaload, 1) := by decide +kernel
theorem dX8_passOn_92 : decode cX8_passOn 92 = .ok (.iconst 1, 1) := by decide +kernel
theorem dX8_passOn_93 : decode cX8_passOn 93 = .ok (.iload_n 1, 1) := by decide +kernel
theorem dX8_passOn_94 : decode cX8_passOn 94 = .ok (.iconst 2, 1) := by decide +kernel
theorem dX8_passOn_95 : decode cX8_passOn 95 = .ok (.iadd, 1) := by decide +kernel
theorem dX8_passOn_96 : decode cX8_passOn 96 = .ok (.ishl, 1) := by decide +kernel
theorem dX8_passOn_97 : decode cX8_passOn 97 = .ok (.ior, 1) := by decide +kernel
theorem dX8_passOn_98 : decode cX8_passOn 98 = .ok (.iastore, 1) := by decide +kernel
theorem dX8_passOn_99 : decode cX8_passOn 99 = .ok (.aload_n 0, 1) := by decide +kernel
theorem dX8_passOn_100 : decode cX8_passOn 100 = .ok (.iload 5, 2) := by decide +kernel
theorem dX8_passOn_102 : decode cX8_passOn 102 = .ok (.aload_n 0, 1) := by decide +kernel
theorem dX8_passOn_103 : decode cX8_passOn 103 = .ok (.getfield 47, 3) := by decide +kernel
theorem dX8_passOn_106 : decode cX8_passOn 106 = .ok (.if_icmp .le 8, 3) := by decide +kernel
theorem dX8_passOn_109 : decode cX8_passOn 109 = .ok (.iload 5, 2) := by decide +kernel
theorem dX8_passOn_111 : decode cX8_passOn 111 = .ok (.goto 7, 3) := by decide +kernel
theorem dX8_passOn_114 : decode cX8_passOn 114 = .ok (.aload_n 0, 1) := by decide +kernel
theorem dX8_passOn_115 : decode cX8_passOn 115 = .ok (.getfield 47, 3) := by decide +kernel
theorem dX8_passOn_118 : decode cX8_passOn 118 = .ok (.putfield 47, 3) := by decide +kernel
theorem dX8_passOn_121 : decode cX8_passOn 121 = .ok (.iinc 4 1, 3) := by decide +kernel
theorem dX8_passOn_124 : decode cX8_passOn 124 = .ok (.goto (-121), 3) := by decide +kernel
theorem dX8_passOn_127 : decode cX8_passOn 127 = .ok (.return_, 1) := by decide +kernel
set_option maxRecDepth 20000 in
theorem ggX8_reachedBits_X8_feltAtLeast : GoodIn wsX8_reachedBits wsX8_feltAtLeast := goodIn_r _ [5, 6, 7, 8, 9, 10, 11, 12, 13, 14, 15, 16, 17, 18, 19, 20, 21, 22, 23, 24, 25, 26, 27, 28, 29, 30, 31] (by decide +kernel) (by decide +kernel)
set_option maxRecDepth 20000 in
theorem gX8_reachedBits_X8_feltAtLeast : GoodIn wsX8_reachedBits (wsV RX8 95 RX8 yX8_feltAtLeast wsX8_feltAtLeast) := goodIn_app (goodIn_of _ (by decide +kernel)) ggX8_reachedBits_X8_feltAtLeast
theorem dX8_reachedBits_0 : decode cX8_reachedBits 0 = .ok (.aload_n 0, 1) := by decide +kernel
theorem dX8_reachedBits_1 : decode cX8_reachedBits 1 = .ok (.iconst 1, 1) := by decide +kernel
theorem dX8_reachedBits_2 : decode cX8_reachedBits 2 = .ok (.invokevirtual 95, 3) := by decide +kernel
theorem dX8_reachedBits_5 : decode cX8_reachedBits 5 = .ok (.ireturn, 1) := by decide +kernel
set_option maxRecDepth 20000 in
theorem ggX8_twiceBits_X8_feltAtLeast : GoodIn wsX8_twiceBits wsX8_feltAtLeast := goodIn_r _ [5, 6, 7, 8, 9, 10, 11, 12, 13, 14, 15, 16, 17, 18, 19, 20, 21, 22, 23, 24, 25, 26, 27, 28, 29, 30, 31] (by decide +kernel) (by decide +kernel)
set_option maxRecDepth 20000 in
theorem gX8_twiceBits_X8_feltAtLeast : GoodIn wsX8_twiceBits (wsV RX8 95 RX8 yX8_feltAtLeast wsX8_feltAtLeast) := goodIn_app (goodIn_of _ (by decide +kernel)) ggX8_twiceBits_X8_feltAtLeast
theorem dX8_twiceBits_0 : decode cX8_twiceBits 0 = .ok (.aload_n 0, 1) := by decide +kernel
theorem dX8_twiceBits_1 : decode cX8_twiceBits 1 = .ok (.iconst 2, 1) := by decide +kernel
theorem dX8_twiceBits_2 : decode cX8_twiceBits 2 = .ok (.invokevirtual 95, 3) := by decide +kernel
theorem dX8_twiceBits_5 : decode cX8_twiceBits 5 = .ok (.ireturn, 1) := by decide +kernel
theorem dX8_feltAtLeast_0 : decode cX8_feltAtLeast 0 = .ok (.iconst 0, 1) := by decide +kernel
theorem dX8_feltAtLeast_1 : decode cX8_feltAtLeast 1 = .ok (.istore_n 2, 1) := by decide +kernel
theorem dX8_feltAtLeast_2 : decode cX8_feltAtLeast 2 = .ok (.iconst 0, 1) := by decide +kernel
theorem dX8_feltAtLeast_3 : decode cX8_feltAtLeast 3 = .ok (.istore_n 3, 1) := by decide +kernel
theorem dX8_feltAtLeast_4 : decode cX8_feltAtLeast 4 = .ok (.iload_n 3, 1) := by decide +kernel
theorem dX8_feltAtLeast_5 : decode cX8_feltAtLeast 5 = .ok (.aload_n 0, 1) := by decide +kernel
theorem dX8_feltAtLeast_6 : decode cX8_feltAtLeast 6 = .ok (.getfield 9, 3) := by decide +kernel
theorem dX8_feltAtLeast_9 : decode cX8_feltAtLeast 9 = .ok (.getfield 42, 3) := by decide +kernel
theorem dX8_feltAtLeast_12 : decode cX8_feltAtLeast 12 = .ok (.if_icmp .ge 25, 3) := by decide +kernel
theorem dX8_feltAtLeast_15 : decode cX8_feltAtLeast 15 = .ok (.aload_n 0, 1) := by decide +kernel
theorem dX8_feltAtLeast_16 : decode cX8_feltAtLeast 16 = .ok (.getfield 26, 3) := by decide +kernel
theorem dX8_feltAtLeast_19 : decode cX8_feltAtLeast 19 = .ok (.iload_n 3, 1) := by decide +kernel
theorem dX8_feltAtLeast_20 : decode cX8_feltAtLeast 20 = .ok (.iaload, 1) := by decide +kernel
theorem dX8_feltAtLeast_21 : decode cX8_feltAtLeast 21 = .ok (.iload_n 1, 1) := by decide +kernel
theorem dX8_feltAtLeast_22 : decode cX8_feltAtLeast 22 = .ok (.if_icmp .lt 9, 3) := by decide +kernel
theorem dX8_feltAtLeast_25 : decode cX8_feltAtLeast 25 = .ok (.iload_n 2, 1) := by decide +kernel
theorem dX8_feltAtLeast_26 : decode cX8_feltAtLeast 26 = .ok (.iconst 1, 1) := by decide +kernel
theorem dX8_feltAtLeast_27 : decode cX8_feltAtLeast 27 = .ok (.iload_n 3, 1) := by decide +kernel
theorem dX8_feltAtLeast_28 : decode cX8_feltAtLeast 28 = .ok (.ishl, 1) := by decide +kernel
theorem dX8_feltAtLeast_29 : decode cX8_feltAtLeast 29 = .ok (.ior, 1) := by decide +kernel
theorem dX8_feltAtLeast_30 : decode cX8_feltAtLeast 30 = .ok (.istore_n 2, 1) := by decide +kernel
theorem dX8_feltAtLeast_31 : decode cX8_feltAtLeast 31 = .ok (.iinc 3 1, 3) := by decide +kernel
theorem dX8_feltAtLeast_34 : decode cX8_feltAtLeast 34 = .ok (.goto (-30), 3) := by decide +kernel
theorem dX8_feltAtLeast_37 : decode cX8_feltAtLeast 37 = .ok (.iload_n 2, 1) := by decide +kernel
theorem dX8_feltAtLeast_38 : decode cX8_feltAtLeast 38 = .ok (.ireturn, 1) := by decide +kernel
theorem dX8_lastTime_0 : decode cX8_lastTime 0 = .ok (.iconst (-1), 1) := by decide +kernel
theorem dX8_lastTime_1 : decode cX8_lastTime 1 = .ok (.istore_n 1, 1) := by decide +kernel
theorem dX8_lastTime_2 : decode cX8_lastTime 2 = .ok (.iconst 0, 1) := by decide +kernel
theorem dX8_lastTime_3 : decode cX8_lastTime 3 = .ok (.istore_n 2, 1) := by decide +kernel
theorem dX8_lastTime_4 : decode cX8_lastTime 4 = .ok (.iload_n 2, 1) := by decide +kernel
theorem dX8_lastTime_5 : decode cX8_lastTime 5 = .ok (.aload_n 0, 1) := by decide +kernel
theorem dX8_lastTime_6 : decode cX8_lastTime 6 = .ok (.getfield 9, 3) := by decide +kernel
theorem dX8_lastTime_9 : decode cX8_lastTime 9 = .ok (.getfield 42, 3) := by decide +kernel
theorem dX8_lastTime_12 : decode cX8_lastTime 12 = .ok (.if_icmp .ge 20, 3) := by decide +kernel
theorem dX8_lastTime_15 : decode cX8_lastTime 15 = .ok (.iload_n 1, 1) := by decide +kernel
theorem dX8_lastTime_16 : decode cX8_lastTime 16 = .ok (.aload_n 0, 1) := by decide +kernel
theorem dX8_lastTime_17 : decode cX8_lastTime 17 = .ok (.getfield 32, 3) := by decide +kernel
theorem dX8_lastTime_20 : decode cX8_lastTime 20 = .ok (.iload_n 2, 1) := by decide +kernel
theorem dX8_lastTime_21 : decode cX8_lastTime 21 = .ok (.iaload, 1) := by decide +kernel
theorem dX8_lastTime_22 : decode cX8_lastTime 22 = .ok (.invokestatic 99, 3) := by decide +kernel
theorem dX8_lastTime_25 : decode cX8_lastTime 25 = .ok (.istore_n 1, 1) := by decide +kernel
theorem dX8_lastTime_26 : decode cX8_lastTime 26 = .ok (.iinc 2 1, 3) := by decide +kernel
theorem dX8_lastTime_29 : decode cX8_lastTime 29 = .ok (.goto (-25), 3) := by decide +kernel
theorem dX8_lastTime_32 : decode cX8_lastTime 32 = .ok (.iload_n 1, 1) := by decide +kernel
theorem dX8_lastTime_33 : decode cX8_lastTime 33 = .ok (.ireturn, 1) := by decide +kernel
theorem dX8_allLost_0 : decode cX8_allLost 0 = .ok (.iconst 0, 1) := by decide +kernel
theorem dX8_allLost_1 : decode cX8_allLost 1 = .ok (.istore_n 1, 1) := by decide +kernel
theorem dX8_allLost_2 : decode cX8_allLost 2 = .ok (.iconst 0, 1) := by decide +kernel
theorem dX8_allLost_3 : decode cX8_allLost 3 = .ok (.istore_n 2, 1) := by decide +kernel
theorem dX8_allLost_4 : decode cX8_allLost 4 = .ok (.iload_n 2, 1) := by decide +kernel
theorem dX8_allLost_5 : decode cX8_allLost 5 = .ok (.aload_n 0, 1) := by decide +kernel
theorem dX8_allLost_6 : decode cX8_allLost 6 = .ok (.getfield 9, 3) := by decide +kernel
theorem dX8_allLost_9 : decode cX8_allLost 9 = .ok (.getfield 42, 3) := by decide +kernel
theorem dX8_allLost_12 : decode cX8_allLost 12 = .ok (.if_icmp .ge 18, 3) := by decide +kernel
theorem dX8_allLost_15 : decode cX8_allLost 15 = .ok (.iload_n 1, 1) := by decide +kernel
theorem dX8_allLost_16 : decode cX8_allLost 16 = .ok (.aload_n 0, 1) := by decide +kernel
theorem dX8_allLost_17 : decode cX8_allLost 17 = .ok (.getfield 29, 3) := by decide +kernel
theorem dX8_allLost_20 : decode cX8_allLost 20 = .ok (.iload_n 2, 1) := by decide +kernel
theorem dX8_allLost_21 : decode cX8_allLost 21 = .ok (.iaload, 1) := by decide +kernel
theorem dX8_allLost_22 : decode cX8_allLost 22 = .ok (.iadd, 1) := by decide +kernel
theorem dX8_allLost_23 : decode cX8_allLost 23 = .ok (.istore_n 1, 1) := by decide +kernel
theorem dX8_allLost_24 : decode cX8_allLost 24 = .ok (.iinc 2 1, 3) := by decide +kernel
theorem dX8_allLost_27 : decode cX8_allLost 27 = .ok (.goto (-23), 3) := by decide +kernel
theorem dX8_allLost_30 : decode cX8_allLost 30 = .ok (.iload_n 1, 1) := by decide +kernel
theorem dX8_allLost_31 : decode cX8_allLost 31 = .ok (.ireturn, 1) := by decide +kernel
set_option maxRecDepth 20000 in
theorem ggX8_timeOfFelt_X1_findFelt : GoodIn wsX8_timeOfFelt wsX1_findFelt := goodIn_r _ [6, 7, 8, 9, 10, 5, 11, 25, 26] (by decide +kernel) (by decide +kernel)
set_option maxRecDepth 20000 in
theorem gX8_timeOfFelt_X1_findFelt : GoodIn wsX8_timeOfFelt (wsV RX8 105 RX1 yX1_findFelt wsX1_findFelt) := goodIn_app (goodIn_of _ (by decide +kernel)) ggX8_timeOfFelt_X1_findFelt
set_option maxRecDepth 20000 in
theorem ggX8_timeOfFelt_X1_timeOf : GoodIn wsX8_timeOfFelt wsX1_timeOf := goodIn_r _ [14] (by decide +kernel) (by decide +kernel)
set_option maxRecDepth 20000 in
theorem gX8_timeOfFelt_X1_timeOf : GoodIn wsX8_timeOfFelt (va_wsS RX8 108 yX1_timeOf wsX1_timeOf) := goodIn_app (goodIn_of _ (by decide +kernel)) ggX8_timeOfFelt_X1_timeOf
theorem dX8_timeOfFelt_0 : decode cX8_timeOfFelt 0 = .ok (.aload_n 0, 1) := by decide +kernel
theorem dX8_timeOfFelt_1 : decode cX8_timeOfFelt 1 = .ok (.getfield 15, 3) := by decide +kernel
theorem dX8_timeOfFelt_4 : decode cX8_timeOfFelt 4 = .ok (.ifnonnull 7, 3) := by decide +kernel
theorem dX8_timeOfFelt_7 : decode cX8_timeOfFelt 7 = .ok (.iconst (-1), 1) := by decide +kernel
theorem dX8_timeOfFelt_8 : decode cX8_timeOfFelt 8 = .ok (.goto 12, 3) := by decide +kernel
theorem dX8_timeOfFelt_11 : decode cX8_timeOfFelt 11 = .ok (.aload_n 0, 1) := by decide +kernel
theorem dX8_timeOfFelt_12 : decode cX8_timeOfFelt 12 = .ok (.getfield 15, 3) := by decide +kernel
theorem dX8_timeOfFelt_15 : decode cX8_timeOfFelt 15 = .ok (.iload_n 1, 1) := by decide +kernel
theorem dX8_timeOfFelt_16 : decode cX8_timeOfFelt 16 = .ok (.iload_n 2, 1) := by decide +kernel
theorem dX8_timeOfFelt_17 : decode cX8_timeOfFelt 17 = .ok (.invokevirtual 105, 3) := by decide +kernel
theorem dX8_timeOfFelt_20 : decode cX8_timeOfFelt 20 = .ok (.istore_n 3, 1) := by decide +kernel
theorem dX8_timeOfFelt_21 : decode cX8_timeOfFelt 21 = .ok (.iload_n 3, 1) := by decide +kernel
theorem dX8_timeOfFelt_22 : decode cX8_timeOfFelt 22 = .ok (.iconst (-1), 1) := by decide +kernel
theorem dX8_timeOfFelt_23 : decode cX8_timeOfFelt 23 = .ok (.if_icmp .ne 7, 3) := by decide +kernel
theorem dX8_timeOfFelt_26 : decode cX8_timeOfFelt 26 = .ok (.iconst (-1), 1) := by decide +kernel
theorem dX8_timeOfFelt_27 : decode cX8_timeOfFelt 27 = .ok (.goto 7, 3) := by decide +kernel
theorem dX8_timeOfFelt_30 : decode cX8_timeOfFelt 30 = .ok (.iload_n 3, 1) := by decide +kernel
theorem dX8_timeOfFelt_31 : decode cX8_timeOfFelt 31 = .ok (.invokestatic 108, 3) := by decide +kernel
theorem dX8_timeOfFelt_34 : decode cX8_timeOfFelt 34 = .ok (.ireturn, 1) := by decide +kernel
set_option maxRecDepth 20000 in
theorem ggX8_sourceOfFelt_X1_findFelt : GoodIn wsX8_sourceOfFelt wsX1_findFelt := goodIn_r _ [6, 7, 8, 9, 10, 5, 11, 25, 26] (by decide +kernel) (by decide +kernel)
set_option maxRecDepth 20000 in
theorem gX8_sourceOfFelt_X1_findFelt : GoodIn wsX8_sourceOfFelt (wsV RX8 105 RX1 yX1_findFelt wsX1_findFelt) := goodIn_app (goodIn_of _ (by decide +kernel)) ggX8_sourceOfFelt_X1_findFelt
set_option maxRecDepth 20000 in
theorem ggX8_sourceOfFelt_X1_sourceOf : GoodIn wsX8_sourceOfFelt wsX1_sourceOf := goodIn_r _ [14] (by decide +kernel) (by decide +kernel)
set_option maxRecDepth 20000 in
theorem gX8_sourceOfFelt_X1_sourceOf : GoodIn wsX8_sourceOfFelt (va_wsS RX8 111 yX1_sourceOf wsX1_sourceOf) := goodIn_app (goodIn_of _ (by decide +kernel)) ggX8_sourceOfFelt_X1_sourceOf
theorem dX8_sourceOfFelt_0 : decode cX8_sourceOfFelt 0 = .ok (.aload_n 0, 1) := by decide +kernel
theorem dX8_sourceOfFelt_1 : decode cX8_sourceOfFelt 1 = .ok (.getfield 15, 3) := by decide +kernel
theorem dX8_sourceOfFelt_4 : decode cX8_sourceOfFelt 4 = .ok (.ifnonnull 7, 3) := by decide +kernel
theorem dX8_sourceOfFelt_7 : decode cX8_sourceOfFelt 7 = .ok (.iconst (-1), 1) := by decide +kernel
theorem dX8_sourceOfFelt_8 : decode cX8_sourceOfFelt 8 = .ok (.goto 12, 3) := by decide +kernel
theorem dX8_sourceOfFelt_11 : decode cX8_sourceOfFelt 11 = .ok (.aload_n 0, 1) := by decide +kernel
theorem dX8_sourceOfFelt_12 : decode cX8_sourceOfFelt 12 = .ok (.getfield 15, 3) := by decide +kernel
theorem dX8_sourceOfFelt_15 : decode cX8_sourceOfFelt 15 = .ok (.iload_n 1, 1) := by decide +kernel
theorem dX8_sourceOfFelt_16 : decode cX8_sourceOfFelt 16 = .ok (.iload_n 2, 1) := by decide +kernel
theorem dX8_sourceOfFelt_17 : decode cX8_sourceOfFelt 17 = .ok (.invokevirtual 105, 3) := by decide +kernel
theorem dX8_sourceOfFelt_20 : decode cX8_sourceOfFelt 20 = .ok (.istore_n 3, 1) := by decide +kernel
theorem dX8_sourceOfFelt_21 : decode cX8_sourceOfFelt 21 = .ok (.iload_n 3, 1) := by decide +kernel
theorem dX8_sourceOfFelt_22 : decode cX8_sourceOfFelt 22 = .ok (.iconst (-1), 1) := by decide +kernel
theorem dX8_sourceOfFelt_23 : decode cX8_sourceOfFelt 23 = .ok (.if_icmp .ne 7, 3) := by decide +kernel
theorem dX8_sourceOfFelt_26 : decode cX8_sourceOfFelt 26 = .ok (.iconst (-1), 1) := by decide +kernel
theorem dX8_sourceOfFelt_27 : decode cX8_sourceOfFelt 27 = .ok (.goto 7, 3) := by decide +kernel
theorem dX8_sourceOfFelt_30 : decode cX8_sourceOfFelt 30 = .ok (.iload_n 3, 1) := by decide +kernel
theorem dX8_sourceOfFelt_31 : decode cX8_sourceOfFelt 31 = .ok (.invokestatic 111, 3) := by decide +kernel
theorem dX8_sourceOfFelt_34 : decode cX8_sourceOfFelt 34 = .ok (.ireturn, 1) := by decide +kernel
set_option maxRecDepth 20000 in
theorem ggX8_feltUpTo_X1_tally : GoodIn wsX8_feltUpTo wsX1_tally := goodIn_r _ [6, 7, 8, 9, 10, 5, 11, 12, 13, 14, 25, 26] (by decide +kernel) (by decide +kernel)
set_option maxRecDepth 20000 in
theorem gX8_feltUpTo_X1_tally : GoodIn wsX8_feltUpTo (wsV RX8 114 RX1 yX1_tally wsX1_tally) := goodIn_app (goodIn_of _ (by decide +kernel)) ggX8_feltUpTo_X1_tally
theorem dX8_feltUpTo_0 : decode cX8_feltUpTo 0 = .ok (.aload_n 0, 1) := by decide +kernel
theorem dX8_feltUpTo_1 : decode cX8_feltUpTo 1 = .ok (.getfield 15, 3) := by decide +kernel
theorem dX8_feltUpTo_4 : decode cX8_feltUpTo 4 = .ok (.ifnonnull 7, 3) := by decide +kernel
theorem dX8_feltUpTo_7 : decode cX8_feltUpTo 7 = .ok (.iconst 0, 1) := by decide +kernel
theorem dX8_feltUpTo_8 : decode cX8_feltUpTo 8 = .ok (.goto 13, 3) := by decide +kernel
theorem dX8_feltUpTo_11 : decode cX8_feltUpTo 11 = .ok (.aload_n 0, 1) := by decide +kernel
theorem dX8_feltUpTo_12 : decode cX8_feltUpTo 12 = .ok (.getfield 15, 3) := by decide +kernel
theorem dX8_feltUpTo_15 : decode cX8_feltUpTo 15 = .ok (.iload_n 1, 1) := by decide +kernel
theorem dX8_feltUpTo_16 : decode cX8_feltUpTo 16 = .ok (.iload_n 2, 1) := by decide +kernel
theorem dX8_feltUpTo_17 : decode cX8_feltUpTo 17 = .ok (.iconst 0, 1) := by decide +kernel
theorem dX8_feltUpTo_18 : decode cX8_feltUpTo 18 = .ok (.invokevirtual 114, 3) := by decide +kernel
theorem dX8_feltUpTo_21 : decode cX8_feltUpTo 21 = .ok (.ireturn, 1) := by decide +kernel
set_option maxRecDepth 20000 in
theorem ggX8_lostUpTo_X1_tally : GoodIn wsX8_lostUpTo wsX1_tally := goodIn_r _ [6, 7, 8, 9, 10, 5, 11, 12, 13, 14, 25, 26] (by decide +kernel) (by decide +kernel)
set_option maxRecDepth 20000 in
theorem gX8_lostUpTo_X1_tally : GoodIn wsX8_lostUpTo (wsV RX8 114 RX1 yX1_tally wsX1_tally) := goodIn_app (goodIn_of _ (by decide +kernel)) ggX8_lostUpTo_X1_tally
theorem dX8_lostUpTo_0 : decode cX8_lostUpTo 0 = .ok (.aload_n 0, 1) := by decide +kernel
theorem dX8_lostUpTo_1 : decode cX8_lostUpTo 1 = .ok (.getfield 15, 3) := by decide +kernel
theorem dX8_lostUpTo_4 : decode cX8_lostUpTo 4 = .ok (.ifnonnull 7, 3) := by decide +kernel
theorem dX8_lostUpTo_7 : decode cX8_lostUpTo 7 = .ok (.iconst 0, 1) := by decide +kernel
theorem dX8_lostUpTo_8 : decode cX8_lostUpTo 8 = .ok (.goto 13, 3) := by decide +kernel
theorem dX8_lostUpTo_11 : decode cX8_lostUpTo 11 = .ok (.aload_n 0, 1) := by decide +kernel
theorem dX8_lostUpTo_12 : decode cX8_lostUpTo 12 = .ok (.getfield 15, 3) := by decide +kernel
theorem dX8_lostUpTo_15 : decode cX8_lostUpTo 15 = .ok (.iload_n 1, 1) := by decide +kernel
theorem dX8_lostUpTo_16 : decode cX8_lostUpTo 16 = .ok (.iload_n 2, 1) := by decide +kernel
theorem dX8_lostUpTo_17 : decode cX8_lostUpTo 17 = .ok (.iconst 1, 1) := by decide +kernel
theorem dX8_lostUpTo_18 : decode cX8_lostUpTo 18 = .ok (.invokevirtual 114, 3) := by decide +kernel
theorem dX8_lostUpTo_21 : decode cX8_lostUpTo 21 = .ok (.ireturn, 1) := by decide +kernel
set_option maxRecDepth 20000 in
theorem ggX8_allFeltUpTo_X1_tallyAllFelt : GoodIn wsX8_allFeltUpTo wsX1_tallyAllFelt := goodIn_r _ [6, 7, 8, 9, 10, 5, 11, 22, 23] (by decide +kernel) (by decide +kernel)
set_option maxRecDepth 20000 in
theorem gX8_allFeltUpTo_X1_tallyAllFelt : GoodIn wsX8_allFeltUpTo (wsV RX8 118 RX1 yX1_tallyAllFelt wsX1_tallyAllFelt) := goodIn_app (goodIn_of _ (by decide +kernel)) ggX8_allFeltUpTo_X1_tallyAllFelt
theorem dX8_allFeltUpTo_0 : decode cX8_allFeltUpTo 0 = .ok (.aload_n 0, 1) := by decide +kernel
theorem dX8_allFeltUpTo_1 : decode cX8_allFeltUpTo 1 = .ok (.getfield 15, 3) := by decide +kernel
theorem dX8_allFeltUpTo_4 : decode cX8_allFeltUpTo 4 = .ok (.ifnonnull 7, 3) := by decide +kernel
theorem dX8_allFeltUpTo_7 : decode cX8_allFeltUpTo 7 = .ok (.iconst 0, 1) := by decide +kernel
theorem dX8_allFeltUpTo_8 : decode cX8_allFeltUpTo 8 = .ok (.goto 11, 3) := by decide +kernel
theorem dX8_allFeltUpTo_11 : decode cX8_allFeltUpTo 11 = .ok (.aload_n 0, 1) := by decide +kernel
theorem dX8_allFeltUpTo_12 : decode cX8_allFeltUpTo 12 = .ok (.getfield 15, 3) := by decide +kernel
theorem dX8_allFeltUpTo_15 : decode cX8_allFeltUpTo 15 = .ok (.iload_n 1, 1) := by decide +kernel
theorem dX8_allFeltUpTo_16 : decode cX8_allFeltUpTo 16 = .ok (.invokevirtual 118, 3) := by decide +kernel
theorem dX8_allFeltUpTo_19 : decode cX8_allFeltUpTo 19 = .ok (.ireturn, 1) := by decide +kernel
set_option maxRecDepth 20000 in
theorem ggX9_init_X5_init : GoodIn wsX9_init wsX5_init := goodIn_r _ [45, 46, 2, 3, 47, 48, 49, 50, 51, 52, 53, 54, 55, 127, 128, 129, 130, 131, 132, 133, 134, 135, 136, 137, 138, 139] (by decide +kernel) (by decide +kernel)
set_option maxRecDepth 20000 in
theorem gX9_init_X5_init : GoodIn wsX9_init (wsX5_init) := ggX9_init_X5_init
set_option maxRecDepth 20000 in
theorem ggX9_init_X1_init : GoodIn wsX9_init wsX1_init := goodIn_r _ [58, 59, 2, 3, 47, 60, 61, 162, 163] (by decide +kernel) (by decide +kernel)
set_option maxRecDepth 20000 in
theorem gX9_init_X1_init : GoodIn wsX9_init (wsX1_init) := ggX9_init_X1_init
set_option maxRecDepth 20000 in
theorem ggX9_init_X8_init : GoodIn wsX9_init wsX8_init := goodIn_r _ [64, 65, 2, 3, 66, 67, 47, 68, 69, 70, 71, 72, 152, 153, 154, 155, 156, 157, 158, 159, 160, 161] (by decide +kernel) (by decide +kernel)
set_option maxRecDepth 20000 in
theorem gX9_init_X8_init : GoodIn wsX9_init (wsX8_init) := ggX9_init_X8_init
set_option maxRecDepth 20000 in
theorem ggX9_init_X0_init : GoodIn wsX9_init wsX0_init := goodIn_r _ [75, 76, 2, 3, 77, 78, 79, 164, 165, 166, 167, 168, 169] (by decide +kernel) (by decide +kernel)
set_option maxRecDepth 20000 in
theorem gX9_init_X0_init : GoodIn wsX9_init (wsX0_init) := ggX9_init_X0_init
set_option maxRecDepth 20000 in
theorem ggX9_init_X7_init : GoodIn wsX9_init wsX7_init := goodIn_r _ [82, 83, 2, 3, 84, 85, 47, 86, 87, 170, 171, 172, 173] (by decide +kernel) (by decide +kernel)
set_option maxRecDepth 20000 in
theorem gX9_init_X7_init : GoodIn wsX9_init (wsX7_init) := ggX9_init_X7_init
set_option maxRecDepth 20000 in
theorem ggX9_init_X3_init : GoodIn wsX9_init wsX3_init := goodIn_r _ [90, 91, 2, 3, 47, 92, 93, 94, 95, 96, 97, 98, 174, 175, 176, 177, 178, 179, 180] (by decide +kernel) (by decide +kernel)
set_option maxRecDepth 20000 in
theorem gX9_init_X3_init : GoodIn wsX9_init (wsX3_init) := ggX9_init_X3_init
set_option maxRecDepth 20000 in
theorem ggX9_init_X2_init : GoodIn wsX9_init wsX2_init := goodIn_r _ [101, 102, 2, 3, 47, 103, 104, 105, 181, 182, 183] (by decide +kernel) (by decide +kernel)
set_option maxRecDepth 20000 in
theorem gX9_init_X2_init : GoodIn wsX9_init (wsX2_init) := ggX9_init_X2_init
set_option maxRecDepth 20000 in
theorem ggX9_init_X4_init : GoodIn wsX9_init wsX4_init := goodIn_r _ [108, 109, 2, 3, 47, 110, 111, 112, 113, 114, 184, 185, 186, 187, 188] (by decide +kernel) (by decide +kernel)
set_option maxRecDepth 20000 in
theorem gX9_init_X4_init : GoodIn wsX9_init (wsX4_init) := ggX9_init_X4_init
set_option maxRecDepth 20000 in
theorem ggX9_init_X6_init : GoodIn wsX9_init wsX6_init := goodIn_r _ [117, 118, 2, 3, 47, 119, 120, 121, 122, 123, 124, 125, 126, 189, 190, 191, 192] (by decide +kernel) (by decide +kernel)
set_option maxRecDepth 20000 in
theorem gX9_init_X6_init : GoodIn wsX9_init (wsX6_init) := ggX9_init_X6_init
theorem dX9_init_0 : decode cX9_init 0 = .ok (.aload_n 0, 1) := by decide +kernel
theorem dX9_init_1 : decode cX9_init 1 = .ok (.invokespecial 1, 3) := by decide +kernel
theorem dX9_init_4 : decode cX9_init 4 = .ok (.aload_n 0, 1) := by decide +kernel
theorem dX9_init_5 : decode cX9_init 5 = .ok (.new 7, 3) := by decide +kernel
theorem dX9_init_8 : decode cX9_init 8 = .ok (.dup, 1) := by decide +kernel
theorem dX9_init_9 : decode cX9_init 9 = .ok (.invokespecial 9, 3) := by decide +kernel
theorem dX9_init_12 : decode cX9_init 12 = .ok (.putfield 10, 3) := by decide +kernel
theorem dX9_init_15 : decode cX9_init 15 = .ok (.aload_n 0, 1) := by decide +kernel
theorem dX9_init_16 : decode cX9_init 16 = .ok (.new 16, 3) := by decide +kernel
theorem dX9_init_19 : decode cX9_init 19 = .ok (.dup, 1) := by decide +kernel
theorem dX9_init_20 : decode cX9_init 20 = .ok (.aload_n 0, 1) := by decide +kernel
theorem dX9_init_21 : decode cX9_init 21 = .ok (.getfield 10, 3) := by decide +kernel
theorem dX9_init_24 : decode cX9_init 24 = .ok (.new 18, 3) := by decide +kernel
theorem dX9_init_27 : decode cX9_init 27 = .ok (.dup, 1) := by decide +kernel
theorem dX9_init_28 : decode cX9_init 28 = .ok (.invokespecial 20, 3) := by decide +kernel
theorem dX9_init_31 : decode cX9_init 31 = .ok (.invokespecial 21, 3) := by decide +kernel
theorem dX9_init_34 : decode cX9_init 34 = .ok (.putfield 24, 3) := by decide +kernel
theorem dX9_init_37 : decode cX9_init 37 = .ok (.new 16, 3) := by decide +kernel
theorem dX9_init_40 : decode cX9_init 40 = .ok (.dup, 1) := by decide +kernel
theorem dX9_init_41 : decode cX9_init 41 = .ok (.aload_n 0, 1) := by decide +kernel
theorem dX9_init_42 : decode cX9_init 42 = .ok (.getfield 10, 3) := by decide +kernel
theorem dX9_init_45 : decode cX9_init 45 = .ok (.aconst_null, 1) := by decide +kernel
theorem dX9_init_46 : decode cX9_init 46 = .ok (.invokespecial 21, 3) := by decide +kernel
theorem dX9_init_49 : decode cX9_init 49 = .ok (.astore_n 1, 1) := by decide +kernel
theorem dX9_init_50 : decode cX9_init 50 = .ok (.aload_n 0, 1) := by decide +kernel
theorem dX9_init_51 : decode cX9_init 51 = .ok (.new 28, 3) := by decide +kernel
theorem dX9_init_54 : decode cX9_init 54 = .ok (.dup, 1) := by decide +kernel
theorem dX9_init_55 : decode cX9_init 55 = .ok (.aload_n 0, 1) := by decide +kernel
theorem dX9_init_56 : decode cX9_init 56 = .ok (.getfield 10, 3) := by decide +kernel
theorem dX9_init_59 : decode cX9_init 59 = .ok (.aload_n 1, 1) := by decide +kernel
theorem dX9_init_60 : decode cX9_init 60 = .ok (.invokespecial 30, 3) := by decide +kernel
theorem dX9_init_63 : decode cX9_init 63 = .ok (.putfield 33, 3) := by decide +kernel
theorem dX9_init_66 : decode cX9_init 66 = .ok (.aload_n 0, 1) := by decide +kernel
theorem dX9_init_67 : decode cX9_init 67 = .ok (.new 37, 3) := by decide +kernel
theorem dX9_init_70 : decode cX9_init 70 = .ok (.dup, 1) := by decide +kernel
theorem dX9_init_71 : decode cX9_init 71 = .ok (.aload_n 0, 1) := by decide +kernel
theorem dX9_init_72 : decode cX9_init 72 = .ok (.getfield 10, 3) := by decide +kernel
theorem dX9_init_75 : decode cX9_init 75 = .ok (.aload_n 1, 1) := by decide +kernel
theorem dX9_init_76 : decode cX9_init 76 = .ok (.invokespecial 39, 3) := by decide +kernel
theorem dX9_init_79 : decode cX9_init 79 = .ok (.putfield 40, 3) := by decide +kernel
theorem dX9_init_82 : decode cX9_init 82 = .ok (.aload_n 0, 1) := by decide +kernel
theorem dX9_init_83 : decode cX9_init 83 = .ok (.new 44, 3) := by decide +kernel
theorem dX9_init_86 : decode cX9_init 86 = .ok (.dup, 1) := by decide +kernel
theorem dX9_init_87 : decode cX9_init 87 = .ok (.invokespecial 46, 3) := by decide +kernel
theorem dX9_init_90 : decode cX9_init 90 = .ok (.putfield 47, 3) := by decide +kernel
theorem dX9_init_93 : decode cX9_init 93 = .ok (.aload_n 0, 1) := by decide +kernel
theorem dX9_init_94 : decode cX9_init 94 = .ok (.new 51, 3) := by decide +kernel
theorem dX9_init_97 : decode cX9_init 97 = .ok (.dup, 1) := by decide +kernel
theorem dX9_init_98 : decode cX9_init 98 = .ok (.invokespecial 53, 3) := by decide +kernel
theorem dX9_init_101 : decode cX9_init 101 = .ok (.putfield 54, 3) := by decide +kernel
theorem dX9_init_104 : decode cX9_init 104 = .ok (.aload_n 0, 1) := by decide +kernel
theorem dX9_init_105 : decode cX9_init 105 = .ok (.new 58, 3) := by decide +kernel
theorem dX9_init_108 : decode cX9_init 108 = .ok (.dup, 1) := by decide +kernel
theorem dX9_init_109 : decode cX9_init 109 = .ok (.invokespecial 60, 3) := by decide +kernel
theorem dX9_init_112 : decode cX9_init 112 = .ok (.putfield 61, 3) := by decide +kernel
theorem dX9_init_115 : decode cX9_init 115 = .ok (.aload_n 0, 1) := by decide +kernel
theorem dX9_init_116 : decode cX9_init 116 = .ok (.new 65, 3) := by decide +kernel
theorem dX9_init_119 : decode cX9_init 119 = .ok (.dup, 1) := by decide +kernel
theorem dX9_init_120 : decode cX9_init 120 = .ok (.invokespecial 67, 3) := by decide +kernel
theorem dX9_init_123 : decode cX9_init 123 = .ok (.putfield 68, 3) := by decide +kernel
theorem dX9_init_126 : decode cX9_init 126 = .ok (.aload_n 0, 1) := by decide +kernel
theorem dX9_init_127 : decode cX9_init 127 = .ok (.iconst 0, 1) := by decide +kernel
theorem dX9_init_128 : decode cX9_init 128 = .ok (.putfield 72, 3) := by decide +kernel
theorem dX9_init_131 : decode cX9_init 131 = .ok (.aload_n 0, 1) := by decide +kernel
theorem dX9_init_132 : decode cX9_init 132 = .ok (.iconst (-1), 1) := by decide +kernel
theorem dX9_init_133 : decode cX9_init 133 = .ok (.putfield 76, 3) := by decide +kernel
theorem dX9_init_136 : decode cX9_init 136 = .ok (.aload_n 0, 1) := by decide +kernel
theorem dX9_init_137 : decode cX9_init 137 = .ok (.iconst 0, 1) := by decide +kernel
theorem dX9_init_138 : decode cX9_init 138 = .ok (.putfield 79, 3) := by decide +kernel
theorem dX9_init_141 : decode cX9_init 141 = .ok (.aload_n 0, 1) := by decide +kernel
theorem dX9_init_142 : decode cX9_init 142 = .ok (.iconst 0, 1) := by decide +kernel
theorem dX9_init_143 : decode cX9_init 143 = .ok (.putfield 82, 3) := by decide +kernel
theorem dX9_init_146 : decode cX9_init 146 = .ok (.return_, 1) := by decide +kernel
set_option maxRecDepth 20000 in
theorem ggX9_type_X5_append : GoodIn wsX9_type wsX5_append := goodIn_r _ [7, 8, 9, 10, 11, 12, 6, 13, 14, 15, 16, 17, 18, 19, 20, 21, 22, 23, 24, 25, 26, 27, 28, 29, 30, 31, 32, 33, 34, 35, 36, 37, 38, 39, 40, 41, 42, 43, 44, 45, 46, 47, 48, 49, 50, 51, 52, 53, 54, 55, 56, 57, 58, 59, 60, 61, 62, 63, 90, 91, 92, 93, 94, 95, 96, 97, 98, 99, 100, 101, 102] (by decide +kernel) (by decide +kernel)
set_option maxRecDepth 20000 in
theorem gX9_type_X5_append : GoodIn wsX9_type (wsV RX9 86 RX5 yX5_append wsX5_append) := goodIn_app (goodIn_of _ (by decide +kernel)) ggX9_type_X5_append
set_option maxRecDepth 20000 in
theorem ggX9_type_X9_rowChanged : GoodIn wsX9_type wsX9_rowChanged := goodIn_r _ [68, 69, 70, 71, 72, 73, 67, 74, 75, 76, 77, 78, 79, 80, 81, 82, 83, 84, 85, 86, 87, 88, 89, 103, 104, 105, 106, 107, 108, 109, 110, 111, 112] (by decide +kernel) (by decide +kernel)
set_option maxRecDepth 20000 in
theorem gX9_type_X9_rowChanged : GoodIn wsX9_type (wsV RX9 90 RX9 yX9_rowChanged wsX9_rowChanged) := goodIn_app (goodIn_of _ (by decide +kernel)) ggX9_type_X9_rowChanged
theorem dX9_type_0 : decode cX9_type 0 = .ok (.iload_n 1, 1) := by decide +kernel
theorem dX9_type_1 : decode cX9_type 1 = .ok (.ifCond .lt 10, 3) := by decide +kernel
theorem dX9_type_4 : decode cX9_type 4 = .ok (.iload_n 1, 1) := by decide +kernel
theorem dX9_type_5 : decode cX9_type 5 = .ok (.sipush 255, 3) := by decide +kernel
theorem dX9_type_8 : decode cX9_type 8 = .ok (.if_icmp .le 6, 3) := by decide +kernel
theorem dX9_type_11 : decode cX9_type 11 = .ok (.bipush (-2), 2) := by decide +kernel
theorem dX9_type_13 : decode cX9_type 13 = .ok (.ireturn, 1) := by decide +kernel
theorem dX9_type_14 : decode cX9_type 14 = .ok (.aload_n 0, 1) := by decide +kernel
theorem dX9_type_15 : decode cX9_type 15 = .ok (.getfield 10, 3) := by decide +kernel
theorem dX9_type_18 : decode cX9_type 18 = .ok (.iload_n 1, 1) := by decide +kernel
theorem dX9_type_19 : decode cX9_type 19 = .ok (.invokevirtual 86, 3) := by decide +kernel
theorem dX9_type_22 : decode cX9_type 22 = .ok (.ifCond .ne 6, 3) := by decide +kernel
theorem dX9_type_25 : decode cX9_type 25 = .ok (.bipush (-4), 2) := by decide +kernel
theorem dX9_type_27 : decode cX9_type 27 = .ok (.ireturn, 1) := by decide +kernel
theorem dX9_type_28 : decode cX9_type 28 = .ok (.aload_n 0, 1) := by decide +kernel
theorem dX9_type_29 : decode cX9_type 29 = .ok (.invokevirtual 90, 3) := by decide +kernel
theorem dX9_type_32 : decode cX9_type 32 = .ok (.aload_n 0, 1) := by decide +kernel
theorem dX9_type_33 : decode cX9_type 33 = .ok (.getfield 10, 3) := by decide +kernel
theorem dX9_type_36 : decode cX9_type 36 = .ok (.getfield 93, 3) := by decide +kernel
theorem dX9_type_39 : decode cX9_type 39 = .ok (.ireturn, 1) := by decide +kernel
set_option maxRecDepth 20000 in
theorem ggX9_wipe_X5_empty : GoodIn wsX9_wipe wsX5_empty := goodIn_r _ [7, 8, 9, 10, 11, 6, 12, 13, 14, 15, 16, 17, 18, 19, 20, 21, 22, 23, 24, 25, 26, 27, 28, 29, 30, 31, 32, 33, 34, 35, 36, 37, 38, 39, 40, 41, 42, 43, 44, 45, 46, 47, 48, 49, 50, 51, 52, 53, 54, 55, 56, 57, 58, 59, 60, 61, 62, 63, 90, 91, 92, 93, 94, 95, 96, 97, 98, 99, 100, 101, 102] (by decide +kernel) (by decide +kernel)
set_option maxRecDepth 20000 in
theorem gX9_wipe_X5_empty : GoodIn wsX9_wipe (wsV RX9 96 RX5 yX5_empty wsX5_empty) := goodIn_app (goodIn_of _ (by decide +kernel)) ggX9_wipe_X5_empty
set_option maxRecDepth 20000 in
theorem ggX9_wipe_X9_rowChanged : GoodIn wsX9_wipe wsX9_rowChanged := goodIn_r _ [68, 69, 70, 71, 72, 73, 67, 74, 75, 76, 77, 78, 79, 80, 81, 82, 83, 84, 85, 86, 87, 88, 89, 103, 104, 105, 106, 107, 108, 109, 110, 111, 112] (by decide +kernel) (by decide +kernel)
set_option maxRecDepth 20000 in
theorem gX9_wipe_X9_rowChanged : GoodIn wsX9_wipe (wsV RX9 90 RX9 yX9_rowChanged wsX9_rowChanged) := goodIn_app (goodIn_of _ (by decide +kernel)) ggX9_wipe_X9_rowChanged
theorem dX9_wipe_0 : decode cX9_wipe 0 = .ok (.aload_n 0, 1) := by decide +kernel
theorem dX9_wipe_1 : decode cX9_wipe 1 = .ok (.getfield 10, 3) := by decide +kernel
theorem dX9_wipe_4 : decode cX9_wipe 4 = .ok (.getfield 93, 3) := by decide +kernel
theorem dX9_wipe_7 : decode cX9_wipe 7 = .ok (.istore_n 1, 1) := by decide +kernel
theorem dX9_wipe_8 : decode cX9_wipe 8 = .ok (.aload_n 0, 1) := by decide +kernel
theorem dX9_wipe_9 : decode cX9_wipe 9 = .ok (.getfield 10, 3) := by decide +kernel
theorem dX9_wipe_12 : decode cX9_wipe 12 = .ok (.invokevirtual 96, 3) := by decide +kernel
theorem dX9_wipe_15 : decode cX9_wipe 15 = .ok (.aload_n 0, 1) := by decide +kernel
theorem dX9_wipe_16 : decode cX9_wipe 16 = .ok (.invokevirtual 90, 3) := by decide +kernel
theorem dX9_wipe_19 : decode cX9_wipe 19 = .ok (.iload_n 1, 1) := by decide +kernel
theorem dX9_wipe_20 : decode cX9_wipe 20 = .ok (.ireturn, 1) := by decide +kernel
theorem dX9_fault_0 : decode cX9_fault 0 = .ok (.aload_n 0, 1) := by decide +kernel
theorem dX9_fault_1 : decode cX9_fault 1 = .ok (.getfield 10, 3) := by decide +kernel
theorem dX9_fault_4 : decode cX9_fault 4 = .ok (.getfield 99, 3) := by decide +kernel
theorem dX9_fault_7 : decode cX9_fault 7 = .ok (.ireturn, 1) := by decide +kernel
set_option maxRecDepth 20000 in
theorem ggX9_person_X9_isPerson : GoodIn wsX9_person wsX9_isPerson := goodIn_r _ [11, 1, 12, 13, 14, 15, 16, 17, 18, 19, 20, 21, 22, 23, 24, 25, 26, 27, 28, 29, 30, 31, 32, 33, 34, 35, 36, 37] (by decide +kernel) (by decide +kernel)
set_option maxRecDepth 20000 in
theorem gX9_person_X9_isPerson : GoodIn wsX9_person (wsV RX9 102 RX9 yX9_isPerson wsX9_isPerson) := goodIn_app (goodIn_of _ (by decide +kernel)) ggX9_person_X9_isPerson
theorem dX9_person_0 : decode cX9_person 0 = .ok (.aload_n 0, 1) := by decide +kernel
theorem dX9_person_1 : decode cX9_person 1 = .ok (.iload_n 1, 1) := by decide +kernel
theorem dX9_person_2 : decode cX9_person 2 = .ok (.invokevirtual 102, 3) := by decide +kernel
theorem dX9_person_5 : decode cX9_person 5 = .ok (.ifCond .ne 6, 3) := by decide +kernel
theorem dX9_person_8 : decode cX9_person 8 = .ok (.bipush (-2), 2) := by decide +kernel
theorem dX9_person_10 : decode cX9_person 10 = .ok (.ireturn, 1) := by decide +kernel
theorem dX9_person_11 : decode cX9_person 11 = .ok (.iload_n 2, 1) := by decide +kernel
theorem dX9_person_12 : decode cX9_person 12 = .ok (.tableswitch 90 0 4 #[36, 46, 56, 68, 78], 36) := by decide +kernel
theorem dX9_person_48 : decode cX9_person 48 = .ok (.aload_n 0, 1) := by decide +kernel
theorem dX9_person_49 : decode cX9_person 49 = .ok (.getfield 10, 3) := by decide +kernel
theorem dX9_person_52 : decode cX9_person 52 = .ok (.getfield 105, 3) := by decide +kernel
theorem dX9_person_55 : decode cX9_person 55 = .ok (.iload_n 1, 1) := by decide +kernel
theorem dX9_person_56 : decode cX9_person 56 = .ok (.iaload, 1) := by decide +kernel
theorem dX9_person_57 : decode cX9_person 57 = .ok (.ireturn, 1) := by decide +kernel
theorem dX9_person_58 : decode cX9_person 58 = .ok (.aload_n 0, 1) := by decide +kernel
theorem dX9_person_59 : decode cX9_person 59 = .ok (.getfield 10, 3) := by decide +kernel
theorem dX9_person_62 : decode cX9_person 62 = .ok (.getfield 109, 3) := by decide +kernel
theorem dX9_person_65 : decode cX9_person 65 = .ok (.iload_n 1, 1) := by decide +kernel
theorem dX9_person_66 : decode cX9_person 66 = .ok (.iaload, 1) := by decide +kernel
theorem dX9_person_67 : decode cX9_person 67 = .ok (.ireturn, 1) := by decide +kernel
theorem dX9_person_68 : decode cX9_person 68 = .ok (.aload_n 0, 1) := by decide +kernel
theorem dX9_person_69 : decode cX9_person 69 = .ok (.getfield 10, 3) := by decide +kernel
theorem dX9_person_72 : decode cX9_person 72 = .ok (.getfield 112, 3) := by decide +kernel
theorem dX9_person_75 : decode cX9_person 75 = .ok (.iload_n 1, 1) := by decide +kernel
theorem dX9_person_76 : decode cX9_person 76 = .ok (.ishr, 1) := by decide +kernel
theorem dX9_person_77 : decode cX9_person 77 = .ok (.iconst 1, 1) := by decide +kernel
theorem dX9_person_78 : decode cX9_person 78 = .ok (.iand, 1) := by decide +kernel
theorem dX9_person_79 : decode cX9_person 79 = .ok (.ireturn, 1) := by decide +kernel
theorem dX9_person_80 : decode cX9_person 80 = .ok (.aload_n 0, 1) := by decide +kernel
theorem dX9_person_81 : decode cX9_person 81 = .ok (.getfield 10, 3) := by decide +kernel
theorem dX9_person_84 : decode cX9_person 84 = .ok (.getfield 115, 3) := by decide +kernel
theorem dX9_person_87 : decode cX9_person 87 = .ok (.iload_n 1, 1) := by decide +kernel
theorem dX9_person_88 : decode cX9_person 88 = .ok (.iaload, 1) := by decide +kernel
theorem dX9_person_89 : decode cX9_person 89 = .ok (.ireturn, 1) := by decide +kernel
theorem dX9_person_90 : decode cX9_person 90 = .ok (.aload_n 0, 1) := by decide +kernel
theorem dX9_person_91 : decode cX9_person 91 = .ok (.getfield 10, 3) := by decide +kernel
theorem dX9_person_94 : decode cX9_person 94 = .ok (.getfield 118, 3) := by decide +kernel
theorem dX9_person_97 : decode cX9_person 97 = .ok (.iload_n 1, 1) := by decide +kernel
theorem dX9_person_98 : decode cX9_person 98 = .ok (.ishr, 1) := by decide +kernel
theorem dX9_person_99 : decode cX9_person 99 = .ok (.iconst 1, 1) := by decide +kernel
theorem dX9_person_100 : decode cX9_person 100 = .ok (.iand, 1) := by decide +kernel
theorem dX9_person_101 : decode cX9_person 101 = .ok (.ireturn, 1) := by decide +kernel
theorem dX9_person_102 : decode cX9_person 102 = .ok (.bipush (-2), 2) := by decide +kernel
theorem dX9_person_104 : decode cX9_person 104 = .ok (.ireturn, 1) := by decide +kernel
set_option maxRecDepth 20000 in
theorem ggX9_set_X9_squeezeChanged : GoodIn wsX9_set wsX9_squeezeChanged := goodIn_r _ [8, 9, 10, 11, 12, 13, 14, 15, 16, 17, 18, 19, 20, 21, 22, 23, 24, 25, 26, 27] (by decide +kernel) (by decide +kernel)
set_option maxRecDepth 20000 in
theorem gX9_set_X9_squeezeChanged : GoodIn wsX9_set (wsV RX9 121 RX9 yX9_squeezeChanged wsX9_squeezeChanged) := goodIn_app (goodIn_of _ (by decide +kernel)) ggX9_set_X9_squeezeChanged
theorem dX9_set_0 : decode cX9_set 0 = .ok (.iload_n 1, 1) := by decide +kernel
theorem dX9_set_1 : decode cX9_set 1 = .ok (.ifCond .ne 26, 3) := by decide +kernel
theorem dX9_set_4 : decode cX9_set 4 = .ok (.iload_n 2, 1) := by decide +kernel
theorem dX9_set_5 : decode cX9_set 5 = .ok (.ifCond .lt 22, 3) := by decide +kernel
theorem dX9_set_8 : decode cX9_set 8 = .ok (.iload_n 2, 1) := by decide +kernel
theorem dX9_set_9 : decode cX9_set 9 = .ok (.bipush 20, 2) := by decide +kernel
theorem dX9_set_11 : decode cX9_set 11 = .ok (.if_icmp .ge 16, 3) := by decide +kernel
theorem dX9_set_14 : decode cX9_set 14 = .ok (.aload_n 0, 1) := by decide +kernel
theorem dX9_set_15 : decode cX9_set 15 = .ok (.getfield 72, 3) := by decide +kernel
theorem dX9_set_18 : decode cX9_set 18 = .ok (.istore_n 3, 1) := by decide +kernel
theorem dX9_set_19 : decode cX9_set 19 = .ok (.aload_n 0, 1) := by decide +kernel
theorem dX9_set_20 : decode cX9_set 20 = .ok (.iload_n 2, 1) := by decide +kernel
theorem dX9_set_21 : decode cX9_set 21 = .ok (.putfield 72, 3) := by decide +kernel
theorem dX9_set_24 : decode cX9_set 24 = .ok (.goto 63, 3) := by decide +kernel
theorem dX9_set_27 : decode cX9_set 27 = .ok (.iload_n 1, 1) := by decide +kernel
theorem dX9_set_28 : decode cX9_set 28 = .ok (.iconst 1, 1) := by decide +kernel
theorem dX9_set_29 : decode cX9_set 29 = .ok (.if_icmp .ne 27, 3) := by decide +kernel
theorem dX9_set_32 : decode cX9_set 32 = .ok (.iload_n 2, 1) := by decide +kernel
theorem dX9_set_33 : decode cX9_set 33 = .ok (.iconst (-1), 1) := by decide +kernel
theorem dX9_set_34 : decode cX9_set 34 = .ok (.if_icmp .lt 22, 3) := by decide +kernel
theorem dX9_set_37 : decode cX9_set 37 = .ok (.iload_n 2, 1) := by decide +kernel
theorem dX9_set_38 : decode cX9_set 38 = .ok (.bipush 20, 2) := by decide +kernel
theorem dX9_set_40 : decode cX9_set 40 = .ok (.if_icmp .ge 16, 3) := by decide +kernel
theorem dX9_set_43 : decode cX9_set 43 = .ok (.aload_n 0, 1) := by decide +kernel
theorem dX9_set_44 : decode cX9_set 44 = .ok (.getfield 76, 3) := by decide +kernel
theorem dX9_set_47 : decode cX9_set 47 = .ok (.istore_n 3, 1) := by decide +kernel
theorem dX9_set_48 : decode cX9_set 48 = .ok (.aload_n 0, 1) := by decide +kernel
theorem dX9_set_49 : decode cX9_set 49 = .ok (.iload_n 2, 1) := by decide +kernel
theorem dX9_set_50 : decode cX9_set 50 = .ok (.putfield 76, 3) := by decide +kernel
theorem dX9_set_53 : decode cX9_set 53 = .ok (.goto 34, 3) := by decide +kernel
theorem dX9_set_56 : decode cX9_set 56 = .ok (.iload_n 1, 1) := by decide +kernel
theorem dX9_set_57 : decode cX9_set 57 = .ok (.iconst 2, 1) := by decide +kernel
theorem dX9_set_58 : decode cX9_set 58 = .ok (.if_icmp .ne 26, 3) := by decide +kernel
theorem dX9_set_61 : decode cX9_set 61 = .ok (.iload_n 2, 1) := by decide +kernel
theorem dX9_set_62 : decode cX9_set 62 = .ok (.ifCond .lt 22, 3) := by decide +kernel
theorem dX9_set_65 : decode cX9_set 65 = .ok (.iload_n 2, 1) := by decide +kernel
theorem dX9_set_66 : decode cX9_set 66 = .ok (.bipush 99, 2) := by decide +kernel
theorem dX9_set_68 : decode cX9_set 68 = .ok (.if_icmp .gt 16, 3) := by decide +kernel
theorem dX9_set_71 : decode cX9_set 71 = .ok (.aload_n 0, 1) := by decide +kernel
theorem dX9_set_72 : decode cX9_set 72 = .ok (.getfield 79, 3) := by decide +kernel
theorem dX9_set_75 : decode cX9_set 75 = .ok (.istore_n 3, 1) := by decide +kernel
theorem dX9_set_76 : decode cX9_set 76 = .ok (.aload_n 0, 1) := by decide +kernel
theorem dX9_set_77 : decode cX9_set 77 = .ok (.iload_n 2, 1) := by decide +kernel
theorem dX9_set_78 : decode cX9_set 78 = .ok (.putfield 79, 3) := by decide +kernel
theorem dX9_set_81 : decode cX9_set 81 = .ok (.goto 6, 3) := by decide +kernel
theorem dX9_set_84 : decode cX9_set 84 = .ok (.bipush (-5), 2) := by decide +kernel
theorem dX9_set_86 : decode cX9_set 86 = .ok (.ireturn, 1) := by decide +kernel
theorem dX9_set_87 : decode cX9_set 87 = .ok (.aload_n 0, 1) := by decide +kernel
theorem dX9_set_88 : decode cX9_set 88 = .ok (.invokevirtual 121, 3) := by decide +kernel
theorem dX9_set_91 : decode cX9_set 91 = .ok (.iload_n 3, 1) := by decide +kernel
theorem dX9_set_92 : decode cX9_set 92 = .ok (.ireturn, 1) := by decide +kernel
set_option maxRecDepth 20000 in
theorem ggX9_felt_X9_isPerson : GoodIn wsX9_felt wsX9_isPerson := goodIn_r _ [5, 6, 7, 106, 107, 108, 109, 110, 111, 112, 113, 114, 115, 116, 117, 118, 119, 120, 121, 122, 123, 124, 125, 126, 127, 128, 129, 130] (by decide +kernel) (by decide +kernel)
set_option maxRecDepth 20000 in
theorem gX9_felt_X9_isPerson : GoodIn wsX9_felt (wsV RX9 102 RX9 yX9_isPerson wsX9_isPerson) := goodIn_app (goodIn_of _ (by decide +kernel)) ggX9_felt_X9_isPerson
set_option maxRecDepth 20000 in
theorem ggX9_felt_X9_asTold : GoodIn wsX9_felt wsX9_asTold := goodIn_r _ [11, 12, 13, 14, 15, 16, 17, 18, 19, 20, 21, 22, 23, 24, 25, 26, 27, 28, 29, 30, 31, 32, 33, 34, 35, 36, 37, 38, 39, 40, 41, 42, 43, 44, 45, 46, 47, 48, 49, 50, 51, 52, 53, 54, 55, 56, 57, 58, 59, 60, 61, 62, 63, 64, 65, 66, 67, 68, 69, 70, 71, 72, 73, 74, 75, 76, 77, 78, 79, 80, 81, 82, 83, 84, 85, 86, 87, 88, 89, 90, 91, 106, 107, 108, 109, 110, 111, 112, 113, 114, 115, 116, 117, 131, 132, 133, 134, 135, 136, 137, 138, 139, 140, 118, 119, 120, 121, 122, 123, 124, 125, 126, 127, 128, 129, 130, 141, 142] (by decide +kernel) (by decide +kernel)
set_option maxRecDepth 20000 in
theorem gX9_felt_X9_asTold : GoodIn wsX9_felt (wsV RX9 124 RX9 yX9_asTold wsX9_asTold) := goodIn_app (goodIn_of _ (by decide +kernel)) ggX9_felt_X9_asTold
set_option maxRecDepth 20000 in
theorem ggX9_felt_X8_timeOfFelt : GoodIn wsX9_felt wsX8_timeOfFelt := goodIn_r _ [95, 27, 96, 97, 98, 45, 99, 47, 53, 100, 101, 102, 103, 104, 105, 131, 132, 133, 134, 135, 136, 137, 138, 139, 140, 141, 142] (by decide +kernel) (by decide +kernel)
set_option maxRecDepth 20000 in
theorem gX9_felt_X8_timeOfFelt : GoodIn wsX9_felt (wsV RX9 128 RX8 yX8_timeOfFelt wsX8_timeOfFelt) := goodIn_app (goodIn_of _ (by decide +kernel)) ggX9_felt_X8_timeOfFelt
theorem dX9_felt_0 : decode cX9_felt 0 = .ok (.aload_n 0, 1) := by decide +kernel
theorem dX9_felt_1 : decode cX9_felt 1 = .ok (.iload_n 1, 1) := by decide +kernel
theorem dX9_felt_2 : decode cX9_felt 2 = .ok (.invokevirtual 102, 3) := by decide +kernel
theorem dX9_felt_5 : decode cX9_felt 5 = .ok (.ifCond .eq 7, 3) := by decide +kernel
theorem dX9_felt_8 : decode cX9_felt 8 = .ok (.iload_n 2, 1) := by decide +kernel
theorem dX9_felt_9 : decode cX9_felt 9 = .ok (.ifCond .ge 6, 3) := by decide +kernel
theorem dX9_felt_12 : decode cX9_felt 12 = .ok (.bipush (-2), 2) := by decide +kernel
theorem dX9_felt_14 : decode cX9_felt 14 = .ok (.ireturn, 1) := by decide +kernel
theorem dX9_felt_15 : decode cX9_felt 15 = .ok (.aload_n 0, 1) := by decide +kernel
theorem dX9_felt_16 : decode cX9_felt 16 = .ok (.invokevirtual 124, 3) := by decide +kernel
theorem dX9_felt_19 : decode cX9_felt 19 = .ok (.iload_n 1, 1) := by decide +kernel
theorem dX9_felt_20 : decode cX9_felt 20 = .ok (.iload_n 2, 1) := by decide +kernel
theorem dX9_felt_21 : decode cX9_felt 21 = .ok (.invokevirtual 128, 3) := by decide +kernel
theorem dX9_felt_24 : decode cX9_felt 24 = .ok (.ireturn, 1) := by decide +kernel
set_option maxRecDepth 20000 in
theorem ggX9_many_X9_isPerson : GoodIn wsX9_many wsX9_isPerson := goodIn_r _ [5, 6, 7, 109, 110, 111, 112, 113, 114, 115, 116, 117, 118, 119, 120, 121, 122, 123, 124, 125, 126, 127, 128, 129, 130, 131, 132, 133] (by decide +kernel) (by decide +kernel)
set_option maxRecDepth 20000 in
theorem gX9_many_X9_isPerson : GoodIn wsX9_many (wsV RX9 102 RX9 yX9_isPerson wsX9_isPerson) := goodIn_app (goodIn_of _ (by decide +kernel)) ggX9_many_X9_isPerson
set_option maxRecDepth 20000 in
theorem ggX9_many_X9_isTime : GoodIn wsX9_many wsX9_isTime := goodIn_r _ [10] (by decide +kernel) (by decide +kernel)
set_option maxRecDepth 20000 in
theorem gX9_many_X9_isTime : GoodIn wsX9_many (va_wsS RX9 132 yX9_isTime wsX9_isTime) := goodIn_app (goodIn_of _ (by decide +kernel)) ggX9_many_X9_isTime
set_option maxRecDepth 20000 in
theorem ggX9_many_X9_asTold : GoodIn wsX9_many wsX9_asTold := goodIn_r _ [14, 15, 16, 17, 18, 19, 20, 21, 22, 23, 24, 25, 26, 27, 28, 29, 30, 31, 32, 33, 34, 35, 36, 37, 38, 39, 40, 41, 42, 43, 44, 45, 46, 47, 48, 49, 50, 51, 52, 53, 54, 55, 56, 57, 58, 59, 60, 61, 62, 63, 64, 65, 66, 67, 68, 69, 70, 71, 72, 73, 74, 75, 76, 77, 78, 79, 80, 81, 82, 83, 84, 85, 86, 87, 88, 89, 90, 91, 92, 93, 94, 109, 110, 111, 112, 113, 114, 115, 116, 117, 118, 119, 120, 134, 135, 136, 137, 138, 139, 140, 141, 142, 143, 121, 122, 123, 124, 125, 126, 127, 128, 129, 130, 131, 132, 133, 144, 145] (by decide +kernel) (by decide +kernel)
set_option maxRecDepth 20000 in
theorem gX9_many_X9_asTold : GoodIn wsX9_many (wsV RX9 124 RX9 yX9_asTold wsX9_asTold) := goodIn_app (goodIn_of _ (by decide +kernel)) ggX9_many_X9_asTold
set_option maxRecDepth 20000 in
theorem ggX9_many_X8_feltUpTo : GoodIn wsX9_many wsX8_feltUpTo := goodIn_r _ [98, 30, 99, 100, 101, 48, 102, 50, 56, 103, 104, 105, 106, 107, 108, 134, 135, 136, 137, 138, 139, 140, 141, 142, 143, 144, 145] (by decide +kernel) (by decide +kernel)
set_option maxRecDepth 20000 in
theorem gX9_many_X8_feltUpTo : GoodIn wsX9_many (wsV RX9 135 RX8 yX8_feltUpTo wsX8_feltUpTo) := goodIn_app (goodIn_of _ (by decide +kernel)) ggX9_many_X8_feltUpTo
theorem dX9_many_0 : decode cX9_many 0 = .ok (.aload_n 0, 1) := by decide +kernel
theorem dX9_many_1 : decode cX9_many 1 = .ok (.iload_n 1, 1) := by decide +kernel
theorem dX9_many_2 : decode cX9_many 2 = .ok (.invokevirtual 102, 3) := by decide +kernel
theorem dX9_many_5 : decode cX9_many 5 = .ok (.ifCond .eq 10, 3) := by decide +kernel
theorem dX9_many_8 : decode cX9_many 8 = .ok (.iload_n 2, 1) := by decide +kernel
theorem dX9_many_9 : decode cX9_many 9 = .ok (.invokestatic 132, 3) := by decide +kernel
theorem dX9_many_12 : decode cX9_many 12 = .ok (.ifCond .ne 6, 3) := by decide +kernel
theorem dX9_many_15 : decode cX9_many 15 = .ok (.bipush (-2), 2) := by decide +kernel
theorem dX9_many_17 : decode cX9_many 17 = .ok (.ireturn, 1) := by decide +kernel
theorem dX9_many_18 : decode cX9_many 18 = .ok (.aload_n 0, 1) := by decide +kernel
theorem dX9_many_19 : decode cX9_many 19 = .ok (.invokevirtual 124, 3) := by decide +kernel
theorem dX9_many_22 : decode cX9_many 22 = .ok (.iload_n 1, 1) := by decide +kernel
theorem dX9_many_23 : decode cX9_many 23 = .ok (.iload_n 2, 1) := by decide +kernel
theorem dX9_many_24 : decode cX9_many 24 = .ok (.invokevirtual 135, 3) := by decide +kernel
theorem dX9_many_27 : decode cX9_many 27 = .ok (.ireturn, 1) := by decide +kernel
set_option maxRecDepth 20000 in
theorem ggX9_lost_X9_isPerson : GoodIn wsX9_lost wsX9_isPerson := goodIn_r _ [5, 6, 7, 109, 110, 111, 112, 113, 114, 115, 116, 117, 118, 119, 120, 121, 122, 123, 124, 125, 126, 127, 128, 129, 130, 131, 132, 133] (by decide +kernel) (by decide +kernel)
set_option maxRecDepth 20000 in
theorem gX9_lost_X9_isPerson : GoodIn wsX9_lost (wsV RX9 102 RX9 yX9_isPerson wsX9_isPerson) := goodIn_app (goodIn_of _ (by decide +kernel)) ggX9_lost_X9_isPerson
set_option maxRecDepth 20000 in
theorem ggX9_lost_X9_isTime : GoodIn wsX9_lost wsX9_isTime := goodIn_r _ [10] (by decide +kernel) (by decide +kernel)
set_option maxRecDepth 20000 in
theorem gX9_lost_X9_isTime : GoodIn wsX9_lost (va_wsS RX9 132 yX9_isTime wsX9_isTime) := goodIn_app (goodIn_of _ (by decide +kernel)) ggX9_lost_X9_isTime
set_option maxRecDepth 20000 in
theorem ggX9_lost_X9_asTold : GoodIn wsX9_lost wsX9_asTold := goodIn_r _ [14, 15, 16, 17, 18, 19, 20, 21, 22, 23, 24, 25, 26, 27, 28, 29, 30, 31, 32, 33, 34, 35, 36, 37, 38, 39, 40, 41, 42, 43, 44, 45, 46, 47, 48, 49, 50, 51, 52, 53, 54, 55, 56, 57, 58, 59, 60, 61, 62, 63, 64, 65, 66, 67, 68, 69, 70, 71, 72, 73, 74, 75, 76, 77, 78, 79, 80, 81, 82, 83, 84, 85, 86, 87, 88, 89, 90, 91, 92, 93, 94, 109, 110, 111, 112, 113, 114, 115, 116, 117, 118, 119, 120, 134, 135, 136, 137, 138, 139, 140, 141, 142, 143, 121, 122, 123, 124, 125, 126, 127, 128, 129, 130, 131, 132, 133, 144, 145] (by decide +kernel) (by decide +kernel)
set_option maxRecDepth 20000 in
theorem gX9_lost_X9_asTold : GoodIn wsX9_lost (wsV RX9 124 RX9 yX9_asTold wsX9_asTold) := goodIn_app (goodIn_of _ (by decide +kernel)) ggX9_lost_X9_asTold
set_option maxRecDepth 20000 in
theorem ggX9_lost_X8_lostUpTo : GoodIn wsX9_lost wsX8_lostUpTo := goodIn_r _ [98, 30, 99, 100, 101, 48, 102, 50, 56, 103, 104, 105, 106, 107, 108, 134, 135, 136, 137, 138, 139, 140, 141, 142, 143, 144, 145] (by decide +kernel) (by decide +kernel)
set_option maxRecDepth 20000 in
theorem gX9_lost_X8_lostUpTo : GoodIn wsX9_lost (wsV RX9 138 RX8 yX8_lostUpTo wsX8_lostUpTo) := goodIn_app (goodIn_of _ (by decide +kernel)) ggX9_lost_X8_lostUpTo
theorem dX9_lost_0 : decode cX9_lost 0 = .ok (.aload_n 0, 1) := by decide +kernel
theorem dX9_lost_1 : decode cX9_lost 1 = .ok (.iload_n 1, 1) := by decide +kernel
theorem dX9_lost_2 : decode cX9_lost 2 = .ok (.invokevirtual 102, 3) := by decide +kernel
theorem dX9_lost_5 : decode cX9_lost 5 = .ok (.ifCond .eq 10, 3) := by decide +kernel
theorem dX9_lost_8 : decode cX9_lost 8 = .ok (.iload_n 2, 1) := by decide +kernel
theorem dX9_lost_9 : decode cX9_lost 9 = .ok (.invokestatic 132, 3) := by decide +kernel
theorem dX9_lost_12 : decode cX9_lost 12 = .ok (.ifCond .ne 6, 3) := by decide +kernel
theorem dX9_lost_15 : decode cX9_lost 15 = .ok (.bipush (-2), 2) := by decide +kernel
theorem dX9_lost_17 : decode cX9_lost 17 = .ok (.ireturn, 1) := by decide +kernel
theorem dX9_lost_18 : decode cX9_lost 18 = .ok (.aload_n 0, 1) := by decide +kernel
theorem dX9_lost_19 : decode cX9_lost 19 = .ok (.invokevirtual 124, 3) := by decide +kernel
theorem dX9_lost_22 : decode cX9_lost 22 = .ok (.iload_n 1, 1) := by decide +kernel
theorem dX9_lost_23 : decode cX9_lost 23 = .ok (.iload_n 2, 1) := by decide +kernel
theorem dX9_lost_24 : decode cX9_lost 24 = .ok (.invokevirtual 138, 3) := by decide +kernel
theorem dX9_lost_27 : decode cX9_lost 27 = .ok (.ireturn, 1) := by decide +kernel
set_option maxRecDepth 20000 in
theorem ggX9_from_X9_isPerson : GoodIn wsX9_from wsX9_isPerson := goodIn_r _ [5, 6, 7, 106, 107, 108, 109, 110, 111, 112, 113, 114, 115, 116, 117, 118, 119, 120, 121, 122, 123, 124, 125, 126, 127, 128, 129, 130] (by decide +kernel) (by decide +kernel)
set_option maxRecDepth 20000 in
theorem gX9_from_X9_isPerson : GoodIn wsX9_from (wsV RX9 102 RX9 yX9_isPerson wsX9_isPerson) := goodIn_app (goodIn_of _ (by decide +kernel)) ggX9_from_X9_isPerson
set_option maxRecDepth 20000 in
theorem ggX9_from_X9_asTold : GoodIn wsX9_from wsX9_asTold := goodIn_r _ [11, 12, 13, 14, 15, 16, 17, 18, 19, 20, 21, 22, 23, 24, 25, 26, 27, 28, 29, 30, 31, 32, 33, 34, 35, 36, 37, 38, 39, 40, 41, 42, 43, 44, 45, 46, 47, 48, 49, 50, 51, 52, 53, 54, 55, 56, 57, 58, 59, 60, 61, 62, 63, 64, 65, 66, 67, 68, 69, 70, 71, 72, 73, 74, 75, 76, 77, 78, 79, 80, 81, 82, 83, 84, 85, 86, 87, 88, 89, 90, 91, 106, 107, 108, 109, 110, 111, 112, 113, 114, 115, 116, 117, 131, 132, 133, 134, 135, 136, 137, 138, 139, 140, 118, 119, 120, 121, 122, 123, 124, 125, 126, 127, 128, 129, 130, 141, 142] (by decide +kernel) (by decide +kernel)
set_option maxRecDepth 20000 in
theorem gX9_from_X9_asTold : GoodIn wsX9_from (wsV RX9 124 RX9 yX9_asTold wsX9_asTold) := goodIn_app (goodIn_of _ (by decide +kernel)) ggX9_from_X9_asTold
set_option maxRecDepth 20000 in
theorem ggX9_from_X8_sourceOfFelt : GoodIn wsX9_from wsX8_sourceOfFelt := goodIn_r _ [95, 27, 96, 97, 98, 45, 99, 47, 53, 100, 101, 102, 103, 104, 105, 131, 132, 133, 134, 135, 136, 137, 138, 139, 140, 141, 142] (by decide +kernel) (by decide +kernel)
set_option maxRecDepth 20000 in
theorem gX9_from_X8_sourceOfFelt : GoodIn wsX9_from (wsV RX9 141 RX8 yX8_sourceOfFelt wsX8_sourceOfFelt) := goodIn_app (goodIn_of _ (by decide +kernel)) ggX9_from_X8_sourceOfFelt
theorem dX9_from_0 : decode cX9_from 0 = .ok (.aload_n 0, 1) := by decide +kernel
theorem dX9_from_1 : decode cX9_from 1 = .ok (.iload_n 1, 1) := by decide +kernel
theorem dX9_from_2 : decode cX9_from 2 = .ok (.invokevirtual 102, 3) := by decide +kernel
theorem dX9_from_5 : decode cX9_from 5 = .ok (.ifCond .eq 7, 3) := by decide +kernel
theorem dX9_from_8 : decode cX9_from 8 = .ok (.iload_n 2, 1) := by decide +kernel
theorem dX9_from_9 : decode cX9_from 9 = .ok (.ifCond .ge 6, 3) := by decide +kernel
theorem dX9_from_12 : decode cX9_from 12 = .ok (.bipush (-2), 2) := by decide +kernel
theorem dX9_from_14 : decode cX9_from 14 = .ok (.ireturn, 1) := by decide +kernel
theorem dX9_from_15 : decode cX9_from 15 = .ok (.aload_n 0, 1) := by decide +kernel
theorem dX9_from_16 : decode cX9_from 16 = .ok (.invokevirtual 124, 3) := by decide +kernel
theorem dX9_from_19 : decode cX9_from 19 = .ok (.iload_n 1, 1) := by decide +kernel
theorem dX9_from_20 : decode cX9_from 20 = .ok (.iload_n 2, 1) := by decide +kernel
theorem dX9_from_21 : decode cX9_from 21 = .ok (.invokevirtual 141, 3) := by decide +kernel
theorem dX9_from_24 : decode cX9_from 24 = .ok (.ireturn, 1) := by decide +kernel
set_option maxRecDepth 20000 in
theorem ggX9_reached_X9_asTold : GoodIn wsX9_reached wsX9_asTold := goodIn_r _ [5, 6, 7, 8, 9, 10, 11, 12, 13, 14, 15, 16, 17, 18, 19, 20, 21, 22, 23, 24, 25, 26, 27, 28, 29, 30, 31, 32, 33, 34, 35, 36, 37, 38, 39, 40, 41, 42, 43, 44, 45, 46, 47, 48, 49, 50, 51, 52, 53, 54, 55, 56, 57, 58, 59, 60, 61, 62, 63, 64, 65, 66, 67, 68, 69, 70, 71, 72, 73, 74, 75, 76, 77, 78, 79, 80, 81, 82, 83, 84, 85, 94, 95, 96, 97, 98, 99, 100, 101, 102, 103, 104, 105, 106, 107, 108, 109, 110, 111, 112, 113, 114, 115, 116, 117, 118, 119, 120, 121, 122, 123, 124, 125, 126, 127, 128, 129, 130] (by decide +kernel) (by decide +kernel)
set_option maxRecDepth 20000 in
theorem gX9_reached_X9_asTold : GoodIn wsX9_reached (wsV RX9 124 RX9 yX9_asTold wsX9_asTold) := goodIn_app (goodIn_of _ (by decide +kernel)) ggX9_reached_X9_asTold
set_option maxRecDepth 20000 in
theorem ggX9_reached_X8_reachedBits : GoodIn wsX9_reached wsX8_reachedBits := goodIn_r _ [89, 90, 91, 92, 14, 93, 17, 18, 28, 106, 107, 108, 109, 110, 111, 112, 113, 114, 115, 116, 117, 118, 119, 120, 121, 122, 123, 124, 125, 126, 127, 128] (by decide +kernel) (by decide +kernel)
set_option maxRecDepth 20000 in
theorem gX9_reached_X8_reachedBits : GoodIn wsX9_reached (wsV RX9 144 RX8 yX8_reachedBits wsX8_reachedBits) := goodIn_app (goodIn_of _ (by decide +kernel)) ggX9_reached_X8_reachedBits
theorem dX9_reached_0 : decode cX9_reached 0 = .ok (.aload_n 0, 1) := by decide +kernel
theorem dX9_reached_1 : decode cX9_reached 1 = .ok (.invokevirtual 124, 3) := by decide +kernel
theorem dX9_reached_4 : decode cX9_reached 4 = .ok (.invokevirtual 144, 3) := by decide +kernel
theorem dX9_reached_7 : decode cX9_reached 7 = .ok (.ireturn, 1) := by decide +kernel
set_option maxRecDepth 20000 in
theorem ggX9_last_X9_asTold : GoodIn wsX9_last wsX9_asTold := goodIn_r _ [5, 6, 7, 8, 9, 10, 11, 12, 13, 14, 15, 16, 17, 18, 19, 20, 21, 22, 23, 24, 25, 26, 27, 28, 29, 30, 31, 32, 33, 34, 35, 36, 37, 38, 39, 40, 41, 42, 43, 44, 45, 46, 47, 48, 49, 50, 51, 52, 53, 54, 55, 56, 57, 58, 59, 60, 61, 62, 63, 64, 65, 66, 67, 68, 69, 70, 71, 72, 73, 74, 75, 76, 77, 78, 79, 80, 81, 82, 83, 84, 85, 91, 92, 93, 94, 95, 96, 97, 98, 99, 100, 101, 102, 103, 104, 105, 106, 107, 108, 109, 110, 111, 112, 113, 114, 115, 116, 117, 118, 119, 120, 121, 122, 123, 124, 125, 126, 127] (by decide +kernel) (by decide +kernel)
set_option maxRecDepth 20000 in
theorem gX9_last_X9_asTold : GoodIn wsX9_last (wsV RX9 124 RX9 yX9_asTold wsX9_asTold) := goodIn_app (goodIn_of _ (by decide +kernel)) ggX9_last_X9_asTold
set_option maxRecDepth 20000 in
theorem ggX9_last_X8_lastTime : GoodIn wsX9_last wsX8_lastTime := goodIn_r _ [89, 17, 18, 30, 90, 49, 45, 50, 103, 104, 105, 106, 107, 108, 109, 110, 111, 112, 113, 114, 115, 116, 117, 118, 119, 120, 121, 122, 123, 124, 125] (by decide +kernel) (by decide +kernel)
set_option maxRecDepth 20000 in
theorem gX9_last_X8_lastTime : GoodIn wsX9_last (wsV RX9 148 RX8 yX8_lastTime wsX8_lastTime) := goodIn_app (goodIn_of _ (by decide +kernel)) ggX9_last_X8_lastTime
theorem dX9_last_0 : decode cX9_last 0 = .ok (.aload_n 0, 1) := by decide +kernel
theorem dX9_last_1 : decode cX9_last 1 = .ok (.invokevirtual 124, 3) := by decide +kernel
theorem dX9_last_4 : decode cX9_last 4 = .ok (.invokevirtual 148, 3) := by decide +kernel
theorem dX9_last_7 : decode cX9_last 7 = .ok (.ireturn, 1) := by decide +kernel
set_option maxRecDepth 20000 in
theorem ggX9_twice_X9_asTold : GoodIn wsX9_twice wsX9_asTold := goodIn_r _ [5, 6, 7, 8, 9, 10, 11, 12, 13, 14, 15, 16, 17, 18, 19, 20, 21, 22, 23, 24, 25, 26, 27, 28, 29, 30, 31, 32, 33, 34, 35, 36, 37, 38, 39, 40, 41, 42, 43, 44, 45, 46, 47, 48, 49, 50, 51, 52, 53, 54, 55, 56, 57, 58, 59, 60, 61, 62, 63, 64, 65, 66, 67, 68, 69, 70, 71, 72, 73, 74, 75, 76, 77, 78, 79, 80, 81, 82, 83, 84, 85, 94, 95, 96, 97, 98, 99, 100, 101, 102, 103, 104, 105, 106, 107, 108, 109, 110, 111, 112, 113, 114, 115, 116, 117, 118, 119, 120, 121, 122, 123, 124, 125, 126, 127, 128, 129, 130] (by decide +kernel) (by decide +kernel)
set_option maxRecDepth 20000 in
theorem gX9_twice_X9_asTold : GoodIn wsX9_twice (wsV RX9 124 RX9 yX9_asTold wsX9_asTold) := goodIn_app (goodIn_of _ (by decide +kernel)) ggX9_twice_X9_asTold
set_option maxRecDepth 20000 in
theorem ggX9_twice_X8_twiceBits : GoodIn wsX9_twice wsX8_twiceBits := goodIn_r _ [89, 90, 91, 92, 14, 93, 17, 18, 28, 106, 107, 108, 109, 110, 111, 112, 113, 114, 115, 116, 117, 118, 119, 120, 121, 122, 123, 124, 125, 126, 127, 128] (by decide +kernel) (by decide +kernel)
set_option maxRecDepth 20000 in
theorem gX9_twice_X8_twiceBits : GoodIn wsX9_twice (wsV RX9 151 RX8 yX8_twiceBits wsX8_twiceBits) := goodIn_app (goodIn_of _ (by decide +kernel)) ggX9_twice_X8_twiceBits
theorem dX9_twice_0 : decode cX9_twice 0 = .ok (.aload_n 0, 1) := by decide +kernel
theorem dX9_twice_1 : decode cX9_twice 1 = .ok (.invokevirtual 124, 3) := by decide +kernel
theorem dX9_twice_4 : decode cX9_twice 4 = .ok (.invokevirtual 151, 3) := by decide +kernel
theorem dX9_twice_7 : decode cX9_twice 7 = .ok (.ireturn, 1) := by decide +kernel
set_option maxRecDepth 20000 in
theorem ggX9_round_X9_isPerson : GoodIn wsX9_round wsX9_isPerson := goodIn_r _ [7, 8, 9, 107, 108, 109, 110, 111, 112, 113, 114, 115, 116, 117, 118, 129, 130, 131, 132, 133, 134, 135, 136, 137, 138, 139, 140, 141] (by decide +kernel) (by decide +kernel)
set_option maxRecDepth 20000 in
theorem gX9_round_X9_isPerson : GoodIn wsX9_round (wsV RX9 102 RX9 yX9_isPerson wsX9_isPerson) := goodIn_app (goodIn_of _ (by decide +kernel)) ggX9_round_X9_isPerson
set_option maxRecDepth 20000 in
theorem ggX9_round_X9_asTold : GoodIn wsX9_round wsX9_asTold := goodIn_r _ [13, 14, 1, 15, 16, 17, 18, 19, 20, 21, 22, 23, 24, 25, 26, 27, 28, 29, 30, 31, 32, 33, 34, 35, 36, 37, 38, 39, 40, 41, 42, 43, 44, 45, 46, 47, 48, 49, 50, 51, 52, 53, 54, 55, 56, 57, 58, 59, 60, 61, 62, 63, 64, 65, 66, 67, 68, 69, 70, 71, 72, 73, 74, 75, 76, 77, 78, 79, 80, 81, 82, 83, 84, 85, 86, 87, 88, 89, 90, 91, 92, 107, 108, 109, 110, 111, 112, 113, 114, 115, 116, 117, 118, 119, 120, 121, 122, 123, 124, 125, 126, 127, 128, 129, 130, 131, 132, 133, 134, 135, 136, 137, 138, 139, 140, 141, 142, 143] (by decide +kernel) (by decide +kernel)
set_option maxRecDepth 20000 in
theorem gX9_round_X9_asTold : GoodIn wsX9_round (wsV RX9 124 RX9 yX9_asTold wsX9_asTold) := goodIn_app (goodIn_of _ (by decide +kernel)) ggX9_round_X9_asTold
set_option maxRecDepth 20000 in
theorem ggX9_round_X8_timeOfFelt : GoodIn wsX9_round wsX8_timeOfFelt := goodIn_r _ [96, 28, 97, 98, 99, 46, 100, 48, 54, 101, 102, 103, 104, 105, 106, 119, 120, 121, 122, 123, 124, 125, 126, 127, 128, 142, 143] (by decide +kernel) (by decide +kernel)
set_option maxRecDepth 20000 in
theorem gX9_round_X8_timeOfFelt : GoodIn wsX9_round (wsV RX9 128 RX8 yX8_timeOfFelt wsX8_timeOfFelt) := goodIn_app (goodIn_of _ (by decide +kernel)) ggX9_round_X8_timeOfFelt
theorem dX9_round_0 : decode cX9_round 0 = .ok (.aload_n 0, 1) := by decide +kernel
theorem dX9_round_1 : decode cX9_round 1 = .ok (.iload_n 1, 1) := by decide +kernel
theorem dX9_round_2 : decode cX9_round 2 = .ok (.invokevirtual 102, 3) := by decide +kernel
theorem dX9_round_5 : decode cX9_round 5 = .ok (.ifCond .ne 6, 3) := by decide +kernel
theorem dX9_round_8 : decode cX9_round 8 = .ok (.bipush (-2), 2) := by decide +kernel
theorem dX9_round_10 : decode cX9_round 10 = .ok (.ireturn, 1) := by decide +kernel
theorem dX9_round_11 : decode cX9_round 11 = .ok (.aload_n 0, 1) := by decide +kernel
theorem dX9_round_12 : decode cX9_round 12 = .ok (.invokevirtual 124, 3) := by decide +kernel
theorem dX9_round_15 : decode cX9_round 15 = .ok (.iload_n 1, 1) := by decide +kernel
theorem dX9_round_16 : decode cX9_round 16 = .ok (.iconst 1, 1) := by decide +kernel
theorem dX9_round_17 : decode cX9_round 17 = .ok (.invokevirtual 128, 3) := by decide +kernel
theorem dX9_round_20 : decode cX9_round 20 = .ok (.istore_n 2, 1) := by decide +kernel
theorem dX9_round_21 : decode cX9_round 21 = .ok (.iload_n 2, 1) := by decide +kernel
theorem dX9_round_22 : decode cX9_round 22 = .ok (.iconst (-1), 1) := by decide +kernel
theorem dX9_round_23 : decode cX9_round 23 = .ok (.if_icmp .ne 7, 3) := by decide +kernel
theorem dX9_round_26 : decode cX9_round 26 = .ok (.iconst (-1), 1) := by decide +kernel
theorem dX9_round_27 : decode cX9_round 27 = .ok (.goto 14, 3) := by decide +kernel
theorem dX9_round_30 : decode cX9_round 30 = .ok (.iload_n 2, 1) := by decide +kernel
theorem dX9_round_31 : decode cX9_round 31 = .ok (.aload_n 0, 1) := by decide +kernel
theorem dX9_round_32 : decode cX9_round 32 = .ok (.getfield 24, 3) := by decide +kernel
theorem dX9_round_35 : decode cX9_round 35 = .ok (.getfield 154, 3) := by decide +kernel
theorem dX9_round_38 : decode cX9_round 38 = .ok (.iload_n 1, 1) := by decide +kernel
theorem dX9_round_39 : decode cX9_round 39 = .ok (.iaload, 1) := by decide +kernel
theorem dX9_round_40 : decode cX9_round 40 = .ok (.isub, 1) := by decide +kernel
theorem dX9_round_41 : decode cX9_round 41 = .ok (.ireturn, 1) := by decide +kernel
set_option maxRecDepth 20000 in
theorem ggX9_begin_X0_findOut : GoodIn wsX9_begin wsX0_findOut := goodIn_r _ [9, 10, 11, 12, 13, 14, 15, 16, 17, 18, 19, 20, 21, 22, 23, 24, 25, 26, 27, 28, 29, 30, 31, 32, 33, 34, 35, 36, 37, 38, 39, 40, 41, 42, 43, 44, 45, 46, 47, 48, 49, 50, 51, 52, 53, 54, 55, 56, 57, 58, 59, 60, 61, 62, 63, 64, 65, 66, 67, 68, 69, 70, 71, 72, 73, 74, 75, 76, 77, 78, 79, 80, 81, 82, 83, 84, 85, 86, 87, 88, 89, 90, 91, 92, 93, 94, 95, 96, 97, 98, 99, 100, 101, 102, 103, 104, 105, 106, 107, 108, 109, 110, 111, 112, 113, 114, 8, 115, 128, 129, 130, 131, 132, 133, 134, 135, 136, 137, 138, 139, 140, 141, 142, 143, 144, 145, 146, 147, 148, 149, 150, 151, 152, 153, 154, 155, 156, 157, 158] (by decide +kernel) (by decide +kernel)
set_option maxRecDepth 20000 in
theorem gX9_begin_X0_findOut : GoodIn wsX9_begin (wsV RX9 157 RX0 yX0_findOut wsX0_findOut) := goodIn_app (goodIn_of _ (by decide +kernel)) ggX9_begin_X0_findOut
theorem dX9_begin_0 : decode cX9_begin 0 = .ok (.iload_n 1, 1) := by decide +kernel
theorem dX9_begin_1 : decode cX9_begin 1 = .ok (.ifCond .lt 8, 3) := by decide +kernel
theorem dX9_begin_4 : decode cX9_begin 4 = .ok (.iload_n 1, 1) := by decide +kernel
theorem dX9_begin_5 : decode cX9_begin 5 = .ok (.iconst 2, 1) := by decide +kernel
theorem dX9_begin_6 : decode cX9_begin 6 = .ok (.if_icmp .le 6, 3) := by decide +kernel
theorem dX9_begin_9 : decode cX9_begin 9 = .ok (.bipush (-2), 2) := by decide +kernel
theorem dX9_begin_11 : decode cX9_begin 11 = .ok (.ireturn, 1) := by decide +kernel
theorem dX9_begin_12 : decode cX9_begin 12 = .ok (.aload_n 0, 1) := by decide +kernel
theorem dX9_begin_13 : decode cX9_begin 13 = .ok (.getfield 33, 3) := by decide +kernel
theorem dX9_begin_16 : decode cX9_begin 16 = .ok (.invokevirtual 157, 3) := by decide +kernel
theorem dX9_begin_19 : decode cX9_begin 19 = .ok (.iload_n 1, 1) := by decide +kernel
theorem dX9_begin_20 : decode cX9_begin 20 = .ok (.ifCond .ne 11, 3) := by decide +kernel
theorem dX9_begin_23 : decode cX9_begin 23 = .ok (.aload_n 0, 1) := by decide +kernel
theorem dX9_begin_24 : decode cX9_begin 24 = .ok (.getfield 33, 3) := by decide +kernel
theorem dX9_begin_27 : decode cX9_begin 27 = .ok (.getfield 160, 3) := by decide +kernel
theorem dX9_begin_30 : decode cX9_begin 30 = .ok (.ireturn, 1) := by decide +kernel
theorem dX9_begin_31 : decode cX9_begin 31 = .ok (.iload_n 1, 1) := by decide +kernel
theorem dX9_begin_32 : decode cX9_begin 32 = .ok (.iconst 1, 1) := by decide +kernel
theorem dX9_begin_33 : decode cX9_begin 33 = .ok (.if_icmp .ne 13, 3) := by decide +kernel
theorem dX9_begin_36 : decode cX9_begin 36 = .ok (.aload_n 0, 1) := by decide +kernel
theorem dX9_begin_37 : decode cX9_begin 37 = .ok (.getfield 33, 3) := by decide +kernel
theorem dX9_begin_40 : decode cX9_begin 40 = .ok (.getfield 163, 3) := by decide +kernel
theorem dX9_begin_43 : decode cX9_begin 43 = .ok (.goto 10, 3) := by decide +kernel
theorem dX9_begin_46 : decode cX9_begin 46 = .ok (.aload_n 0, 1) := by decide +kernel
theorem dX9_begin_47 : decode cX9_begin 47 = .ok (.getfield 33, 3) := by decide +kernel
theorem dX9_begin_50 : decode cX9_begin 50 = .ok (.getfield 166, 3) := by decide +kernel
theorem dX9_begin_53 : decode cX9_begin 53 = .ok (.ireturn, 1) := by decide +kernel
set_option maxRecDepth 20000 in
theorem ggX9_passed_X9_isTime : GoodIn wsX9_passed wsX9_isTime := goodIn_r _ [4] (by decide +kernel) (by decide +kernel)
set_option maxRecDepth 20000 in
theorem gX9_passed_X9_isTime : GoodIn wsX9_passed (va_wsS RX9 132 yX9_isTime wsX9_isTime) := goodIn_app (goodIn_of _ (by decide +kernel)) ggX9_passed_X9_isTime
set_option maxRecDepth 20000 in
theorem ggX9_passed_X9_asTold : GoodIn wsX9_passed wsX9_asTold := goodIn_r _ [8, 9, 10, 11, 12, 13, 14, 15, 16, 17, 18, 19, 20, 21, 22, 23, 24, 25, 26, 27, 28, 29, 30, 31, 32, 33, 34, 35, 36, 37, 38, 39, 40, 41, 42, 43, 44, 45, 46, 47, 48, 49, 50, 51, 52, 53, 54, 55, 56, 57, 58, 59, 60, 61, 62, 63, 64, 65, 66, 67, 68, 69, 70, 71, 72, 73, 74, 75, 76, 77, 78, 79, 80, 81, 82, 83, 84, 85, 86, 87, 88, 100, 101, 102, 103, 104, 105, 106, 107, 108, 109, 110, 111, 112, 113, 114, 115, 116, 117, 118, 119, 120, 121, 122, 123, 124, 125, 126, 127, 128, 129, 130, 131, 132, 133, 134, 135, 136] (by decide +kernel) (by decide +kernel)
set_option maxRecDepth 20000 in
theorem gX9_passed_X9_asTold : GoodIn wsX9_passed (wsV RX9 124 RX9 yX9_asTold wsX9_asTold) := goodIn_app (goodIn_of _ (by decide +kernel)) ggX9_passed_X9_asTold
set_option maxRecDepth 20000 in
theorem ggX9_passed_X8_allFeltUpTo : GoodIn wsX9_passed wsX8_allFeltUpTo := goodIn_r _ [92, 24, 93, 94, 95, 42, 96, 44, 50, 97, 98, 99, 112, 113, 114, 115, 116, 117, 118, 119, 120, 121, 135, 136] (by decide +kernel) (by decide +kernel)
set_option maxRecDepth 20000 in
theorem gX9_passed_X8_allFeltUpTo : GoodIn wsX9_passed (wsV RX9 168 RX8 yX8_allFeltUpTo wsX8_allFeltUpTo) := goodIn_app (goodIn_of _ (by decide +kernel)) ggX9_passed_X8_allFeltUpTo
theorem dX9_passed_0 : decode cX9_passed 0 = .ok (.iload_n 1, 1) := by decide +kernel
theorem dX9_passed_1 : decode cX9_passed 1 = .ok (.invokestatic 132, 3) := by decide +kernel
theorem dX9_passed_4 : decode cX9_passed 4 = .ok (.ifCond .eq 14, 3) := by decide +kernel
theorem dX9_passed_7 : decode cX9_passed 7 = .ok (.aload_n 0, 1) := by decide +kernel
