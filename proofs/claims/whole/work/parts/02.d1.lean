theorem dX0_init_0 : decode cX0_init 0 = .ok (.aload_n 0, 1) := by decide +kernel
theorem dX0_init_1 : decode cX0_init 1 = .ok (.invokespecial 3, 3) := by decide +kernel
theorem dX0_init_4 : decode cX0_init 4 = .ok (.aload_n 0, 1) := by decide +kernel
theorem dX0_init_5 : decode cX0_init 5 = .ok (.aload_n 1, 1) := by decide +kernel
theorem dX0_init_6 : decode cX0_init 6 = .ok (.putfield 9, 3) := by decide +kernel
theorem dX0_init_9 : decode cX0_init 9 = .ok (.aload_n 0, 1) := by decide +kernel
theorem dX0_init_10 : decode cX0_init 10 = .ok (.aload_n 2, 1) := by decide +kernel
theorem dX0_init_11 : decode cX0_init 11 = .ok (.putfield 15, 3) := by decide +kernel
theorem dX0_init_14 : decode cX0_init 14 = .ok (.aload_n 0, 1) := by decide +kernel
theorem dX0_init_15 : decode cX0_init 15 = .ok (.iconst 0, 1) := by decide +kernel
theorem dX0_init_16 : decode cX0_init 16 = .ok (.putfield 19, 3) := by decide +kernel
theorem dX0_init_19 : decode cX0_init 19 = .ok (.return_, 1) := by decide +kernel
theorem dX0_findOut_0 : decode cX0_findOut 0 = .ok (.aload_n 0, 1) := by decide +kernel
theorem dX0_findOut_1 : decode cX0_findOut 1 = .ok (.getfield 19, 3) := by decide +kernel
theorem dX0_findOut_4 : decode cX0_findOut 4 = .ok (.ifCond .eq 4, 3) := by decide +kernel
theorem dX0_findOut_7 : decode cX0_findOut 7 = .ok (.return_, 1) := by decide +kernel
theorem dX0_findOut_8 : decode cX0_findOut 8 = .ok (.aload_n 0, 1) := by decide +kernel
theorem dX0_findOut_9 : decode cX0_findOut 9 = .ok (.iconst (-1), 1) := by decide +kernel
theorem dX0_findOut_10 : decode cX0_findOut 10 = .ok (.putfield 23, 3) := by decide +kernel
theorem dX0_findOut_13 : decode cX0_findOut 13 = .ok (.aload_n 0, 1) := by decide +kernel
theorem dX0_findOut_14 : decode cX0_findOut 14 = .ok (.iconst 0, 1) := by decide +kernel
theorem dX0_findOut_15 : decode cX0_findOut 15 = .ok (.putfield 27, 3) := by decide +kernel
theorem dX0_findOut_18 : decode cX0_findOut 18 = .ok (.aload_n 0, 1) := by decide +kernel
theorem dX0_findOut_19 : decode cX0_findOut 19 = .ok (.iconst (-1), 1) := by decide +kernel
theorem dX0_findOut_20 : decode cX0_findOut 20 = .ok (.putfield 30, 3) := by decide +kernel
theorem dX0_findOut_23 : decode cX0_findOut 23 = .ok (.iconst 0, 1) := by decide +kernel
theorem dX0_findOut_24 : decode cX0_findOut 24 = .ok (.istore_n 1, 1) := by decide +kernel
theorem dX0_findOut_25 : decode cX0_findOut 25 = .ok (.iload_n 1, 1) := by decide +kernel
theorem dX0_findOut_26 : decode cX0_findOut 26 = .ok (.aload_n 0, 1) := by decide +kernel
theorem dX0_findOut_27 : decode cX0_findOut 27 = .ok (.getfield 9, 3) := by decide +kernel
theorem dX0_findOut_30 : decode cX0_findOut 30 = .ok (.getfield 33, 3) := by decide +kernel
theorem dX0_findOut_33 : decode cX0_findOut 33 = .ok (.if_icmp .ge 42, 3) := by decide +kernel
theorem dX0_findOut_36 : decode cX0_findOut 36 = .ok (.aload_n 0, 1) := by decide +kernel
theorem dX0_findOut_37 : decode cX0_findOut 37 = .ok (.getfield 15, 3) := by decide +kernel
theorem dX0_findOut_40 : decode cX0_findOut 40 = .ok (.iload_n 1, 1) := by decide +kernel
theorem dX0_findOut_41 : decode cX0_findOut 41 = .ok (.iconst (-1), 1) := by decide +kernel
theorem dX0_findOut_42 : decode cX0_findOut 42 = .ok (.iconst 0, 1) := by decide +kernel
theorem dX0_findOut_43 : decode cX0_findOut 43 = .ok (.iconst (-1), 1) := by decide +kernel
theorem dX0_findOut_44 : decode cX0_findOut 44 = .ok (.invokevirtual 38, 3) := by decide +kernel
theorem dX0_findOut_47 : decode cX0_findOut 47 = .ok (.aload_n 0, 1) := by decide +kernel
theorem dX0_findOut_48 : decode cX0_findOut 48 = .ok (.iload_n 1, 1) := by decide +kernel
theorem dX0_findOut_49 : decode cX0_findOut 49 = .ok (.aload_n 0, 1) := by decide +kernel
theorem dX0_findOut_50 : decode cX0_findOut 50 = .ok (.getfield 15, 3) := by decide +kernel
theorem dX0_findOut_53 : decode cX0_findOut 53 = .ok (.invokevirtual 44, 3) := by decide +kernel
theorem dX0_findOut_56 : decode cX0_findOut 56 = .ok (.invokestatic 48, 3) := by decide +kernel
theorem dX0_findOut_59 : decode cX0_findOut 59 = .ok (.aload_n 0, 1) := by decide +kernel
theorem dX0_findOut_60 : decode cX0_findOut 60 = .ok (.getfield 15, 3) := by decide +kernel
theorem dX0_findOut_63 : decode cX0_findOut 63 = .ok (.invokevirtual 54, 3) := by decide +kernel
theorem dX0_findOut_66 : decode cX0_findOut 66 = .ok (.invokevirtual 56, 3) := by decide +kernel
theorem dX0_findOut_69 : decode cX0_findOut 69 = .ok (.iinc 1 1, 3) := by decide +kernel
theorem dX0_findOut_72 : decode cX0_findOut 72 = .ok (.goto (-47), 3) := by decide +kernel
theorem dX0_findOut_75 : decode cX0_findOut 75 = .ok (.aload_n 0, 1) := by decide +kernel
theorem dX0_findOut_76 : decode cX0_findOut 76 = .ok (.iconst 1, 1) := by decide +kernel
theorem dX0_findOut_77 : decode cX0_findOut 77 = .ok (.putfield 19, 3) := by decide +kernel
theorem dX0_findOut_80 : decode cX0_findOut 80 = .ok (.return_, 1) := by decide +kernel
theorem dX0_compare_0 : decode cX0_compare 0 = .ok (.iload_n 2, 1) := by decide +kernel
theorem dX0_compare_1 : decode cX0_compare 1 = .ok (.aload_n 0, 1) := by decide +kernel
theorem dX0_compare_2 : decode cX0_compare 2 = .ok (.getfield 27, 3) := by decide +kernel
theorem dX0_compare_5 : decode cX0_compare 5 = .ok (.if_icmp .gt 19, 3) := by decide +kernel
theorem dX0_compare_8 : decode cX0_compare 8 = .ok (.iload_n 2, 1) := by decide +kernel
theorem dX0_compare_9 : decode cX0_compare 9 = .ok (.aload_n 0, 1) := by decide +kernel
theorem dX0_compare_10 : decode cX0_compare 10 = .ok (.getfield 27, 3) := by decide +kernel
theorem dX0_compare_13 : decode cX0_compare 13 = .ok (.if_icmp .ne 26, 3) := by decide +kernel
theorem dX0_compare_16 : decode cX0_compare 16 = .ok (.iload_n 3, 1) := by decide +kernel
theorem dX0_compare_17 : decode cX0_compare 17 = .ok (.aload_n 0, 1) := by decide +kernel
theorem dX0_compare_18 : decode cX0_compare 18 = .ok (.getfield 30, 3) := by decide +kernel
theorem dX0_compare_21 : decode cX0_compare 21 = .ok (.if_icmp .ge 18, 3) := by decide +kernel
theorem dX0_compare_24 : decode cX0_compare 24 = .ok (.aload_n 0, 1) := by decide +kernel
theorem dX0_compare_25 : decode cX0_compare 25 = .ok (.iload_n 1, 1) := by decide +kernel
theorem dX0_compare_26 : decode cX0_compare 26 = .ok (.putfield 23, 3) := by decide +kernel
theorem dX0_compare_29 : decode cX0_compare 29 = .ok (.aload_n 0, 1) := by decide +kernel
theorem dX0_compare_30 : decode cX0_compare 30 = .ok (.iload_n 2, 1) := by decide +kernel
theorem dX0_compare_31 : decode cX0_compare 31 = .ok (.putfield 27, 3) := by decide +kernel
theorem dX0_compare_34 : decode cX0_compare 34 = .ok (.aload_n 0, 1) := by decide +kernel
theorem dX0_compare_35 : decode cX0_compare 35 = .ok (.iload_n 3, 1) := by decide +kernel
theorem dX0_compare_36 : decode cX0_compare 36 = .ok (.putfield 30, 3) := by decide +kernel
theorem dX0_compare_39 : decode cX0_compare 39 = .ok (.return_, 1) := by decide +kernel
theorem dX1_init_0 : decode cX1_init 0 = .ok (.aload_n 0, 1) := by decide +kernel
theorem dX1_init_1 : decode cX1_init 1 = .ok (.invokespecial 3, 3) := by decide +kernel
theorem dX1_init_4 : decode cX1_init 4 = .ok (.aload_n 0, 1) := by decide +kernel
theorem dX1_init_5 : decode cX1_init 5 = .ok (.bipush 64, 2) := by decide +kernel
theorem dX1_init_7 : decode cX1_init 7 = .ok (.newarray .int, 2) := by decide +kernel
theorem dX1_init_9 : decode cX1_init 9 = .ok (.putfield 9, 3) := by decide +kernel
theorem dX1_init_12 : decode cX1_init 12 = .ok (.aload_n 0, 1) := by decide +kernel
theorem dX1_init_13 : decode cX1_init 13 = .ok (.iconst 0, 1) := by decide +kernel
theorem dX1_init_14 : decode cX1_init 14 = .ok (.putfield 15, 3) := by decide +kernel
theorem dX1_init_17 : decode cX1_init 17 = .ok (.return_, 1) := by decide +kernel
theorem dX1_makeRoom_0 : decode cX1_makeRoom 0 = .ok (.aload_n 0, 1) := by decide +kernel
theorem dX1_makeRoom_1 : decode cX1_makeRoom 1 = .ok (.getfield 15, 3) := by decide +kernel
theorem dX1_makeRoom_4 : decode cX1_makeRoom 4 = .ok (.iload_n 1, 1) := by decide +kernel
theorem dX1_makeRoom_5 : decode cX1_makeRoom 5 = .ok (.iadd, 1) := by decide +kernel
theorem dX1_makeRoom_6 : decode cX1_makeRoom 6 = .ok (.ldc 19, 2) := by decide +kernel
theorem dX1_makeRoom_8 : decode cX1_makeRoom 8 = .ok (.invokestatic 20, 3) := by decide +kernel
theorem dX1_makeRoom_11 : decode cX1_makeRoom 11 = .ok (.istore_n 2, 1) := by decide +kernel
theorem dX1_makeRoom_12 : decode cX1_makeRoom 12 = .ok (.iload_n 2, 1) := by decide +kernel
theorem dX1_makeRoom_13 : decode cX1_makeRoom 13 = .ok (.aload_n 0, 1) := by decide +kernel
theorem dX1_makeRoom_14 : decode cX1_makeRoom 14 = .ok (.getfield 9, 3) := by decide +kernel
theorem dX1_makeRoom_17 : decode cX1_makeRoom 17 = .ok (.arraylength, 1) := by decide +kernel
theorem dX1_makeRoom_18 : decode cX1_makeRoom 18 = .ok (.if_icmp .le 25, 3) := by decide +kernel
theorem dX1_makeRoom_21 : decode cX1_makeRoom 21 = .ok (.aload_n 0, 1) := by decide +kernel
theorem dX1_makeRoom_22 : decode cX1_makeRoom 22 = .ok (.aload_n 0, 1) := by decide +kernel
theorem dX1_makeRoom_23 : decode cX1_makeRoom 23 = .ok (.getfield 9, 3) := by decide +kernel
theorem dX1_makeRoom_26 : decode cX1_makeRoom 26 = .ok (.iload_n 2, 1) := by decide +kernel
theorem dX1_makeRoom_27 : decode cX1_makeRoom 27 = .ok (.iconst 2, 1) := by decide +kernel
theorem dX1_makeRoom_28 : decode cX1_makeRoom 28 = .ok (.aload_n 0, 1) := by decide +kernel
theorem dX1_makeRoom_29 : decode cX1_makeRoom 29 = .ok (.getfield 9, 3) := by decide +kernel
theorem dX1_makeRoom_32 : decode cX1_makeRoom 32 = .ok (.arraylength, 1) := by decide +kernel
theorem dX1_makeRoom_33 : decode cX1_makeRoom 33 = .ok (.imul, 1) := by decide +kernel
theorem dX1_makeRoom_34 : decode cX1_makeRoom 34 = .ok (.invokestatic 26, 3) := by decide +kernel
theorem dX1_makeRoom_37 : decode cX1_makeRoom 37 = .ok (.invokestatic 29, 3) := by decide +kernel
theorem dX1_makeRoom_40 : decode cX1_makeRoom 40 = .ok (.putfield 9, 3) := by decide +kernel
theorem dX1_makeRoom_43 : decode cX1_makeRoom 43 = .ok (.return_, 1) := by decide +kernel
theorem dX1_note_0 : decode cX1_note 0 = .ok (.aload_n 0, 1) := by decide +kernel
theorem dX1_note_1 : decode cX1_note 1 = .ok (.getfield 15, 3) := by decide +kernel
theorem dX1_note_4 : decode cX1_note 4 = .ok (.aload_n 0, 1) := by decide +kernel
theorem dX1_note_5 : decode cX1_note 5 = .ok (.getfield 9, 3) := by decide +kernel
theorem dX1_note_8 : decode cX1_note 8 = .ok (.arraylength, 1) := by decide +kernel
theorem dX1_note_9 : decode cX1_note 9 = .ok (.if_icmp .ge 40, 3) := by decide +kernel
theorem dX1_note_12 : decode cX1_note 12 = .ok (.aload_n 0, 1) := by decide +kernel
theorem dX1_note_13 : decode cX1_note 13 = .ok (.getfield 9, 3) := by decide +kernel
theorem dX1_note_16 : decode cX1_note 16 = .ok (.aload_n 0, 1) := by decide +kernel
theorem dX1_note_17 : decode cX1_note 17 = .ok (.getfield 15, 3) := by decide +kernel
theorem dX1_note_20 : decode cX1_note 20 = .ok (.iload_n 1, 1) := by decide +kernel
theorem dX1_note_21 : decode cX1_note 21 = .ok (.bipush 11, 2) := by decide +kernel
theorem dX1_note_23 : decode cX1_note 23 = .ok (.ishl, 1) := by decide +kernel
theorem dX1_note_24 : decode cX1_note 24 = .ok (.iload_n 2, 1) := by decide +kernel
theorem dX1_note_25 : decode cX1_note 25 = .ok (.bipush 6, 2) := by decide +kernel
theorem dX1_note_27 : decode cX1_note 27 = .ok (.ishl, 1) := by decide +kernel
theorem dX1_note_28 : decode cX1_note 28 = .ok (.ior, 1) := by decide +kernel
theorem dX1_note_29 : decode cX1_note 29 = .ok (.iload_n 3, 1) := by decide +kernel
theorem dX1_note_30 : decode cX1_note 30 = .ok (.iconst 1, 1) := by decide +kernel
theorem dX1_note_31 : decode cX1_note 31 = .ok (.iadd, 1) := by decide +kernel
theorem dX1_note_32 : decode cX1_note 32 = .ok (.iconst 1, 1) := by decide +kernel
theorem dX1_note_33 : decode cX1_note 33 = .ok (.ishl, 1) := by decide +kernel
theorem dX1_note_34 : decode cX1_note 34 = .ok (.ior, 1) := by decide +kernel
theorem dX1_note_35 : decode cX1_note 35 = .ok (.iload 4, 2) := by decide +kernel
theorem dX1_note_37 : decode cX1_note 37 = .ok (.ior, 1) := by decide +kernel
theorem dX1_note_38 : decode cX1_note 38 = .ok (.iastore, 1) := by decide +kernel
theorem dX1_note_39 : decode cX1_note 39 = .ok (.aload_n 0, 1) := by decide +kernel
theorem dX1_note_40 : decode cX1_note 40 = .ok (.dup, 1) := by decide +kernel
theorem dX1_note_41 : decode cX1_note 41 = .ok (.getfield 15, 3) := by decide +kernel
theorem dX1_note_44 : decode cX1_note 44 = .ok (.iconst 1, 1) := by decide +kernel
theorem dX1_note_45 : decode cX1_note 45 = .ok (.iadd, 1) := by decide +kernel
theorem dX1_note_46 : decode cX1_note 46 = .ok (.putfield 15, 3) := by decide +kernel
theorem dX1_note_49 : decode cX1_note 49 = .ok (.return_, 1) := by decide +kernel
theorem dX1_findFelt_0 : decode cX1_findFelt 0 = .ok (.iload_n 2, 1) := by decide +kernel
theorem dX1_findFelt_1 : decode cX1_findFelt 1 = .ok (.istore_n 3, 1) := by decide +kernel
theorem dX1_findFelt_2 : decode cX1_findFelt 2 = .ok (.iconst 0, 1) := by decide +kernel
theorem dX1_findFelt_3 : decode cX1_findFelt 3 = .ok (.istore 4, 2) := by decide +kernel
theorem dX1_findFelt_5 : decode cX1_findFelt 5 = .ok (.iload 4, 2) := by decide +kernel
theorem dX1_findFelt_7 : decode cX1_findFelt 7 = .ok (.aload_n 0, 1) := by decide +kernel
theorem dX1_findFelt_8 : decode cX1_findFelt 8 = .ok (.getfield 15, 3) := by decide +kernel
theorem dX1_findFelt_11 : decode cX1_findFelt 11 = .ok (.if_icmp .ge 39, 3) := by decide +kernel
theorem dX1_findFelt_14 : decode cX1_findFelt 14 = .ok (.aload_n 0, 1) := by decide +kernel
theorem dX1_findFelt_15 : decode cX1_findFelt 15 = .ok (.getfield 9, 3) := by decide +kernel
theorem dX1_findFelt_18 : decode cX1_findFelt 18 = .ok (.iload 4, 2) := by decide +kernel
theorem dX1_findFelt_20 : decode cX1_findFelt 20 = .ok (.iaload, 1) := by decide +kernel
theorem dX1_findFelt_21 : decode cX1_findFelt 21 = .ok (.iload_n 1, 1) := by decide +kernel
theorem dX1_findFelt_22 : decode cX1_findFelt 22 = .ok (.iconst 0, 1) := by decide +kernel
theorem dX1_findFelt_23 : decode cX1_findFelt 23 = .ok (.invokestatic 35, 3) := by decide +kernel
theorem dX1_findFelt_26 : decode cX1_findFelt 26 = .ok (.ifCond .eq 18, 3) := by decide +kernel
theorem dX1_findFelt_29 : decode cX1_findFelt 29 = .ok (.iload_n 3, 1) := by decide +kernel
theorem dX1_findFelt_30 : decode cX1_findFelt 30 = .ok (.ifCond .ne 11, 3) := by decide +kernel
theorem dX1_findFelt_33 : decode cX1_findFelt 33 = .ok (.aload_n 0, 1) := by decide +kernel
theorem dX1_findFelt_34 : decode cX1_findFelt 34 = .ok (.getfield 9, 3) := by decide +kernel
theorem dX1_findFelt_37 : decode cX1_findFelt 37 = .ok (.iload 4, 2) := by decide +kernel
theorem dX1_findFelt_39 : decode cX1_findFelt 39 = .ok (.iaload, 1) := by decide +kernel
theorem dX1_findFelt_40 : decode cX1_findFelt 40 = .ok (.ireturn, 1) := by decide +kernel
theorem dX1_findFelt_41 : decode cX1_findFelt 41 = .ok (.iinc 3 (-1), 3) := by decide +kernel
theorem dX1_findFelt_44 : decode cX1_findFelt 44 = .ok (.iinc 4 1, 3) := by decide +kernel
theorem dX1_findFelt_47 : decode cX1_findFelt 47 = .ok (.goto (-42), 3) := by decide +kernel
theorem dX1_findFelt_50 : decode cX1_findFelt 50 = .ok (.iconst (-1), 1) := by decide +kernel
theorem dX1_findFelt_51 : decode cX1_findFelt 51 = .ok (.ireturn, 1) := by decide +kernel
theorem dX1_tally_0 : decode cX1_tally 0 = .ok (.iconst 0, 1) := by decide +kernel
theorem dX1_tally_1 : decode cX1_tally 1 = .ok (.istore 4, 2) := by decide +kernel
theorem dX1_tally_3 : decode cX1_tally 3 = .ok (.iconst 0, 1) := by decide +kernel
theorem dX1_tally_4 : decode cX1_tally 4 = .ok (.istore 5, 2) := by decide +kernel
theorem dX1_tally_6 : decode cX1_tally 6 = .ok (.iload 5, 2) := by decide +kernel
theorem dX1_tally_8 : decode cX1_tally 8 = .ok (.aload_n 0, 1) := by decide +kernel
theorem dX1_tally_9 : decode cX1_tally 9 = .ok (.getfield 15, 3) := by decide +kernel
theorem dX1_tally_12 : decode cX1_tally 12 = .ok (.if_icmp .ge 41, 3) := by decide +kernel
theorem dX1_tally_15 : decode cX1_tally 15 = .ok (.aload_n 0, 1) := by decide +kernel
theorem dX1_tally_16 : decode cX1_tally 16 = .ok (.getfield 9, 3) := by decide +kernel
theorem dX1_tally_19 : decode cX1_tally 19 = .ok (.iload 5, 2) := by decide +kernel
theorem dX1_tally_21 : decode cX1_tally 21 = .ok (.iaload, 1) := by decide +kernel
theorem dX1_tally_22 : decode cX1_tally 22 = .ok (.invokestatic 39, 3) := by decide +kernel
theorem dX1_tally_25 : decode cX1_tally 25 = .ok (.iload_n 2, 1) := by decide +kernel
theorem dX1_tally_26 : decode cX1_tally 26 = .ok (.if_icmp .gt 27, 3) := by decide +kernel
theorem dX1_tally_29 : decode cX1_tally 29 = .ok (.aload_n 0, 1) := by decide +kernel
theorem dX1_tally_30 : decode cX1_tally 30 = .ok (.getfield 9, 3) := by decide +kernel
theorem dX1_tally_33 : decode cX1_tally 33 = .ok (.iload 5, 2) := by decide +kernel
theorem dX1_tally_35 : decode cX1_tally 35 = .ok (.iaload, 1) := by decide +kernel
theorem dX1_tally_36 : decode cX1_tally 36 = .ok (.iload_n 1, 1) := by decide +kernel
theorem dX1_tally_37 : decode cX1_tally 37 = .ok (.iload_n 3, 1) := by decide +kernel
theorem dX1_tally_38 : decode cX1_tally 38 = .ok (.invokestatic 35, 3) := by decide +kernel
theorem dX1_tally_41 : decode cX1_tally 41 = .ok (.ifCond .eq 6, 3) := by decide +kernel
theorem dX1_tally_44 : decode cX1_tally 44 = .ok (.iinc 4 1, 3) := by decide +kernel
theorem dX1_tally_47 : decode cX1_tally 47 = .ok (.iinc 5 1, 3) := by decide +kernel
theorem dX1_tally_50 : decode cX1_tally 50 = .ok (.goto (-44), 3) := by decide +kernel
theorem dX1_tally_53 : decode cX1_tally 53 = .ok (.iload 4, 2) := by decide +kernel
theorem dX1_tally_55 : decode cX1_tally 55 = .ok (.ireturn, 1) := by decide +kernel
theorem dX1_tallyAllFelt_0 : decode cX1_tallyAllFelt 0 = .ok (.iconst 0, 1) := by decide +kernel
theorem dX1_tallyAllFelt_1 : decode cX1_tallyAllFelt 1 = .ok (.istore_n 2, 1) := by decide +kernel
theorem dX1_tallyAllFelt_2 : decode cX1_tallyAllFelt 2 = .ok (.iconst 0, 1) := by decide +kernel
theorem dX1_tallyAllFelt_3 : decode cX1_tallyAllFelt 3 = .ok (.istore_n 3, 1) := by decide +kernel
theorem dX1_tallyAllFelt_4 : decode cX1_tallyAllFelt 4 = .ok (.iload_n 3, 1) := by decide +kernel
theorem dX1_tallyAllFelt_5 : decode cX1_tallyAllFelt 5 = .ok (.aload_n 0, 1) := by decide +kernel
theorem dX1_tallyAllFelt_6 : decode cX1_tallyAllFelt 6 = .ok (.getfield 15, 3) := by decide +kernel
theorem dX1_tallyAllFelt_9 : decode cX1_tallyAllFelt 9 = .ok (.if_icmp .ge 36, 3) := by decide +kernel
theorem dX1_tallyAllFelt_12 : decode cX1_tallyAllFelt 12 = .ok (.aload_n 0, 1) := by decide +kernel
theorem dX1_tallyAllFelt_13 : decode cX1_tallyAllFelt 13 = .ok (.getfield 9, 3) := by decide +kernel
theorem dX1_tallyAllFelt_16 : decode cX1_tallyAllFelt 16 = .ok (.iload_n 3, 1) := by decide +kernel
theorem dX1_tallyAllFelt_17 : decode cX1_tallyAllFelt 17 = .ok (.iaload, 1) := by decide +kernel
theorem dX1_tallyAllFelt_18 : decode cX1_tallyAllFelt 18 = .ok (.invokestatic 39, 3) := by decide +kernel
theorem dX1_tallyAllFelt_21 : decode cX1_tallyAllFelt 21 = .ok (.iload_n 1, 1) := by decide +kernel
theorem dX1_tallyAllFelt_22 : decode cX1_tallyAllFelt 22 = .ok (.if_icmp .gt 23, 3) := by decide +kernel
theorem dX1_tallyAllFelt_25 : decode cX1_tallyAllFelt 25 = .ok (.aload_n 0, 1) := by decide +kernel
theorem dX1_tallyAllFelt_26 : decode cX1_tallyAllFelt 26 = .ok (.getfield 9, 3) := by decide +kernel
theorem dX1_tallyAllFelt_29 : decode cX1_tallyAllFelt 29 = .ok (.iload_n 3, 1) := by decide +kernel
theorem dX1_tallyAllFelt_30 : decode cX1_tallyAllFelt 30 = .ok (.iaload, 1) := by decide +kernel
theorem dX1_tallyAllFelt_31 : decode cX1_tallyAllFelt 31 = .ok (.iconst 1, 1) := by decide +kernel
theorem dX1_tallyAllFelt_32 : decode cX1_tallyAllFelt 32 = .ok (.iand, 1) := by decide +kernel
theorem dX1_tallyAllFelt_33 : decode cX1_tallyAllFelt 33 = .ok (.ifCond .ne 6, 3) := by decide +kernel
theorem dX1_tallyAllFelt_36 : decode cX1_tallyAllFelt 36 = .ok (.iinc 2 1, 3) := by decide +kernel
theorem dX1_tallyAllFelt_39 : decode cX1_tallyAllFelt 39 = .ok (.iinc 3 1, 3) := by decide +kernel
theorem dX1_tallyAllFelt_42 : decode cX1_tallyAllFelt 42 = .ok (.goto (-38), 3) := by decide +kernel
theorem dX1_tallyAllFelt_45 : decode cX1_tallyAllFelt 45 = .ok (.iload_n 2, 1) := by decide +kernel
theorem dX1_tallyAllFelt_46 : decode cX1_tallyAllFelt 46 = .ok (.ireturn, 1) := by decide +kernel
theorem dX1_timeOf_0 : decode cX1_timeOf 0 = .ok (.iload_n 0, 1) := by decide +kernel
theorem dX1_timeOf_1 : decode cX1_timeOf 1 = .ok (.bipush 11, 2) := by decide +kernel
theorem dX1_timeOf_3 : decode cX1_timeOf 3 = .ok (.ishr, 1) := by decide +kernel
theorem dX1_timeOf_4 : decode cX1_timeOf 4 = .ok (.ireturn, 1) := by decide +kernel
theorem dX1_sourceOf_0 : decode cX1_sourceOf 0 = .ok (.iload_n 0, 1) := by decide +kernel
theorem dX1_sourceOf_1 : decode cX1_sourceOf 1 = .ok (.iconst 1, 1) := by decide +kernel
theorem dX1_sourceOf_2 : decode cX1_sourceOf 2 = .ok (.ishr, 1) := by decide +kernel
theorem dX1_sourceOf_3 : decode cX1_sourceOf 3 = .ok (.bipush 31, 2) := by decide +kernel
theorem dX1_sourceOf_5 : decode cX1_sourceOf 5 = .ok (.iand, 1) := by decide +kernel
theorem dX1_sourceOf_6 : decode cX1_sourceOf 6 = .ok (.iconst 1, 1) := by decide +kernel
theorem dX1_sourceOf_7 : decode cX1_sourceOf 7 = .ok (.isub, 1) := by decide +kernel
theorem dX1_sourceOf_8 : decode cX1_sourceOf 8 = .ok (.ireturn, 1) := by decide +kernel
theorem dX1_isOf_0 : decode cX1_isOf 0 = .ok (.iload_n 0, 1) := by decide +kernel
theorem dX1_isOf_1 : decode cX1_isOf 1 = .ok (.bipush 6, 2) := by decide +kernel
theorem dX1_isOf_3 : decode cX1_isOf 3 = .ok (.ishr, 1) := by decide +kernel
theorem dX1_isOf_4 : decode cX1_isOf 4 = .ok (.bipush 31, 2) := by decide +kernel
theorem dX1_isOf_6 : decode cX1_isOf 6 = .ok (.iand, 1) := by decide +kernel
theorem dX1_isOf_7 : decode cX1_isOf 7 = .ok (.iload_n 1, 1) := by decide +kernel
theorem dX1_isOf_8 : decode cX1_isOf 8 = .ok (.if_icmp .ne 14, 3) := by decide +kernel
theorem dX1_isOf_11 : decode cX1_isOf 11 = .ok (.iload_n 0, 1) := by decide +kernel
theorem dX1_isOf_12 : decode cX1_isOf 12 = .ok (.iconst 1, 1) := by decide +kernel
theorem dX1_isOf_13 : decode cX1_isOf 13 = .ok (.iand, 1) := by decide +kernel
theorem dX1_isOf_14 : decode cX1_isOf 14 = .ok (.iload_n 2, 1) := by decide +kernel
theorem dX1_isOf_15 : decode cX1_isOf 15 = .ok (.if_icmp .ne 7, 3) := by decide +kernel
theorem dX1_isOf_18 : decode cX1_isOf 18 = .ok (.iconst 1, 1) := by decide +kernel
theorem dX1_isOf_19 : decode cX1_isOf 19 = .ok (.goto 4, 3) := by decide +kernel
theorem dX1_isOf_22 : decode cX1_isOf 22 = .ok (.iconst 0, 1) := by decide +kernel
theorem dX1_isOf_23 : decode cX1_isOf 23 = .ok (.ireturn, 1) := by decide +kernel
theorem dX2_init_0 : decode cX2_init 0 = .ok (.aload_n 0, 1) := by decide +kernel
theorem dX2_init_1 : decode cX2_init 1 = .ok (.invokespecial 3, 3) := by decide +kernel
theorem dX2_init_4 : decode cX2_init 4 = .ok (.aload_n 0, 1) := by decide +kernel
theorem dX2_init_5 : decode cX2_init 5 = .ok (.bipush 12, 2) := by decide +kernel
theorem dX2_init_7 : decode cX2_init 7 = .ok (.newarray .int, 2) := by decide +kernel
theorem dX2_init_9 : decode cX2_init 9 = .ok (.putfield 11, 3) := by decide +kernel
theorem dX2_init_12 : decode cX2_init 12 = .ok (.aload_n 0, 1) := by decide +kernel
theorem dX2_init_13 : decode cX2_init 13 = .ok (.bipush 12, 2) := by decide +kernel
theorem dX2_init_15 : decode cX2_init 15 = .ok (.newarray .int, 2) := by decide +kernel
theorem dX2_init_17 : decode cX2_init 17 = .ok (.putfield 15, 3) := by decide +kernel
theorem dX2_init_20 : decode cX2_init 20 = .ok (.aload_n 0, 1) := by decide +kernel
theorem dX2_init_21 : decode cX2_init 21 = .ok (.iconst 0, 1) := by decide +kernel
theorem dX2_init_22 : decode cX2_init 22 = .ok (.putfield 18, 3) := by decide +kernel
theorem dX2_init_25 : decode cX2_init 25 = .ok (.return_, 1) := by decide +kernel
theorem dX2_take_0 : decode cX2_take 0 = .ok (.iload_n 1, 1) := by decide +kernel
theorem dX2_take_1 : decode cX2_take 1 = .ok (.ifCond .lt 21, 3) := by decide +kernel
theorem dX2_take_4 : decode cX2_take 4 = .ok (.iload_n 1, 1) := by decide +kernel
theorem dX2_take_5 : decode cX2_take 5 = .ok (.bipush 20, 2) := by decide +kernel
theorem dX2_take_7 : decode cX2_take 7 = .ok (.if_icmp .ge 15, 3) := by decide +kernel
theorem dX2_take_10 : decode cX2_take 10 = .ok (.iload_n 2, 1) := by decide +kernel
theorem dX2_take_11 : decode cX2_take 11 = .ok (.iconst (-1), 1) := by decide +kernel
theorem dX2_take_12 : decode cX2_take 12 = .ok (.if_icmp .lt 10, 3) := by decide +kernel
theorem dX2_take_15 : decode cX2_take 15 = .ok (.iload_n 2, 1) := by decide +kernel
theorem dX2_take_16 : decode cX2_take 16 = .ok (.sipush 400, 3) := by decide +kernel
theorem dX2_take_19 : decode cX2_take 19 = .ok (.if_icmp .le 6, 3) := by decide +kernel
theorem dX2_take_22 : decode cX2_take 22 = .ok (.bipush (-2), 2) := by decide +kernel
theorem dX2_take_24 : decode cX2_take 24 = .ok (.ireturn, 1) := by decide +kernel
theorem dX2_take_25 : decode cX2_take 25 = .ok (.aload_n 0, 1) := by decide +kernel
theorem dX2_take_26 : decode cX2_take 26 = .ok (.getfield 18, 3) := by decide +kernel
theorem dX2_take_29 : decode cX2_take 29 = .ok (.bipush 12, 2) := by decide +kernel
theorem dX2_take_31 : decode cX2_take 31 = .ok (.if_icmp .lt 6, 3) := by decide +kernel
theorem dX2_take_34 : decode cX2_take 34 = .ok (.bipush (-4), 2) := by decide +kernel
theorem dX2_take_36 : decode cX2_take 36 = .ok (.ireturn, 1) := by decide +kernel
theorem dX2_take_37 : decode cX2_take 37 = .ok (.aload_n 0, 1) := by decide +kernel
theorem dX2_take_38 : decode cX2_take 38 = .ok (.getfield 11, 3) := by decide +kernel
theorem dX2_take_41 : decode cX2_take 41 = .ok (.aload_n 0, 1) := by decide +kernel
theorem dX2_take_42 : decode cX2_take 42 = .ok (.getfield 18, 3) := by decide +kernel
theorem dX2_take_45 : decode cX2_take 45 = .ok (.iload_n 1, 1) := by decide +kernel
theorem dX2_take_46 : decode cX2_take 46 = .ok (.iastore, 1) := by decide +kernel
theorem dX2_take_47 : decode cX2_take 47 = .ok (.aload_n 0, 1) := by decide +kernel
theorem dX2_take_48 : decode cX2_take 48 = .ok (.getfield 15, 3) := by decide +kernel
theorem dX2_take_51 : decode cX2_take 51 = .ok (.aload_n 0, 1) := by decide +kernel
theorem dX2_take_52 : decode cX2_take 52 = .ok (.getfield 18, 3) := by decide +kernel
theorem dX2_take_55 : decode cX2_take 55 = .ok (.iload_n 2, 1) := by decide +kernel
theorem dX2_take_56 : decode cX2_take 56 = .ok (.iastore, 1) := by decide +kernel
theorem dX2_take_57 : decode cX2_take 57 = .ok (.aload_n 0, 1) := by decide +kernel
theorem dX2_take_58 : decode cX2_take 58 = .ok (.dup, 1) := by decide +kernel
theorem dX2_take_59 : decode cX2_take 59 = .ok (.getfield 18, 3) := by decide +kernel
theorem dX2_take_62 : decode cX2_take 62 = .ok (.iconst 1, 1) := by decide +kernel
theorem dX2_take_63 : decode cX2_take 63 = .ok (.iadd, 1) := by decide +kernel
theorem dX2_take_64 : decode cX2_take 64 = .ok (.putfield 18, 3) := by decide +kernel
theorem dX2_take_67 : decode cX2_take 67 = .ok (.aload_n 0, 1) := by decide +kernel
theorem dX2_take_68 : decode cX2_take 68 = .ok (.getfield 18, 3) := by decide +kernel
theorem dX2_take_71 : decode cX2_take 71 = .ok (.ireturn, 1) := by decide +kernel
theorem dX2_notSo_0 : decode cX2_notSo 0 = .ok (.iconst 0, 1) := by decide +kernel
theorem dX2_notSo_1 : decode cX2_notSo 1 = .ok (.istore_n 3, 1) := by decide +kernel
theorem dX2_notSo_2 : decode cX2_notSo 2 = .ok (.iconst 0, 1) := by decide +kernel
theorem dX2_notSo_3 : decode cX2_notSo 3 = .ok (.istore 4, 2) := by decide +kernel
theorem dX2_notSo_5 : decode cX2_notSo 5 = .ok (.iload 4, 2) := by decide +kernel
theorem dX2_notSo_7 : decode cX2_notSo 7 = .ok (.aload_n 0, 1) := by decide +kernel
theorem dX2_notSo_8 : decode cX2_notSo 8 = .ok (.getfield 18, 3) := by decide +kernel
theorem dX2_notSo_11 : decode cX2_notSo 11 = .ok (.if_icmp .ge 44, 3) := by decide +kernel
theorem dX2_notSo_14 : decode cX2_notSo 14 = .ok (.iload_n 2, 1) := by decide +kernel
theorem dX2_notSo_15 : decode cX2_notSo 15 = .ok (.aload_n 0, 1) := by decide +kernel
theorem dX2_notSo_16 : decode cX2_notSo 16 = .ok (.getfield 11, 3) := by decide +kernel
theorem dX2_notSo_19 : decode cX2_notSo 19 = .ok (.iload 4, 2) := by decide +kernel
theorem dX2_notSo_21 : decode cX2_notSo 21 = .ok (.iaload, 1) := by decide +kernel
theorem dX2_notSo_22 : decode cX2_notSo 22 = .ok (.iadd, 1) := by decide +kernel
theorem dX2_notSo_23 : decode cX2_notSo 23 = .ok (.istore 5, 2) := by decide +kernel
theorem dX2_notSo_25 : decode cX2_notSo 25 = .ok (.iload 5, 2) := by decide +kernel
theorem dX2_notSo_27 : decode cX2_notSo 27 = .ok (.aload_n 1, 1) := by decide +kernel
theorem dX2_notSo_28 : decode cX2_notSo 28 = .ok (.arraylength, 1) := by decide +kernel
theorem dX2_notSo_29 : decode cX2_notSo 29 = .ok (.if_icmp .ge 17, 3) := by decide +kernel
theorem dX2_notSo_32 : decode cX2_notSo 32 = .ok (.aload_n 1, 1) := by decide +kernel
theorem dX2_notSo_33 : decode cX2_notSo 33 = .ok (.iload 5, 2) := by decide +kernel
theorem dX2_notSo_35 : decode cX2_notSo 35 = .ok (.iaload, 1) := by decide +kernel
theorem dX2_notSo_36 : decode cX2_notSo 36 = .ok (.aload_n 0, 1) := by decide +kernel
theorem dX2_notSo_37 : decode cX2_notSo 37 = .ok (.getfield 15, 3) := by decide +kernel
theorem dX2_notSo_40 : decode cX2_notSo 40 = .ok (.iload 4, 2) := by decide +kernel
theorem dX2_notSo_42 : decode cX2_notSo 42 = .ok (.iaload, 1) := by decide +kernel
theorem dX2_notSo_43 : decode cX2_notSo 43 = .ok (.if_icmp .eq 6, 3) := by decide +kernel
theorem dX2_notSo_46 : decode cX2_notSo 46 = .ok (.iinc 3 1, 3) := by decide +kernel
theorem dX2_notSo_49 : decode cX2_notSo 49 = .ok (.iinc 4 1, 3) := by decide +kernel
theorem dX2_notSo_52 : decode cX2_notSo 52 = .ok (.goto (-47), 3) := by decide +kernel
theorem dX2_notSo_55 : decode cX2_notSo 55 = .ok (.iload_n 3, 1) := by decide +kernel
theorem dX2_notSo_56 : decode cX2_notSo 56 = .ok (.ireturn, 1) := by decide +kernel
theorem dX3_init_0 : decode cX3_init 0 = .ok (.aload_n 0, 1) := by decide +kernel
theorem dX3_init_1 : decode cX3_init 1 = .ok (.invokespecial 3, 3) := by decide +kernel
theorem dX3_init_4 : decode cX3_init 4 = .ok (.aload_n 0, 1) := by decide +kernel
theorem dX3_init_5 : decode cX3_init 5 = .ok (.bipush 20, 2) := by decide +kernel
theorem dX3_init_7 : decode cX3_init 7 = .ok (.newarray .int, 2) := by decide +kernel
theorem dX3_init_9 : decode cX3_init 9 = .ok (.putfield 9, 3) := by decide +kernel
theorem dX3_init_12 : decode cX3_init 12 = .ok (.aload_n 0, 1) := by decide +kernel
theorem dX3_init_13 : decode cX3_init 13 = .ok (.bipush 20, 2) := by decide +kernel
theorem dX3_init_15 : decode cX3_init 15 = .ok (.newarray .int, 2) := by decide +kernel
theorem dX3_init_17 : decode cX3_init 17 = .ok (.putfield 15, 3) := by decide +kernel
theorem dX3_init_20 : decode cX3_init 20 = .ok (.aload_n 0, 1) := by decide +kernel
theorem dX3_init_21 : decode cX3_init 21 = .ok (.bipush 120, 2) := by decide +kernel
theorem dX3_init_23 : decode cX3_init 23 = .ok (.newarray .int, 2) := by decide +kernel
theorem dX3_init_25 : decode cX3_init 25 = .ok (.putfield 18, 3) := by decide +kernel
theorem dX3_init_28 : decode cX3_init 28 = .ok (.aload_n 0, 1) := by decide +kernel
theorem dX3_init_29 : decode cX3_init 29 = .ok (.iconst 0, 1) := by decide +kernel
theorem dX3_init_30 : decode cX3_init 30 = .ok (.putfield 21, 3) := by decide +kernel
theorem dX3_init_33 : decode cX3_init 33 = .ok (.aload_n 0, 1) := by decide +kernel
theorem dX3_init_34 : decode cX3_init 34 = .ok (.iconst 1, 1) := by decide +kernel
theorem dX3_init_35 : decode cX3_init 35 = .ok (.putfield 25, 3) := by decide +kernel
theorem dX3_init_38 : decode cX3_init 38 = .ok (.aload_n 0, 1) := by decide +kernel
theorem dX3_init_39 : decode cX3_init 39 = .ok (.bipush 9, 2) := by decide +kernel
theorem dX3_init_41 : decode cX3_init 41 = .ok (.putfield 28, 3) := by decide +kernel
theorem dX3_init_44 : decode cX3_init 44 = .ok (.aload_n 0, 1) := by decide +kernel
theorem dX3_init_45 : decode cX3_init 45 = .ok (.iconst 0, 1) := by decide +kernel
theorem dX3_init_46 : decode cX3_init 46 = .ok (.putfield 31, 3) := by decide +kernel
theorem dX3_init_49 : decode cX3_init 49 = .ok (.return_, 1) := by decide +kernel
theorem dX3_fewest_0 : decode cX3_fewest 0 = .ok (.iload_n 0, 1) := by decide +kernel
theorem dX3_fewest_1 : decode cX3_fewest 1 = .ok (.iload_n 2, 1) := by decide +kernel
theorem dX3_fewest_2 : decode cX3_fewest 2 = .ok (.isub, 1) := by decide +kernel
theorem dX3_fewest_3 : decode cX3_fewest 3 = .ok (.iconst 0, 1) := by decide +kernel
theorem dX3_fewest_4 : decode cX3_fewest 4 = .ok (.invokestatic 34, 3) := by decide +kernel
theorem dX3_fewest_7 : decode cX3_fewest 7 = .ok (.istore_n 3, 1) := by decide +kernel
theorem dX3_fewest_8 : decode cX3_fewest 8 = .ok (.iload_n 1, 1) := by decide +kernel
theorem dX3_fewest_9 : decode cX3_fewest 9 = .ok (.iconst 1, 1) := by decide +kernel
theorem dX3_fewest_10 : decode cX3_fewest 10 = .ok (.if_icmp .ge 7, 3) := by decide +kernel
theorem dX3_fewest_13 : decode cX3_fewest 13 = .ok (.iconst 0, 1) := by decide +kernel
theorem dX3_fewest_14 : decode cX3_fewest 14 = .ok (.goto 10, 3) := by decide +kernel
theorem dX3_fewest_17 : decode cX3_fewest 17 = .ok (.iload_n 3, 1) := by decide +kernel
theorem dX3_fewest_18 : decode cX3_fewest 18 = .ok (.iload_n 1, 1) := by decide +kernel
theorem dX3_fewest_19 : decode cX3_fewest 19 = .ok (.iadd, 1) := by decide +kernel
theorem dX3_fewest_20 : decode cX3_fewest 20 = .ok (.iconst 1, 1) := by decide +kernel
theorem dX3_fewest_21 : decode cX3_fewest 21 = .ok (.isub, 1) := by decide +kernel
theorem dX3_fewest_22 : decode cX3_fewest 22 = .ok (.iload_n 1, 1) := by decide +kernel
theorem dX3_fewest_23 : decode cX3_fewest 23 = .ok (.idiv, 1) := by decide +kernel
theorem dX3_fewest_24 : decode cX3_fewest 24 = .ok (.ireturn, 1) := by decide +kernel
theorem dX3_most_0 : decode cX3_most 0 = .ok (.iload_n 1, 1) := by decide +kernel
theorem dX3_most_1 : decode cX3_most 1 = .ok (.iconst 1, 1) := by decide +kernel
theorem dX3_most_2 : decode cX3_most 2 = .ok (.if_icmp .ge 7, 3) := by decide +kernel
theorem dX3_most_5 : decode cX3_most 5 = .ok (.iconst 0, 1) := by decide +kernel
theorem dX3_most_6 : decode cX3_most 6 = .ok (.goto 8, 3) := by decide +kernel
theorem dX3_most_9 : decode cX3_most 9 = .ok (.iload_n 0, 1) := by decide +kernel
theorem dX3_most_10 : decode cX3_most 10 = .ok (.iload_n 2, 1) := by decide +kernel
theorem dX3_most_11 : decode cX3_most 11 = .ok (.iadd, 1) := by decide +kernel
theorem dX3_most_12 : decode cX3_most 12 = .ok (.iload_n 1, 1) := by decide +kernel
theorem dX3_most_13 : decode cX3_most 13 = .ok (.idiv, 1) := by decide +kernel
theorem dX3_most_14 : decode cX3_most 14 = .ok (.ireturn, 1) := by decide +kernel
theorem dX3_limitsAsOne_0 : decode cX3_limitsAsOne 0 = .ok (.bipush 100, 2) := by decide +kernel
theorem dX3_limitsAsOne_2 : decode cX3_limitsAsOne 2 = .ok (.aload_n 0, 1) := by decide +kernel
theorem dX3_limitsAsOne_3 : decode cX3_limitsAsOne 3 = .ok (.getfield 25, 3) := by decide +kernel
theorem dX3_limitsAsOne_6 : decode cX3_limitsAsOne 6 = .ok (.imul, 1) := by decide +kernel
theorem dX3_limitsAsOne_7 : decode cX3_limitsAsOne 7 = .ok (.bipush 10, 2) := by decide +kernel
theorem dX3_limitsAsOne_9 : decode cX3_limitsAsOne 9 = .ok (.aload_n 0, 1) := by decide +kernel
theorem dX3_limitsAsOne_10 : decode cX3_limitsAsOne 10 = .ok (.getfield 28, 3) := by decide +kernel
theorem dX3_limitsAsOne_13 : decode cX3_limitsAsOne 13 = .ok (.imul, 1) := by decide +kernel
theorem dX3_limitsAsOne_14 : decode cX3_limitsAsOne 14 = .ok (.iadd, 1) := by decide +kernel
theorem dX3_limitsAsOne_15 : decode cX3_limitsAsOne 15 = .ok (.aload_n 0, 1) := by decide +kernel
theorem dX3_limitsAsOne_16 : decode cX3_limitsAsOne 16 = .ok (.getfield 31, 3) := by decide +kernel
theorem dX3_limitsAsOne_19 : decode cX3_limitsAsOne 19 = .ok (.bipush 9, 2) := by decide +kernel
theorem dX3_limitsAsOne_21 : decode cX3_limitsAsOne 21 = .ok (.invokestatic 40, 3) := by decide +kernel
theorem dX3_limitsAsOne_24 : decode cX3_limitsAsOne 24 = .ok (.iadd, 1) := by decide +kernel
theorem dX3_limitsAsOne_25 : decode cX3_limitsAsOne 25 = .ok (.ireturn, 1) := by decide +kernel
theorem dX3_setLimits_0 : decode cX3_setLimits 0 = .ok (.aload_n 0, 1) := by decide +kernel
theorem dX3_setLimits_1 : decode cX3_setLimits 1 = .ok (.iload_n 1, 1) := by decide +kernel
theorem dX3_setLimits_2 : decode cX3_setLimits 2 = .ok (.putfield 25, 3) := by decide +kernel
theorem dX3_setLimits_5 : decode cX3_setLimits 5 = .ok (.aload_n 0, 1) := by decide +kernel
theorem dX3_setLimits_6 : decode cX3_setLimits 6 = .ok (.iload_n 2, 1) := by decide +kernel
theorem dX3_setLimits_7 : decode cX3_setLimits 7 = .ok (.putfield 28, 3) := by decide +kernel
theorem dX3_setLimits_10 : decode cX3_setLimits 10 = .ok (.aload_n 0, 1) := by decide +kernel
theorem dX3_setLimits_11 : decode cX3_setLimits 11 = .ok (.iload_n 3, 1) := by decide +kernel
theorem dX3_setLimits_12 : decode cX3_setLimits 12 = .ok (.putfield 31, 3) := by decide +kernel
theorem dX3_setLimits_15 : decode cX3_setLimits 15 = .ok (.return_, 1) := by decide +kernel
theorem dX3_gather_0 : decode cX3_gather 0 = .ok (.aload_n 0, 1) := by decide +kernel
theorem dX3_gather_1 : decode cX3_gather 1 = .ok (.iconst 0, 1) := by decide +kernel
theorem dX3_gather_2 : decode cX3_gather 2 = .ok (.putfield 21, 3) := by decide +kernel
theorem dX3_gather_5 : decode cX3_gather 5 = .ok (.iconst 0, 1) := by decide +kernel
theorem dX3_gather_6 : decode cX3_gather 6 = .ok (.istore_n 3, 1) := by decide +kernel
theorem dX3_gather_7 : decode cX3_gather 7 = .ok (.iload_n 3, 1) := by decide +kernel
theorem dX3_gather_8 : decode cX3_gather 8 = .ok (.aload_n 1, 1) := by decide +kernel
theorem dX3_gather_9 : decode cX3_gather 9 = .ok (.getfield 43, 3) := by decide +kernel
theorem dX3_gather_12 : decode cX3_gather 12 = .ok (.if_icmp .ge 65, 3) := by decide +kernel
theorem dX3_gather_15 : decode cX3_gather 15 = .ok (.aload_n 1, 1) := by decide +kernel
theorem dX3_gather_16 : decode cX3_gather 16 = .ok (.getfield 48, 3) := by decide +kernel
theorem dX3_gather_19 : decode cX3_gather 19 = .ok (.iload_n 3, 1) := by decide +kernel
theorem dX3_gather_20 : decode cX3_gather 20 = .ok (.ishr, 1) := by decide +kernel
theorem dX3_gather_21 : decode cX3_gather 21 = .ok (.iconst 1, 1) := by decide +kernel
theorem dX3_gather_22 : decode cX3_gather 22 = .ok (.iand, 1) := by decide +kernel
theorem dX3_gather_23 : decode cX3_gather 23 = .ok (.ifCond .eq 48, 3) := by decide +kernel
theorem dX3_gather_26 : decode cX3_gather 26 = .ok (.aload_n 2, 1) := by decide +kernel
theorem dX3_gather_27 : decode cX3_gather 27 = .ok (.getfield 51, 3) := by decide +kernel
theorem dX3_gather_30 : decode cX3_gather 30 = .ok (.iload_n 3, 1) := by decide +kernel
theorem dX3_gather_31 : decode cX3_gather 31 = .ok (.iaload, 1) := by decide +kernel
theorem dX3_gather_32 : decode cX3_gather 32 = .ok (.iconst (-1), 1) := by decide +kernel
theorem dX3_gather_33 : decode cX3_gather 33 = .ok (.if_icmp .eq 38, 3) := by decide +kernel
theorem dX3_gather_36 : decode cX3_gather 36 = .ok (.aload_n 0, 1) := by decide +kernel
theorem dX3_gather_37 : decode cX3_gather 37 = .ok (.getfield 9, 3) := by decide +kernel
theorem dX3_gather_40 : decode cX3_gather 40 = .ok (.aload_n 0, 1) := by decide +kernel
theorem dX3_gather_41 : decode cX3_gather 41 = .ok (.getfield 21, 3) := by decide +kernel
theorem dX3_gather_44 : decode cX3_gather 44 = .ok (.iload_n 3, 1) := by decide +kernel
theorem dX3_gather_45 : decode cX3_gather 45 = .ok (.iastore, 1) := by decide +kernel
theorem dX3_gather_46 : decode cX3_gather 46 = .ok (.aload_n 0, 1) := by decide +kernel
theorem dX3_gather_47 : decode cX3_gather 47 = .ok (.getfield 15, 3) := by decide +kernel
theorem dX3_gather_50 : decode cX3_gather 50 = .ok (.aload_n 0, 1) := by decide +kernel
theorem dX3_gather_51 : decode cX3_gather 51 = .ok (.getfield 21, 3) := by decide +kernel
theorem dX3_gather_54 : decode cX3_gather 54 = .ok (.aload_n 2, 1) := by decide +kernel
theorem dX3_gather_55 : decode cX3_gather 55 = .ok (.getfield 51, 3) := by decide +kernel
theorem dX3_gather_58 : decode cX3_gather 58 = .ok (.iload_n 3, 1) := by decide +kernel
theorem dX3_gather_59 : decode cX3_gather 59 = .ok (.iaload, 1) := by decide +kernel
theorem dX3_gather_60 : decode cX3_gather 60 = .ok (.iastore, 1) := by decide +kernel
theorem dX3_gather_61 : decode cX3_gather 61 = .ok (.aload_n 0, 1) := by decide +kernel
theorem dX3_gather_62 : decode cX3_gather 62 = .ok (.dup, 1) := by decide +kernel
theorem dX3_gather_63 : decode cX3_gather 63 = .ok (.getfield 21, 3) := by decide +kernel
theorem dX3_gather_66 : decode cX3_gather 66 = .ok (.iconst 1, 1) := by decide +kernel
theorem dX3_gather_67 : decode cX3_gather 67 = .ok (.iadd, 1) := by decide +kernel
theorem dX3_gather_68 : decode cX3_gather 68 = .ok (.putfield 21, 3) := by decide +kernel
theorem dX3_gather_71 : decode cX3_gather 71 = .ok (.iinc 3 1, 3) := by decide +kernel
theorem dX3_gather_74 : decode cX3_gather 74 = .ok (.goto (-67), 3) := by decide +kernel
theorem dX3_gather_77 : decode cX3_gather 77 = .ok (.return_, 1) := by decide +kernel
theorem dX3_hasRoomFor_0 : decode cX3_hasRoomFor 0 = .ok (.iload_n 1, 1) := by decide +kernel
theorem dX3_hasRoomFor_1 : decode cX3_hasRoomFor 1 = .ok (.ifCond .ne 18, 3) := by decide +kernel
theorem dX3_hasRoomFor_4 : decode cX3_hasRoomFor 4 = .ok (.aload_n 0, 1) := by decide +kernel
theorem dX3_hasRoomFor_5 : decode cX3_hasRoomFor 5 = .ok (.getfield 21, 3) := by decide +kernel
theorem dX3_hasRoomFor_8 : decode cX3_hasRoomFor 8 = .ok (.ifCond .le 7, 3) := by decide +kernel
theorem dX3_hasRoomFor_11 : decode cX3_hasRoomFor 11 = .ok (.iconst 1, 1) := by decide +kernel
theorem dX3_hasRoomFor_12 : decode cX3_hasRoomFor 12 = .ok (.goto 22, 3) := by decide +kernel
theorem dX3_hasRoomFor_15 : decode cX3_hasRoomFor 15 = .ok (.iconst 0, 1) := by decide +kernel
theorem dX3_hasRoomFor_16 : decode cX3_hasRoomFor 16 = .ok (.goto 18, 3) := by decide +kernel
theorem dX3_hasRoomFor_19 : decode cX3_hasRoomFor 19 = .ok (.aload_n 0, 1) := by decide +kernel
theorem dX3_hasRoomFor_20 : decode cX3_hasRoomFor 20 = .ok (.getfield 21, 3) := by decide +kernel
theorem dX3_hasRoomFor_23 : decode cX3_hasRoomFor 23 = .ok (.iconst 2, 1) := by decide +kernel
theorem dX3_hasRoomFor_24 : decode cX3_hasRoomFor 24 = .ok (.isub, 1) := by decide +kernel
theorem dX3_hasRoomFor_25 : decode cX3_hasRoomFor 25 = .ok (.iload_n 1, 1) := by decide +kernel
theorem dX3_hasRoomFor_26 : decode cX3_hasRoomFor 26 = .ok (.if_icmp .lt 7, 3) := by decide +kernel
theorem dX3_hasRoomFor_29 : decode cX3_hasRoomFor 29 = .ok (.iconst 1, 1) := by decide +kernel
theorem dX3_hasRoomFor_30 : decode cX3_hasRoomFor 30 = .ok (.goto 4, 3) := by decide +kernel
theorem dX3_hasRoomFor_33 : decode cX3_hasRoomFor 33 = .ok (.iconst 0, 1) := by decide +kernel
theorem dX3_hasRoomFor_34 : decode cX3_hasRoomFor 34 = .ok (.ireturn, 1) := by decide +kernel
theorem dX3_work_0 : decode cX3_work 0 = .ok (.iconst 0, 1) := by decide +kernel
theorem dX3_work_1 : decode cX3_work 1 = .ok (.istore_n 2, 1) := by decide +kernel
theorem dX3_work_2 : decode cX3_work 2 = .ok (.iload_n 2, 1) := by decide +kernel
theorem dX3_work_3 : decode cX3_work 3 = .ok (.aload_n 0, 1) := by decide +kernel
theorem dX3_work_4 : decode cX3_work 4 = .ok (.getfield 21, 3) := by decide +kernel
theorem dX3_work_7 : decode cX3_work 7 = .ok (.if_icmp .ge 26, 3) := by decide +kernel
theorem dX3_work_10 : decode cX3_work 10 = .ok (.aload_n 0, 1) := by decide +kernel
theorem dX3_work_11 : decode cX3_work 11 = .ok (.getfield 18, 3) := by decide +kernel
theorem dX3_work_14 : decode cX3_work 14 = .ok (.iload_n 2, 1) := by decide +kernel
theorem dX3_work_15 : decode cX3_work 15 = .ok (.aload_n 0, 1) := by decide +kernel
theorem dX3_work_16 : decode cX3_work 16 = .ok (.iload_n 2, 1) := by decide +kernel
theorem dX3_work_17 : decode cX3_work 17 = .ok (.aload_n 0, 1) := by decide +kernel
theorem dX3_work_18 : decode cX3_work 18 = .ok (.getfield 21, 3) := by decide +kernel
theorem dX3_work_21 : decode cX3_work 21 = .ok (.iconst 1, 1) := by decide +kernel
theorem dX3_work_22 : decode cX3_work 22 = .ok (.isub, 1) := by decide +kernel
theorem dX3_work_23 : decode cX3_work 23 = .ok (.invokevirtual 56, 3) := by decide +kernel
theorem dX3_work_26 : decode cX3_work 26 = .ok (.iastore, 1) := by decide +kernel
theorem dX3_work_27 : decode cX3_work 27 = .ok (.iinc 2 1, 3) := by decide +kernel
theorem dX3_work_30 : decode cX3_work 30 = .ok (.goto (-28), 3) := by decide +kernel
theorem dX3_work_33 : decode cX3_work 33 = .ok (.iconst 1, 1) := by decide +kernel
theorem dX3_work_34 : decode cX3_work 34 = .ok (.istore_n 2, 1) := by decide +kernel
theorem dX3_work_35 : decode cX3_work 35 = .ok (.iload_n 2, 1) := by decide +kernel
theorem dX3_work_36 : decode cX3_work 36 = .ok (.iload_n 1, 1) := by decide +kernel
theorem dX3_work_37 : decode cX3_work 37 = .ok (.if_icmp .gt 64, 3) := by decide +kernel
theorem dX3_work_40 : decode cX3_work 40 = .ok (.aload_n 0, 1) := by decide +kernel
theorem dX3_work_41 : decode cX3_work 41 = .ok (.iload_n 2, 1) := by decide +kernel
theorem dX3_work_42 : decode cX3_work 42 = .ok (.invokevirtual 59, 3) := by decide +kernel
theorem dX3_work_45 : decode cX3_work 45 = .ok (.ifCond .eq 56, 3) := by decide +kernel
theorem dX3_work_48 : decode cX3_work 48 = .ok (.iconst 0, 1) := by decide +kernel
theorem dX3_work_49 : decode cX3_work 49 = .ok (.istore_n 3, 1) := by decide +kernel
theorem dX3_work_50 : decode cX3_work 50 = .ok (.iload_n 3, 1) := by decide +kernel
theorem dX3_work_51 : decode cX3_work 51 = .ok (.iload_n 2, 1) := by decide +kernel
theorem dX3_work_52 : decode cX3_work 52 = .ok (.iadd, 1) := by decide +kernel
theorem dX3_work_53 : decode cX3_work 53 = .ok (.aload_n 0, 1) := by decide +kernel
theorem dX3_work_54 : decode cX3_work 54 = .ok (.getfield 21, 3) := by decide +kernel
theorem dX3_work_57 : decode cX3_work 57 = .ok (.iconst 1, 1) := by decide +kernel
theorem dX3_work_58 : decode cX3_work 58 = .ok (.isub, 1) := by decide +kernel
theorem dX3_work_59 : decode cX3_work 59 = .ok (.if_icmp .ge 36, 3) := by decide +kernel
theorem dX3_work_62 : decode cX3_work 62 = .ok (.aload_n 0, 1) := by decide +kernel
theorem dX3_work_63 : decode cX3_work 63 = .ok (.iload_n 3, 1) := by decide +kernel
theorem dX3_work_64 : decode cX3_work 64 = .ok (.iload_n 2, 1) := by decide +kernel
theorem dX3_work_65 : decode cX3_work 65 = .ok (.invokevirtual 63, 3) := by decide +kernel
theorem dX3_work_68 : decode cX3_work 68 = .ok (.istore 4, 2) := by decide +kernel
theorem dX3_work_70 : decode cX3_work 70 = .ok (.aload_n 0, 1) := by decide +kernel
theorem dX3_work_71 : decode cX3_work 71 = .ok (.getfield 18, 3) := by decide +kernel
theorem dX3_work_74 : decode cX3_work 74 = .ok (.iload_n 2, 1) := by decide +kernel
theorem dX3_work_75 : decode cX3_work 75 = .ok (.bipush 20, 2) := by decide +kernel
theorem dX3_work_77 : decode cX3_work 77 = .ok (.imul, 1) := by decide +kernel
theorem dX3_work_78 : decode cX3_work 78 = .ok (.iload_n 3, 1) := by decide +kernel
theorem dX3_work_79 : decode cX3_work 79 = .ok (.iadd, 1) := by decide +kernel
theorem dX3_work_80 : decode cX3_work 80 = .ok (.aload_n 0, 1) := by decide +kernel
theorem dX3_work_81 : decode cX3_work 81 = .ok (.iload_n 3, 1) := by decide +kernel
theorem dX3_work_82 : decode cX3_work 82 = .ok (.iload 4, 2) := by decide +kernel
theorem dX3_work_84 : decode cX3_work 84 = .ok (.iload_n 2, 1) := by decide +kernel
theorem dX3_work_85 : decode cX3_work 85 = .ok (.invokevirtual 66, 3) := by decide +kernel
theorem dX3_work_88 : decode cX3_work 88 = .ok (.iastore, 1) := by decide +kernel
theorem dX3_work_89 : decode cX3_work 89 = .ok (.iinc 3 1, 3) := by decide +kernel
theorem dX3_work_92 : decode cX3_work 92 = .ok (.goto (-42), 3) := by decide +kernel
theorem dX3_work_95 : decode cX3_work 95 = .ok (.iinc 2 1, 3) := by decide +kernel
theorem dX3_work_98 : decode cX3_work 98 = .ok (.goto (-63), 3) := by decide +kernel
theorem dX3_work_101 : decode cX3_work 101 = .ok (.return_, 1) := by decide +kernel
theorem dX3_leastDoubt_0 : decode cX3_leastDoubt 0 = .ok (.aload_n 0, 1) := by decide +kernel
theorem dX3_leastDoubt_1 : decode cX3_leastDoubt 1 = .ok (.getfield 18, 3) := by decide +kernel
theorem dX3_leastDoubt_4 : decode cX3_leastDoubt 4 = .ok (.iload_n 1, 1) := by decide +kernel
theorem dX3_leastDoubt_5 : decode cX3_leastDoubt 5 = .ok (.bipush 20, 2) := by decide +kernel
theorem dX3_leastDoubt_7 : decode cX3_leastDoubt 7 = .ok (.imul, 1) := by decide +kernel
theorem dX3_leastDoubt_8 : decode cX3_leastDoubt 8 = .ok (.iaload, 1) := by decide +kernel
theorem dX3_leastDoubt_9 : decode cX3_leastDoubt 9 = .ok (.ireturn, 1) := by decide +kernel
theorem dX3_chosen_0 : decode cX3_chosen 0 = .ok (.iconst 0, 1) := by decide +kernel
theorem dX3_chosen_1 : decode cX3_chosen 1 = .ok (.istore_n 3, 1) := by decide +kernel
theorem dX3_chosen_2 : decode cX3_chosen 2 = .ok (.iconst 0, 1) := by decide +kernel
theorem dX3_chosen_3 : decode cX3_chosen 3 = .ok (.istore 4, 2) := by decide +kernel
theorem dX3_chosen_5 : decode cX3_chosen 5 = .ok (.iload 4, 2) := by decide +kernel
theorem dX3_chosen_7 : decode cX3_chosen 7 = .ok (.iload_n 2, 1) := by decide +kernel
theorem dX3_chosen_8 : decode cX3_chosen 8 = .ok (.if_icmp .gt 25, 3) := by decide +kernel
theorem dX3_chosen_11 : decode cX3_chosen 11 = .ok (.iload 4, 2) := by decide +kernel
theorem dX3_chosen_13 : decode cX3_chosen 13 = .ok (.iload_n 1, 1) := by decide +kernel
theorem dX3_chosen_14 : decode cX3_chosen 14 = .ok (.if_icmp .ge 19, 3) := by decide +kernel
theorem dX3_chosen_17 : decode cX3_chosen 17 = .ok (.aload_n 0, 1) := by decide +kernel
theorem dX3_chosen_18 : decode cX3_chosen 18 = .ok (.iload_n 3, 1) := by decide +kernel
theorem dX3_chosen_19 : decode cX3_chosen 19 = .ok (.iload_n 1, 1) := by decide +kernel
theorem dX3_chosen_20 : decode cX3_chosen 20 = .ok (.iload 4, 2) := by decide +kernel
theorem dX3_chosen_22 : decode cX3_chosen 22 = .ok (.isub, 1) := by decide +kernel
theorem dX3_chosen_23 : decode cX3_chosen 23 = .ok (.invokevirtual 63, 3) := by decide +kernel
theorem dX3_chosen_26 : decode cX3_chosen 26 = .ok (.istore_n 3, 1) := by decide +kernel
theorem dX3_chosen_27 : decode cX3_chosen 27 = .ok (.iinc 4 1, 3) := by decide +kernel
theorem dX3_chosen_30 : decode cX3_chosen 30 = .ok (.goto (-25), 3) := by decide +kernel
theorem dX3_chosen_33 : decode cX3_chosen 33 = .ok (.aload_n 0, 1) := by decide +kernel
theorem dX3_chosen_34 : decode cX3_chosen 34 = .ok (.getfield 9, 3) := by decide +kernel
theorem dX3_chosen_37 : decode cX3_chosen 37 = .ok (.iload_n 3, 1) := by decide +kernel
theorem dX3_chosen_38 : decode cX3_chosen 38 = .ok (.iaload, 1) := by decide +kernel
theorem dX3_chosen_39 : decode cX3_chosen 39 = .ok (.ireturn, 1) := by decide +kernel
theorem dX3_nextPost_0 : decode cX3_nextPost 0 = .ok (.iload_n 1, 1) := by decide +kernel
theorem dX3_nextPost_1 : decode cX3_nextPost 1 = .ok (.iconst 1, 1) := by decide +kernel
theorem dX3_nextPost_2 : decode cX3_nextPost 2 = .ok (.iadd, 1) := by decide +kernel
theorem dX3_nextPost_3 : decode cX3_nextPost 3 = .ok (.istore_n 3, 1) := by decide +kernel
theorem dX3_nextPost_4 : decode cX3_nextPost 4 = .ok (.iload_n 1, 1) := by decide +kernel
theorem dX3_nextPost_5 : decode cX3_nextPost 5 = .ok (.iconst 2, 1) := by decide +kernel
theorem dX3_nextPost_6 : decode cX3_nextPost 6 = .ok (.iadd, 1) := by decide +kernel
theorem dX3_nextPost_7 : decode cX3_nextPost 7 = .ok (.istore 4, 2) := by decide +kernel
theorem dX3_nextPost_9 : decode cX3_nextPost 9 = .ok (.iload 4, 2) := by decide +kernel
theorem dX3_nextPost_11 : decode cX3_nextPost 11 = .ok (.iload_n 2, 1) := by decide +kernel
theorem dX3_nextPost_12 : decode cX3_nextPost 12 = .ok (.iadd, 1) := by decide +kernel
theorem dX3_nextPost_13 : decode cX3_nextPost 13 = .ok (.iconst 1, 1) := by decide +kernel
theorem dX3_nextPost_14 : decode cX3_nextPost 14 = .ok (.isub, 1) := by decide +kernel
theorem dX3_nextPost_15 : decode cX3_nextPost 15 = .ok (.aload_n 0, 1) := by decide +kernel
theorem dX3_nextPost_16 : decode cX3_nextPost 16 = .ok (.getfield 21, 3) := by decide +kernel
theorem dX3_nextPost_19 : decode cX3_nextPost 19 = .ok (.iconst 1, 1) := by decide +kernel
theorem dX3_nextPost_20 : decode cX3_nextPost 20 = .ok (.isub, 1) := by decide +kernel
theorem dX3_nextPost_21 : decode cX3_nextPost 21 = .ok (.if_icmp .ge 30, 3) := by decide +kernel
theorem dX3_nextPost_24 : decode cX3_nextPost 24 = .ok (.aload_n 0, 1) := by decide +kernel
theorem dX3_nextPost_25 : decode cX3_nextPost 25 = .ok (.iload_n 1, 1) := by decide +kernel
theorem dX3_nextPost_26 : decode cX3_nextPost 26 = .ok (.iload 4, 2) := by decide +kernel
theorem dX3_nextPost_28 : decode cX3_nextPost 28 = .ok (.iload_n 2, 1) := by decide +kernel
theorem dX3_nextPost_29 : decode cX3_nextPost 29 = .ok (.invokevirtual 66, 3) := by decide +kernel
theorem dX3_nextPost_32 : decode cX3_nextPost 32 = .ok (.aload_n 0, 1) := by decide +kernel
theorem dX3_nextPost_33 : decode cX3_nextPost 33 = .ok (.iload_n 1, 1) := by decide +kernel
theorem dX3_nextPost_34 : decode cX3_nextPost 34 = .ok (.iload_n 3, 1) := by decide +kernel
theorem dX3_nextPost_35 : decode cX3_nextPost 35 = .ok (.iload_n 2, 1) := by decide +kernel
theorem dX3_nextPost_36 : decode cX3_nextPost 36 = .ok (.invokevirtual 66, 3) := by decide +kernel
theorem dX3_nextPost_39 : decode cX3_nextPost 39 = .ok (.if_icmp .ge 6, 3) := by decide +kernel
theorem dX3_nextPost_42 : decode cX3_nextPost 42 = .ok (.iload 4, 2) := by decide +kernel
theorem dX3_nextPost_44 : decode cX3_nextPost 44 = .ok (.istore_n 3, 1) := by decide +kernel
theorem dX3_nextPost_45 : decode cX3_nextPost 45 = .ok (.iinc 4 1, 3) := by decide +kernel
theorem dX3_nextPost_48 : decode cX3_nextPost 48 = .ok (.goto (-39), 3) := by decide +kernel
theorem dX3_nextPost_51 : decode cX3_nextPost 51 = .ok (.iload_n 3, 1) := by decide +kernel
theorem dX3_nextPost_52 : decode cX3_nextPost 52 = .ok (.ireturn, 1) := by decide +kernel
theorem dX3_throughNext_0 : decode cX3_throughNext 0 = .ok (.aload_n 0, 1) := by decide +kernel
theorem dX3_throughNext_1 : decode cX3_throughNext 1 = .ok (.iload_n 1, 1) := by decide +kernel
theorem dX3_throughNext_2 : decode cX3_throughNext 2 = .ok (.iload_n 2, 1) := by decide +kernel
theorem dX3_throughNext_3 : decode cX3_throughNext 3 = .ok (.invokevirtual 56, 3) := by decide +kernel
theorem dX3_throughNext_6 : decode cX3_throughNext 6 = .ok (.aload_n 0, 1) := by decide +kernel
theorem dX3_throughNext_7 : decode cX3_throughNext 7 = .ok (.getfield 18, 3) := by decide +kernel
theorem dX3_throughNext_10 : decode cX3_throughNext 10 = .ok (.iload_n 3, 1) := by decide +kernel
theorem dX3_throughNext_11 : decode cX3_throughNext 11 = .ok (.iconst 1, 1) := by decide +kernel
theorem dX3_throughNext_12 : decode cX3_throughNext 12 = .ok (.isub, 1) := by decide +kernel
theorem dX3_throughNext_13 : decode cX3_throughNext 13 = .ok (.bipush 20, 2) := by decide +kernel
theorem dX3_throughNext_15 : decode cX3_throughNext 15 = .ok (.imul, 1) := by decide +kernel
theorem dX3_throughNext_16 : decode cX3_throughNext 16 = .ok (.iload_n 2, 1) := by decide +kernel
theorem dX3_throughNext_17 : decode cX3_throughNext 17 = .ok (.iadd, 1) := by decide +kernel
theorem dX3_throughNext_18 : decode cX3_throughNext 18 = .ok (.iaload, 1) := by decide +kernel
theorem dX3_throughNext_19 : decode cX3_throughNext 19 = .ok (.iadd, 1) := by decide +kernel
theorem dX3_throughNext_20 : decode cX3_throughNext 20 = .ok (.ireturn, 1) := by decide +kernel
theorem dX3_gap_0 : decode cX3_gap 0 = .ok (.iload_n 1, 1) := by decide +kernel
theorem dX3_gap_1 : decode cX3_gap 1 = .ok (.iload_n 2, 1) := by decide +kernel
theorem dX3_gap_2 : decode cX3_gap 2 = .ok (.if_icmp .ne 5, 3) := by decide +kernel
theorem dX3_gap_5 : decode cX3_gap 5 = .ok (.iconst 0, 1) := by decide +kernel
theorem dX3_gap_6 : decode cX3_gap 6 = .ok (.ireturn, 1) := by decide +kernel
theorem dX3_gap_7 : decode cX3_gap 7 = .ok (.aload_n 0, 1) := by decide +kernel
theorem dX3_gap_8 : decode cX3_gap 8 = .ok (.getfield 15, 3) := by decide +kernel
theorem dX3_gap_11 : decode cX3_gap 11 = .ok (.iload_n 1, 1) := by decide +kernel
theorem dX3_gap_12 : decode cX3_gap 12 = .ok (.iaload, 1) := by decide +kernel
theorem dX3_gap_13 : decode cX3_gap 13 = .ok (.aload_n 0, 1) := by decide +kernel
theorem dX3_gap_14 : decode cX3_gap 14 = .ok (.getfield 15, 3) := by decide +kernel
theorem dX3_gap_17 : decode cX3_gap 17 = .ok (.iload_n 2, 1) := by decide +kernel
theorem dX3_gap_18 : decode cX3_gap 18 = .ok (.iaload, 1) := by decide +kernel
theorem dX3_gap_19 : decode cX3_gap 19 = .ok (.isub, 1) := by decide +kernel
theorem dX3_gap_20 : decode cX3_gap 20 = .ok (.invokestatic 70, 3) := by decide +kernel
theorem dX3_gap_23 : decode cX3_gap 23 = .ok (.istore_n 3, 1) := by decide +kernel
theorem dX3_gap_24 : decode cX3_gap 24 = .ok (.iload_n 3, 1) := by decide +kernel
theorem dX3_gap_25 : decode cX3_gap 25 = .ok (.aload_n 0, 1) := by decide +kernel
theorem dX3_gap_26 : decode cX3_gap 26 = .ok (.getfield 25, 3) := by decide +kernel
theorem dX3_gap_29 : decode cX3_gap 29 = .ok (.aload_n 0, 1) := by decide +kernel
theorem dX3_gap_30 : decode cX3_gap 30 = .ok (.getfield 31, 3) := by decide +kernel
theorem dX3_gap_33 : decode cX3_gap 33 = .ok (.invokestatic 74, 3) := by decide +kernel
theorem dX3_gap_36 : decode cX3_gap 36 = .ok (.iload_n 3, 1) := by decide +kernel
theorem dX3_gap_37 : decode cX3_gap 37 = .ok (.aload_n 0, 1) := by decide +kernel
theorem dX3_gap_38 : decode cX3_gap 38 = .ok (.getfield 28, 3) := by decide +kernel
theorem dX3_gap_41 : decode cX3_gap 41 = .ok (.aload_n 0, 1) := by decide +kernel
theorem dX3_gap_42 : decode cX3_gap 42 = .ok (.getfield 31, 3) := by decide +kernel
theorem dX3_gap_45 : decode cX3_gap 45 = .ok (.invokestatic 77, 3) := by decide +kernel
theorem dX3_gap_48 : decode cX3_gap 48 = .ok (.isub, 1) := by decide +kernel
theorem dX3_gap_49 : decode cX3_gap 49 = .ok (.iconst 0, 1) := by decide +kernel
theorem dX3_gap_50 : decode cX3_gap 50 = .ok (.invokestatic 34, 3) := by decide +kernel
theorem dX3_gap_53 : decode cX3_gap 53 = .ok (.ireturn, 1) := by decide +kernel
theorem dX4_init_0 : decode cX4_init 0 = .ok (.aload_n 0, 1) := by decide +kernel
theorem dX4_init_1 : decode cX4_init 1 = .ok (.invokespecial 3, 3) := by decide +kernel
theorem dX4_init_4 : decode cX4_init 4 = .ok (.aload_n 0, 1) := by decide +kernel
theorem dX4_init_5 : decode cX4_init 5 = .ok (.bipush 8, 2) := by decide +kernel
theorem dX4_init_7 : decode cX4_init 7 = .ok (.newarray .int, 2) := by decide +kernel
theorem dX4_init_9 : decode cX4_init 9 = .ok (.putfield 11, 3) := by decide +kernel
theorem dX4_init_12 : decode cX4_init 12 = .ok (.aload_n 0, 1) := by decide +kernel
theorem dX4_init_13 : decode cX4_init 13 = .ok (.bipush 8, 2) := by decide +kernel
theorem dX4_init_15 : decode cX4_init 15 = .ok (.newarray .int, 2) := by decide +kernel
theorem dX4_init_17 : decode cX4_init 17 = .ok (.putfield 15, 3) := by decide +kernel
theorem dX4_init_20 : decode cX4_init 20 = .ok (.aload_n 0, 1) := by decide +kernel
theorem dX4_init_21 : decode cX4_init 21 = .ok (.bipush 100, 2) := by decide +kernel
theorem dX4_init_23 : decode cX4_init 23 = .ok (.newarray .int, 2) := by decide +kernel
theorem dX4_init_25 : decode cX4_init 25 = .ok (.putfield 18, 3) := by decide +kernel
theorem dX4_init_28 : decode cX4_init 28 = .ok (.aload_n 0, 1) := by decide +kernel
theorem dX4_init_29 : decode cX4_init 29 = .ok (.bipush 8, 2) := by decide +kernel
theorem dX4_init_31 : decode cX4_init 31 = .ok (.newarray .int, 2) := by decide +kernel
theorem dX4_init_33 : decode cX4_init 33 = .ok (.putfield 21, 3) := by decide +kernel
theorem dX4_init_36 : decode cX4_init 36 = .ok (.aload_n 0, 1) := by decide +kernel
theorem dX4_init_37 : decode cX4_init 37 = .ok (.iconst 0, 1) := by decide +kernel
theorem dX4_init_38 : decode cX4_init 38 = .ok (.putfield 24, 3) := by decide +kernel
theorem dX4_init_41 : decode cX4_init 41 = .ok (.return_, 1) := by decide +kernel
theorem dX4_add_0 : decode cX4_add 0 = .ok (.iload_n 1, 1) := by decide +kernel
theorem dX4_add_1 : decode cX4_add 1 = .ok (.invokestatic 28, 3) := by decide +kernel
theorem dX4_add_4 : decode cX4_add 4 = .ok (.ifCond .eq 14, 3) := by decide +kernel
theorem dX4_add_7 : decode cX4_add 7 = .ok (.iload_n 2, 1) := by decide +kernel
theorem dX4_add_8 : decode cX4_add 8 = .ok (.ifCond .lt 10, 3) := by decide +kernel
theorem dX4_add_11 : decode cX4_add 11 = .ok (.iload_n 2, 1) := by decide +kernel
theorem dX4_add_12 : decode cX4_add 12 = .ok (.sipush 9999, 3) := by decide +kernel
theorem dX4_add_15 : decode cX4_add 15 = .ok (.if_icmp .le 6, 3) := by decide +kernel
theorem dX4_add_18 : decode cX4_add 18 = .ok (.bipush (-2), 2) := by decide +kernel
theorem dX4_add_20 : decode cX4_add 20 = .ok (.ireturn, 1) := by decide +kernel
theorem dX4_add_21 : decode cX4_add 21 = .ok (.aload_n 0, 1) := by decide +kernel
theorem dX4_add_22 : decode cX4_add 22 = .ok (.getfield 24, 3) := by decide +kernel
theorem dX4_add_25 : decode cX4_add 25 = .ok (.bipush 8, 2) := by decide +kernel
theorem dX4_add_27 : decode cX4_add 27 = .ok (.if_icmp .lt 6, 3) := by decide +kernel
theorem dX4_add_30 : decode cX4_add 30 = .ok (.bipush (-4), 2) := by decide +kernel
theorem dX4_add_32 : decode cX4_add 32 = .ok (.ireturn, 1) := by decide +kernel
theorem dX4_add_33 : decode cX4_add 33 = .ok (.aload_n 0, 1) := by decide +kernel
theorem dX4_add_34 : decode cX4_add 34 = .ok (.getfield 11, 3) := by decide +kernel
theorem dX4_add_37 : decode cX4_add 37 = .ok (.aload_n 0, 1) := by decide +kernel
theorem dX4_add_38 : decode cX4_add 38 = .ok (.getfield 24, 3) := by decide +kernel
theorem dX4_add_41 : decode cX4_add 41 = .ok (.iload_n 1, 1) := by decide +kernel
theorem dX4_add_42 : decode cX4_add 42 = .ok (.iastore, 1) := by decide +kernel
theorem dX4_add_43 : decode cX4_add 43 = .ok (.aload_n 0, 1) := by decide +kernel
theorem dX4_add_44 : decode cX4_add 44 = .ok (.getfield 15, 3) := by decide +kernel
theorem dX4_add_47 : decode cX4_add 47 = .ok (.aload_n 0, 1) := by decide +kernel
theorem dX4_add_48 : decode cX4_add 48 = .ok (.getfield 24, 3) := by decide +kernel
theorem dX4_add_51 : decode cX4_add 51 = .ok (.iload_n 2, 1) := by decide +kernel
theorem dX4_add_52 : decode cX4_add 52 = .ok (.iastore, 1) := by decide +kernel
theorem dX4_add_53 : decode cX4_add 53 = .ok (.aload_n 0, 1) := by decide +kernel
theorem dX4_add_54 : decode cX4_add 54 = .ok (.dup, 1) := by decide +kernel
theorem dX4_add_55 : decode cX4_add 55 = .ok (.getfield 24, 3) := by decide +kernel
theorem dX4_add_58 : decode cX4_add 58 = .ok (.iconst 1, 1) := by decide +kernel
theorem dX4_add_59 : decode cX4_add 59 = .ok (.iadd, 1) := by decide +kernel
theorem dX4_add_60 : decode cX4_add 60 = .ok (.putfield 24, 3) := by decide +kernel
theorem dX4_add_63 : decode cX4_add 63 = .ok (.aload_n 0, 1) := by decide +kernel
theorem dX4_add_64 : decode cX4_add 64 = .ok (.getfield 24, 3) := by decide +kernel
theorem dX4_add_67 : decode cX4_add 67 = .ok (.iconst 1, 1) := by decide +kernel
theorem dX4_add_68 : decode cX4_add 68 = .ok (.isub, 1) := by decide +kernel
theorem dX4_add_69 : decode cX4_add 69 = .ok (.ireturn, 1) := by decide +kernel
theorem dX4_setBirths_0 : decode cX4_setBirths 0 = .ok (.iload_n 1, 1) := by decide +kernel
theorem dX4_setBirths_1 : decode cX4_setBirths 1 = .ok (.invokestatic 28, 3) := by decide +kernel
theorem dX4_setBirths_4 : decode cX4_setBirths 4 = .ok (.ifCond .eq 14, 3) := by decide +kernel
theorem dX4_setBirths_7 : decode cX4_setBirths 7 = .ok (.iload_n 2, 1) := by decide +kernel
theorem dX4_setBirths_8 : decode cX4_setBirths 8 = .ok (.ifCond .lt 10, 3) := by decide +kernel
theorem dX4_setBirths_11 : decode cX4_setBirths 11 = .ok (.iload_n 2, 1) := by decide +kernel
theorem dX4_setBirths_12 : decode cX4_setBirths 12 = .ok (.sipush 999, 3) := by decide +kernel
theorem dX4_setBirths_15 : decode cX4_setBirths 15 = .ok (.if_icmp .le 6, 3) := by decide +kernel
theorem dX4_setBirths_18 : decode cX4_setBirths 18 = .ok (.bipush (-2), 2) := by decide +kernel
theorem dX4_setBirths_20 : decode cX4_setBirths 20 = .ok (.ireturn, 1) := by decide +kernel
theorem dX4_setBirths_21 : decode cX4_setBirths 21 = .ok (.aload_n 0, 1) := by decide +kernel
theorem dX4_setBirths_22 : decode cX4_setBirths 22 = .ok (.getfield 18, 3) := by decide +kernel
theorem dX4_setBirths_25 : decode cX4_setBirths 25 = .ok (.iload_n 1, 1) := by decide +kernel
theorem dX4_setBirths_26 : decode cX4_setBirths 26 = .ok (.iaload, 1) := by decide +kernel
theorem dX4_setBirths_27 : decode cX4_setBirths 27 = .ok (.istore_n 3, 1) := by decide +kernel
theorem dX4_setBirths_28 : decode cX4_setBirths 28 = .ok (.aload_n 0, 1) := by decide +kernel
theorem dX4_setBirths_29 : decode cX4_setBirths 29 = .ok (.getfield 18, 3) := by decide +kernel
theorem dX4_setBirths_32 : decode cX4_setBirths 32 = .ok (.iload_n 1, 1) := by decide +kernel
theorem dX4_setBirths_33 : decode cX4_setBirths 33 = .ok (.iload_n 2, 1) := by decide +kernel
theorem dX4_setBirths_34 : decode cX4_setBirths 34 = .ok (.iastore, 1) := by decide +kernel
theorem dX4_setBirths_35 : decode cX4_setBirths 35 = .ok (.iload_n 3, 1) := by decide +kernel
theorem dX4_setBirths_36 : decode cX4_setBirths 36 = .ok (.ireturn, 1) := by decide +kernel
theorem dX4_isYear_0 : decode cX4_isYear 0 = .ok (.iload_n 0, 1) := by decide +kernel
theorem dX4_isYear_1 : decode cX4_isYear 1 = .ok (.ifCond .lt 13, 3) := by decide +kernel
theorem dX4_isYear_4 : decode cX4_isYear 4 = .ok (.iload_n 0, 1) := by decide +kernel
theorem dX4_isYear_5 : decode cX4_isYear 5 = .ok (.bipush 100, 2) := by decide +kernel
theorem dX4_isYear_7 : decode cX4_isYear 7 = .ok (.if_icmp .ge 7, 3) := by decide +kernel
theorem dX4_isYear_10 : decode cX4_isYear 10 = .ok (.iconst 1, 1) := by decide +kernel
theorem dX4_isYear_11 : decode cX4_isYear 11 = .ok (.goto 4, 3) := by decide +kernel
theorem dX4_isYear_14 : decode cX4_isYear 14 = .ok (.iconst 0, 1) := by decide +kernel
theorem dX4_isYear_15 : decode cX4_isYear 15 = .ok (.ireturn, 1) := by decide +kernel
theorem dX4_isCensus_0 : decode cX4_isCensus 0 = .ok (.iload_n 1, 1) := by decide +kernel
theorem dX4_isCensus_1 : decode cX4_isCensus 1 = .ok (.ifCond .lt 15, 3) := by decide +kernel
theorem dX4_isCensus_4 : decode cX4_isCensus 4 = .ok (.iload_n 1, 1) := by decide +kernel
theorem dX4_isCensus_5 : decode cX4_isCensus 5 = .ok (.aload_n 0, 1) := by decide +kernel
theorem dX4_isCensus_6 : decode cX4_isCensus 6 = .ok (.getfield 24, 3) := by decide +kernel
theorem dX4_isCensus_9 : decode cX4_isCensus 9 = .ok (.if_icmp .ge 7, 3) := by decide +kernel
theorem dX4_isCensus_12 : decode cX4_isCensus 12 = .ok (.iconst 1, 1) := by decide +kernel
theorem dX4_isCensus_13 : decode cX4_isCensus 13 = .ok (.goto 4, 3) := by decide +kernel
theorem dX4_isCensus_16 : decode cX4_isCensus 16 = .ok (.iconst 0, 1) := by decide +kernel
theorem dX4_isCensus_17 : decode cX4_isCensus 17 = .ok (.ireturn, 1) := by decide +kernel
theorem dX4_birthsOf_0 : decode cX4_birthsOf 0 = .ok (.iconst 0, 1) := by decide +kernel
theorem dX4_birthsOf_1 : decode cX4_birthsOf 1 = .ok (.istore_n 3, 1) := by decide +kernel
theorem dX4_birthsOf_2 : decode cX4_birthsOf 2 = .ok (.iload_n 1, 1) := by decide +kernel
theorem dX4_birthsOf_3 : decode cX4_birthsOf 3 = .ok (.istore 4, 2) := by decide +kernel
theorem dX4_birthsOf_5 : decode cX4_birthsOf 5 = .ok (.iload 4, 2) := by decide +kernel
theorem dX4_birthsOf_7 : decode cX4_birthsOf 7 = .ok (.iload_n 2, 1) := by decide +kernel
theorem dX4_birthsOf_8 : decode cX4_birthsOf 8 = .ok (.if_icmp .ge 26, 3) := by decide +kernel
theorem dX4_birthsOf_11 : decode cX4_birthsOf 11 = .ok (.iload 4, 2) := by decide +kernel
theorem dX4_birthsOf_13 : decode cX4_birthsOf 13 = .ok (.bipush 100, 2) := by decide +kernel
theorem dX4_birthsOf_15 : decode cX4_birthsOf 15 = .ok (.if_icmp .ge 19, 3) := by decide +kernel
theorem dX4_birthsOf_18 : decode cX4_birthsOf 18 = .ok (.iload_n 3, 1) := by decide +kernel
theorem dX4_birthsOf_19 : decode cX4_birthsOf 19 = .ok (.aload_n 0, 1) := by decide +kernel
theorem dX4_birthsOf_20 : decode cX4_birthsOf 20 = .ok (.getfield 18, 3) := by decide +kernel
theorem dX4_birthsOf_23 : decode cX4_birthsOf 23 = .ok (.iload 4, 2) := by decide +kernel
theorem dX4_birthsOf_25 : decode cX4_birthsOf 25 = .ok (.iaload, 1) := by decide +kernel
theorem dX4_birthsOf_26 : decode cX4_birthsOf 26 = .ok (.iadd, 1) := by decide +kernel
theorem dX4_birthsOf_27 : decode cX4_birthsOf 27 = .ok (.istore_n 3, 1) := by decide +kernel
theorem dX4_birthsOf_28 : decode cX4_birthsOf 28 = .ok (.iinc 4 1, 3) := by decide +kernel
theorem dX4_birthsOf_31 : decode cX4_birthsOf 31 = .ok (.goto (-26), 3) := by decide +kernel
theorem dX4_birthsOf_34 : decode cX4_birthsOf 34 = .ok (.iload_n 3, 1) := by decide +kernel
theorem dX4_birthsOf_35 : decode cX4_birthsOf 35 = .ok (.ireturn, 1) := by decide +kernel
theorem dX4_cannotBoth_0 : decode cX4_cannotBoth 0 = .ok (.aload_n 0, 1) := by decide +kernel
theorem dX4_cannotBoth_1 : decode cX4_cannotBoth 1 = .ok (.getfield 11, 3) := by decide +kernel
theorem dX4_cannotBoth_4 : decode cX4_cannotBoth 4 = .ok (.iload_n 1, 1) := by decide +kernel
theorem dX4_cannotBoth_5 : decode cX4_cannotBoth 5 = .ok (.iaload, 1) := by decide +kernel
theorem dX4_cannotBoth_6 : decode cX4_cannotBoth 6 = .ok (.aload_n 0, 1) := by decide +kernel
theorem dX4_cannotBoth_7 : decode cX4_cannotBoth 7 = .ok (.getfield 11, 3) := by decide +kernel
theorem dX4_cannotBoth_10 : decode cX4_cannotBoth 10 = .ok (.iload_n 2, 1) := by decide +kernel
theorem dX4_cannotBoth_11 : decode cX4_cannotBoth 11 = .ok (.iaload, 1) := by decide +kernel
theorem dX4_cannotBoth_12 : decode cX4_cannotBoth 12 = .ok (.if_icmp .ne 24, 3) := by decide +kernel
theorem dX4_cannotBoth_15 : decode cX4_cannotBoth 15 = .ok (.aload_n 0, 1) := by decide +kernel
theorem dX4_cannotBoth_16 : decode cX4_cannotBoth 16 = .ok (.getfield 15, 3) := by decide +kernel
theorem dX4_cannotBoth_19 : decode cX4_cannotBoth 19 = .ok (.iload_n 1, 1) := by decide +kernel
theorem dX4_cannotBoth_20 : decode cX4_cannotBoth 20 = .ok (.iaload, 1) := by decide +kernel
theorem dX4_cannotBoth_21 : decode cX4_cannotBoth 21 = .ok (.aload_n 0, 1) := by decide +kernel
theorem dX4_cannotBoth_22 : decode cX4_cannotBoth 22 = .ok (.getfield 15, 3) := by decide +kernel
theorem dX4_cannotBoth_25 : decode cX4_cannotBoth 25 = .ok (.iload_n 2, 1) := by decide +kernel
theorem dX4_cannotBoth_26 : decode cX4_cannotBoth 26 = .ok (.iaload, 1) := by decide +kernel
theorem dX4_cannotBoth_27 : decode cX4_cannotBoth 27 = .ok (.if_icmp .eq 7, 3) := by decide +kernel
theorem dX4_cannotBoth_30 : decode cX4_cannotBoth 30 = .ok (.iconst 1, 1) := by decide +kernel
theorem dX4_cannotBoth_31 : decode cX4_cannotBoth 31 = .ok (.goto 4, 3) := by decide +kernel
theorem dX4_cannotBoth_34 : decode cX4_cannotBoth 34 = .ok (.iconst 0, 1) := by decide +kernel
theorem dX4_cannotBoth_35 : decode cX4_cannotBoth 35 = .ok (.ireturn, 1) := by decide +kernel
theorem dX4_cannotBoth_36 : decode cX4_cannotBoth 36 = .ok (.aload_n 0, 1) := by decide +kernel
theorem dX4_cannotBoth_37 : decode cX4_cannotBoth 37 = .ok (.getfield 11, 3) := by decide +kernel
theorem dX4_cannotBoth_40 : decode cX4_cannotBoth 40 = .ok (.iload_n 1, 1) := by decide +kernel
theorem dX4_cannotBoth_41 : decode cX4_cannotBoth 41 = .ok (.iaload, 1) := by decide +kernel
theorem dX4_cannotBoth_42 : decode cX4_cannotBoth 42 = .ok (.aload_n 0, 1) := by decide +kernel
theorem dX4_cannotBoth_43 : decode cX4_cannotBoth 43 = .ok (.getfield 11, 3) := by decide +kernel
theorem dX4_cannotBoth_46 : decode cX4_cannotBoth 46 = .ok (.iload_n 2, 1) := by decide +kernel
theorem dX4_cannotBoth_47 : decode cX4_cannotBoth 47 = .ok (.iaload, 1) := by decide +kernel
theorem dX4_cannotBoth_48 : decode cX4_cannotBoth 48 = .ok (.if_icmp .ge 7, 3) := by decide +kernel
theorem dX4_cannotBoth_51 : decode cX4_cannotBoth 51 = .ok (.iload_n 1, 1) := by decide +kernel
theorem dX4_cannotBoth_52 : decode cX4_cannotBoth 52 = .ok (.goto 4, 3) := by decide +kernel
theorem dX4_cannotBoth_55 : decode cX4_cannotBoth 55 = .ok (.iload_n 2, 1) := by decide +kernel
theorem dX4_cannotBoth_56 : decode cX4_cannotBoth 56 = .ok (.istore_n 3, 1) := by decide +kernel
theorem dX4_cannotBoth_57 : decode cX4_cannotBoth 57 = .ok (.iload_n 3, 1) := by decide +kernel
theorem dX4_cannotBoth_58 : decode cX4_cannotBoth 58 = .ok (.iload_n 1, 1) := by decide +kernel
theorem dX4_cannotBoth_59 : decode cX4_cannotBoth 59 = .ok (.if_icmp .ne 7, 3) := by decide +kernel
theorem dX4_cannotBoth_62 : decode cX4_cannotBoth 62 = .ok (.iload_n 2, 1) := by decide +kernel
theorem dX4_cannotBoth_63 : decode cX4_cannotBoth 63 = .ok (.goto 4, 3) := by decide +kernel
theorem dX4_cannotBoth_66 : decode cX4_cannotBoth 66 = .ok (.iload_n 1, 1) := by decide +kernel
theorem dX4_cannotBoth_67 : decode cX4_cannotBoth 67 = .ok (.istore 4, 2) := by decide +kernel
theorem dX4_cannotBoth_69 : decode cX4_cannotBoth 69 = .ok (.aload_n 0, 1) := by decide +kernel
theorem dX4_cannotBoth_70 : decode cX4_cannotBoth 70 = .ok (.getfield 15, 3) := by decide +kernel
theorem dX4_cannotBoth_73 : decode cX4_cannotBoth 73 = .ok (.iload 4, 2) := by decide +kernel
theorem dX4_cannotBoth_75 : decode cX4_cannotBoth 75 = .ok (.iaload, 1) := by decide +kernel
theorem dX4_cannotBoth_76 : decode cX4_cannotBoth 76 = .ok (.aload_n 0, 1) := by decide +kernel
theorem dX4_cannotBoth_77 : decode cX4_cannotBoth 77 = .ok (.getfield 15, 3) := by decide +kernel
theorem dX4_cannotBoth_80 : decode cX4_cannotBoth 80 = .ok (.iload_n 3, 1) := by decide +kernel
theorem dX4_cannotBoth_81 : decode cX4_cannotBoth 81 = .ok (.iaload, 1) := by decide +kernel
theorem dX4_cannotBoth_82 : decode cX4_cannotBoth 82 = .ok (.aload_n 0, 1) := by decide +kernel
theorem dX4_cannotBoth_83 : decode cX4_cannotBoth 83 = .ok (.aload_n 0, 1) := by decide +kernel
theorem dX4_cannotBoth_84 : decode cX4_cannotBoth 84 = .ok (.getfield 11, 3) := by decide +kernel
theorem dX4_cannotBoth_87 : decode cX4_cannotBoth 87 = .ok (.iload_n 3, 1) := by decide +kernel
theorem dX4_cannotBoth_88 : decode cX4_cannotBoth 88 = .ok (.iaload, 1) := by decide +kernel
theorem dX4_cannotBoth_89 : decode cX4_cannotBoth 89 = .ok (.aload_n 0, 1) := by decide +kernel
theorem dX4_cannotBoth_90 : decode cX4_cannotBoth 90 = .ok (.getfield 11, 3) := by decide +kernel
theorem dX4_cannotBoth_93 : decode cX4_cannotBoth 93 = .ok (.iload 4, 2) := by decide +kernel
theorem dX4_cannotBoth_95 : decode cX4_cannotBoth 95 = .ok (.iaload, 1) := by decide +kernel
theorem dX4_cannotBoth_96 : decode cX4_cannotBoth 96 = .ok (.invokevirtual 32, 3) := by decide +kernel
theorem dX4_cannotBoth_99 : decode cX4_cannotBoth 99 = .ok (.iadd, 1) := by decide +kernel
theorem dX4_cannotBoth_100 : decode cX4_cannotBoth 100 = .ok (.if_icmp .le 7, 3) := by decide +kernel
theorem dX4_cannotBoth_103 : decode cX4_cannotBoth 103 = .ok (.iconst 1, 1) := by decide +kernel
theorem dX4_cannotBoth_104 : decode cX4_cannotBoth 104 = .ok (.goto 4, 3) := by decide +kernel
theorem dX4_cannotBoth_107 : decode cX4_cannotBoth 107 = .ok (.iconst 0, 1) := by decide +kernel
theorem dX4_cannotBoth_108 : decode cX4_cannotBoth 108 = .ok (.ireturn, 1) := by decide +kernel
theorem dX4_findConflicts_0 : decode cX4_findConflicts 0 = .ok (.aload_n 0, 1) := by decide +kernel
theorem dX4_findConflicts_1 : decode cX4_findConflicts 1 = .ok (.getfield 21, 3) := by decide +kernel
theorem dX4_findConflicts_4 : decode cX4_findConflicts 4 = .ok (.iconst 0, 1) := by decide +kernel
theorem dX4_findConflicts_5 : decode cX4_findConflicts 5 = .ok (.invokestatic 36, 3) := by decide +kernel
theorem dX4_findConflicts_8 : decode cX4_findConflicts 8 = .ok (.iconst 0, 1) := by decide +kernel
theorem dX4_findConflicts_9 : decode cX4_findConflicts 9 = .ok (.istore_n 1, 1) := by decide +kernel
theorem dX4_findConflicts_10 : decode cX4_findConflicts 10 = .ok (.iload_n 1, 1) := by decide +kernel
theorem dX4_findConflicts_11 : decode cX4_findConflicts 11 = .ok (.aload_n 0, 1) := by decide +kernel
theorem dX4_findConflicts_12 : decode cX4_findConflicts 12 = .ok (.getfield 24, 3) := by decide +kernel
theorem dX4_findConflicts_15 : decode cX4_findConflicts 15 = .ok (.if_icmp .ge 55, 3) := by decide +kernel
theorem dX4_findConflicts_18 : decode cX4_findConflicts 18 = .ok (.iconst 0, 1) := by decide +kernel
theorem dX4_findConflicts_19 : decode cX4_findConflicts 19 = .ok (.istore_n 2, 1) := by decide +kernel
theorem dX4_findConflicts_20 : decode cX4_findConflicts 20 = .ok (.iload_n 2, 1) := by decide +kernel
theorem dX4_findConflicts_21 : decode cX4_findConflicts 21 = .ok (.iload_n 1, 1) := by decide +kernel
theorem dX4_findConflicts_22 : decode cX4_findConflicts 22 = .ok (.if_icmp .ge 42, 3) := by decide +kernel
theorem dX4_findConflicts_25 : decode cX4_findConflicts 25 = .ok (.aload_n 0, 1) := by decide +kernel
theorem dX4_findConflicts_26 : decode cX4_findConflicts 26 = .ok (.iload_n 1, 1) := by decide +kernel
theorem dX4_findConflicts_27 : decode cX4_findConflicts 27 = .ok (.iload_n 2, 1) := by decide +kernel
theorem dX4_findConflicts_28 : decode cX4_findConflicts 28 = .ok (.invokevirtual 42, 3) := by decide +kernel
theorem dX4_findConflicts_31 : decode cX4_findConflicts 31 = .ok (.ifCond .eq 27, 3) := by decide +kernel
theorem dX4_findConflicts_34 : decode cX4_findConflicts 34 = .ok (.aload_n 0, 1) := by decide +kernel
theorem dX4_findConflicts_35 : decode cX4_findConflicts 35 = .ok (.getfield 21, 3) := by decide +kernel
theorem dX4_findConflicts_38 : decode cX4_findConflicts 38 = .ok (.iload_n 1, 1) := by decide +kernel
theorem dX4_findConflicts_39 : decode cX4_findConflicts 39 = .ok (.dup2, 1) := by decide +kernel
theorem dX4_findConflicts_40 : decode cX4_findConflicts 40 = .ok (.iaload, 1) := by decide +kernel
theorem dX4_findConflicts_41 : decode cX4_findConflicts 41 = .ok (.iconst 1, 1) := by decide +kernel
theorem dX4_findConflicts_42 : decode cX4_findConflicts 42 = .ok (.iload_n 2, 1) := by decide +kernel
theorem dX4_findConflicts_43 : decode cX4_findConflicts 43 = .ok (.ishl, 1) := by decide +kernel
theorem dX4_findConflicts_44 : decode cX4_findConflicts 44 = .ok (.ior, 1) := by decide +kernel
theorem dX4_findConflicts_45 : decode cX4_findConflicts 45 = .ok (.iastore, 1) := by decide +kernel
theorem dX4_findConflicts_46 : decode cX4_findConflicts 46 = .ok (.aload_n 0, 1) := by decide +kernel
theorem dX4_findConflicts_47 : decode cX4_findConflicts 47 = .ok (.getfield 21, 3) := by decide +kernel
theorem dX4_findConflicts_50 : decode cX4_findConflicts 50 = .ok (.iload_n 2, 1) := by decide +kernel
theorem dX4_findConflicts_51 : decode cX4_findConflicts 51 = .ok (.dup2, 1) := by decide +kernel
theorem dX4_findConflicts_52 : decode cX4_findConflicts 52 = .ok (.iaload, 1) := by decide +kernel
theorem dX4_findConflicts_53 : decode cX4_findConflicts 53 = .ok (.iconst 1, 1) := by decide +kernel
theorem dX4_findConflicts_54 : decode cX4_findConflicts 54 = .ok (.iload_n 1, 1) := by decide +kernel
theorem dX4_findConflicts_55 : decode cX4_findConflicts 55 = .ok (.ishl, 1) := by decide +kernel
theorem dX4_findConflicts_56 : decode cX4_findConflicts 56 = .ok (.ior, 1) := by decide +kernel
theorem dX4_findConflicts_57 : decode cX4_findConflicts 57 = .ok (.iastore, 1) := by decide +kernel
theorem dX4_findConflicts_58 : decode cX4_findConflicts 58 = .ok (.iinc 2 1, 3) := by decide +kernel
theorem dX4_findConflicts_61 : decode cX4_findConflicts 61 = .ok (.goto (-41), 3) := by decide +kernel
theorem dX4_findConflicts_64 : decode cX4_findConflicts 64 = .ok (.iinc 1 1, 3) := by decide +kernel
theorem dX4_findConflicts_67 : decode cX4_findConflicts 67 = .ok (.goto (-57), 3) := by decide +kernel
theorem dX4_findConflicts_70 : decode cX4_findConflicts 70 = .ok (.return_, 1) := by decide +kernel
theorem dX4_pairs_0 : decode cX4_pairs 0 = .ok (.iconst 0, 1) := by decide +kernel
theorem dX4_pairs_1 : decode cX4_pairs 1 = .ok (.istore_n 1, 1) := by decide +kernel
theorem dX4_pairs_2 : decode cX4_pairs 2 = .ok (.iconst 0, 1) := by decide +kernel
theorem dX4_pairs_3 : decode cX4_pairs 3 = .ok (.istore_n 2, 1) := by decide +kernel
theorem dX4_pairs_4 : decode cX4_pairs 4 = .ok (.iload_n 2, 1) := by decide +kernel
theorem dX4_pairs_5 : decode cX4_pairs 5 = .ok (.aload_n 0, 1) := by decide +kernel
theorem dX4_pairs_6 : decode cX4_pairs 6 = .ok (.getfield 24, 3) := by decide +kernel
theorem dX4_pairs_9 : decode cX4_pairs 9 = .ok (.if_icmp .ge 21, 3) := by decide +kernel
theorem dX4_pairs_12 : decode cX4_pairs 12 = .ok (.iload_n 1, 1) := by decide +kernel
theorem dX4_pairs_13 : decode cX4_pairs 13 = .ok (.aload_n 0, 1) := by decide +kernel
theorem dX4_pairs_14 : decode cX4_pairs 14 = .ok (.getfield 21, 3) := by decide +kernel
theorem dX4_pairs_17 : decode cX4_pairs 17 = .ok (.iload_n 2, 1) := by decide +kernel
theorem dX4_pairs_18 : decode cX4_pairs 18 = .ok (.iaload, 1) := by decide +kernel
theorem dX4_pairs_19 : decode cX4_pairs 19 = .ok (.invokestatic 46, 3) := by decide +kernel
theorem dX4_pairs_22 : decode cX4_pairs 22 = .ok (.iadd, 1) := by decide +kernel
theorem dX4_pairs_23 : decode cX4_pairs 23 = .ok (.istore_n 1, 1) := by decide +kernel
theorem dX4_pairs_24 : decode cX4_pairs 24 = .ok (.iinc 2 1, 3) := by decide +kernel
theorem dX4_pairs_27 : decode cX4_pairs 27 = .ok (.goto (-23), 3) := by decide +kernel
theorem dX4_pairs_30 : decode cX4_pairs 30 = .ok (.iload_n 1, 1) := by decide +kernel
theorem dX4_pairs_31 : decode cX4_pairs 31 = .ok (.iconst 2, 1) := by decide +kernel
theorem dX4_pairs_32 : decode cX4_pairs 32 = .ok (.idiv, 1) := by decide +kernel
theorem dX4_pairs_33 : decode cX4_pairs 33 = .ok (.ireturn, 1) := by decide +kernel
theorem dX4_leastOut_0 : decode cX4_leastOut 0 = .ok (.iconst 1, 1) := by decide +kernel
theorem dX4_leastOut_1 : decode cX4_leastOut 1 = .ok (.aload_n 0, 1) := by decide +kernel
theorem dX4_leastOut_2 : decode cX4_leastOut 2 = .ok (.getfield 24, 3) := by decide +kernel
theorem dX4_leastOut_5 : decode cX4_leastOut 5 = .ok (.ishl, 1) := by decide +kernel
theorem dX4_leastOut_6 : decode cX4_leastOut 6 = .ok (.iconst 1, 1) := by decide +kernel
theorem dX4_leastOut_7 : decode cX4_leastOut 7 = .ok (.isub, 1) := by decide +kernel
theorem dX4_leastOut_8 : decode cX4_leastOut 8 = .ok (.istore_n 1, 1) := by decide +kernel
theorem dX4_leastOut_9 : decode cX4_leastOut 9 = .ok (.iconst 0, 1) := by decide +kernel
theorem dX4_leastOut_10 : decode cX4_leastOut 10 = .ok (.istore_n 2, 1) := by decide +kernel
theorem dX4_leastOut_11 : decode cX4_leastOut 11 = .ok (.iload_n 2, 1) := by decide +kernel
theorem dX4_leastOut_12 : decode cX4_leastOut 12 = .ok (.iconst 1, 1) := by decide +kernel
theorem dX4_leastOut_13 : decode cX4_leastOut 13 = .ok (.aload_n 0, 1) := by decide +kernel
theorem dX4_leastOut_14 : decode cX4_leastOut 14 = .ok (.getfield 24, 3) := by decide +kernel
theorem dX4_leastOut_17 : decode cX4_leastOut 17 = .ok (.ishl, 1) := by decide +kernel
theorem dX4_leastOut_18 : decode cX4_leastOut 18 = .ok (.if_icmp .ge 30, 3) := by decide +kernel
theorem dX4_leastOut_21 : decode cX4_leastOut 21 = .ok (.iload_n 2, 1) := by decide +kernel
theorem dX4_leastOut_22 : decode cX4_leastOut 22 = .ok (.invokestatic 46, 3) := by decide +kernel
theorem dX4_leastOut_25 : decode cX4_leastOut 25 = .ok (.iload_n 1, 1) := by decide +kernel
theorem dX4_leastOut_26 : decode cX4_leastOut 26 = .ok (.invokestatic 46, 3) := by decide +kernel
theorem dX4_leastOut_29 : decode cX4_leastOut 29 = .ok (.if_icmp .ge 13, 3) := by decide +kernel
theorem dX4_leastOut_32 : decode cX4_leastOut 32 = .ok (.aload_n 0, 1) := by decide +kernel
theorem dX4_leastOut_33 : decode cX4_leastOut 33 = .ok (.iload_n 2, 1) := by decide +kernel
theorem dX4_leastOut_34 : decode cX4_leastOut 34 = .ok (.invokevirtual 52, 3) := by decide +kernel
theorem dX4_leastOut_37 : decode cX4_leastOut 37 = .ok (.ifCond .eq 5, 3) := by decide +kernel
theorem dX4_leastOut_40 : decode cX4_leastOut 40 = .ok (.iload_n 2, 1) := by decide +kernel
theorem dX4_leastOut_41 : decode cX4_leastOut 41 = .ok (.istore_n 1, 1) := by decide +kernel
theorem dX4_leastOut_42 : decode cX4_leastOut 42 = .ok (.iinc 2 1, 3) := by decide +kernel
theorem dX4_leastOut_45 : decode cX4_leastOut 45 = .ok (.goto (-34), 3) := by decide +kernel
theorem dX4_leastOut_48 : decode cX4_leastOut 48 = .ok (.iload_n 1, 1) := by decide +kernel
theorem dX4_leastOut_49 : decode cX4_leastOut 49 = .ok (.ireturn, 1) := by decide +kernel
theorem dX4_restCanBe_0 : decode cX4_restCanBe 0 = .ok (.iconst 0, 1) := by decide +kernel
theorem dX4_restCanBe_1 : decode cX4_restCanBe 1 = .ok (.istore_n 2, 1) := by decide +kernel
theorem dX4_restCanBe_2 : decode cX4_restCanBe 2 = .ok (.iload_n 2, 1) := by decide +kernel
theorem dX4_restCanBe_3 : decode cX4_restCanBe 3 = .ok (.aload_n 0, 1) := by decide +kernel
theorem dX4_restCanBe_4 : decode cX4_restCanBe 4 = .ok (.getfield 24, 3) := by decide +kernel
theorem dX4_restCanBe_7 : decode cX4_restCanBe 7 = .ok (.if_icmp .ge 32, 3) := by decide +kernel
theorem dX4_restCanBe_10 : decode cX4_restCanBe 10 = .ok (.iload_n 1, 1) := by decide +kernel
theorem dX4_restCanBe_11 : decode cX4_restCanBe 11 = .ok (.iload_n 2, 1) := by decide +kernel
theorem dX4_restCanBe_12 : decode cX4_restCanBe 12 = .ok (.ishr, 1) := by decide +kernel
theorem dX4_restCanBe_13 : decode cX4_restCanBe 13 = .ok (.iconst 1, 1) := by decide +kernel
theorem dX4_restCanBe_14 : decode cX4_restCanBe 14 = .ok (.iand, 1) := by decide +kernel
theorem dX4_restCanBe_15 : decode cX4_restCanBe 15 = .ok (.ifCond .ne 18, 3) := by decide +kernel
theorem dX4_restCanBe_18 : decode cX4_restCanBe 18 = .ok (.aload_n 0, 1) := by decide +kernel
theorem dX4_restCanBe_19 : decode cX4_restCanBe 19 = .ok (.getfield 21, 3) := by decide +kernel
theorem dX4_restCanBe_22 : decode cX4_restCanBe 22 = .ok (.iload_n 2, 1) := by decide +kernel
theorem dX4_restCanBe_23 : decode cX4_restCanBe 23 = .ok (.iaload, 1) := by decide +kernel
theorem dX4_restCanBe_24 : decode cX4_restCanBe 24 = .ok (.iload_n 1, 1) := by decide +kernel
theorem dX4_restCanBe_25 : decode cX4_restCanBe 25 = .ok (.iconst (-1), 1) := by decide +kernel
theorem dX4_restCanBe_26 : decode cX4_restCanBe 26 = .ok (.ixor, 1) := by decide +kernel
theorem dX4_restCanBe_27 : decode cX4_restCanBe 27 = .ok (.iand, 1) := by decide +kernel
theorem dX4_restCanBe_28 : decode cX4_restCanBe 28 = .ok (.ifCond .eq 5, 3) := by decide +kernel
theorem dX4_restCanBe_31 : decode cX4_restCanBe 31 = .ok (.iconst 0, 1) := by decide +kernel
theorem dX4_restCanBe_32 : decode cX4_restCanBe 32 = .ok (.ireturn, 1) := by decide +kernel
theorem dX4_restCanBe_33 : decode cX4_restCanBe 33 = .ok (.iinc 2 1, 3) := by decide +kernel
theorem dX4_restCanBe_36 : decode cX4_restCanBe 36 = .ok (.goto (-34), 3) := by decide +kernel
theorem dX4_restCanBe_39 : decode cX4_restCanBe 39 = .ok (.iconst 1, 1) := by decide +kernel
theorem dX4_restCanBe_40 : decode cX4_restCanBe 40 = .ok (.ireturn, 1) := by decide +kernel
theorem dX5_init_0 : decode cX5_init 0 = .ok (.aload_n 0, 1) := by decide +kernel
theorem dX5_init_1 : decode cX5_init 1 = .ok (.invokespecial 3, 3) := by decide +kernel
theorem dX5_init_4 : decode cX5_init 4 = .ok (.aload_n 0, 1) := by decide +kernel
theorem dX5_init_5 : decode cX5_init 5 = .ok (.bipush 60, 2) := by decide +kernel
theorem dX5_init_7 : decode cX5_init 7 = .ok (.newarray .int, 2) := by decide +kernel
theorem dX5_init_9 : decode cX5_init 9 = .ok (.putfield 11, 3) := by decide +kernel
theorem dX5_init_12 : decode cX5_init 12 = .ok (.aload_n 0, 1) := by decide +kernel
theorem dX5_init_13 : decode cX5_init 13 = .ok (.bipush 20, 2) := by decide +kernel
theorem dX5_init_15 : decode cX5_init 15 = .ok (.newarray .int, 2) := by decide +kernel
theorem dX5_init_17 : decode cX5_init 17 = .ok (.putfield 15, 3) := by decide +kernel
theorem dX5_init_20 : decode cX5_init 20 = .ok (.aload_n 0, 1) := by decide +kernel
theorem dX5_init_21 : decode cX5_init 21 = .ok (.bipush 20, 2) := by decide +kernel
theorem dX5_init_23 : decode cX5_init 23 = .ok (.newarray .int, 2) := by decide +kernel
theorem dX5_init_25 : decode cX5_init 25 = .ok (.putfield 18, 3) := by decide +kernel
theorem dX5_init_28 : decode cX5_init 28 = .ok (.aload_n 0, 1) := by decide +kernel
theorem dX5_init_29 : decode cX5_init 29 = .ok (.bipush 20, 2) := by decide +kernel
theorem dX5_init_31 : decode cX5_init 31 = .ok (.newarray .int, 2) := by decide +kernel
theorem dX5_init_33 : decode cX5_init 33 = .ok (.putfield 21, 3) := by decide +kernel
theorem dX5_init_36 : decode cX5_init 36 = .ok (.aload_n 0, 1) := by decide +kernel
theorem dX5_init_37 : decode cX5_init 37 = .ok (.bipush 20, 2) := by decide +kernel
theorem dX5_init_39 : decode cX5_init 39 = .ok (.newarray .int, 2) := by decide +kernel
theorem dX5_init_41 : decode cX5_init 41 = .ok (.putfield 24, 3) := by decide +kernel
theorem dX5_init_44 : decode cX5_init 44 = .ok (.aload_n 0, 1) := by decide +kernel
theorem dX5_init_45 : decode cX5_init 45 = .ok (.iconst 4, 1) := by decide +kernel
theorem dX5_init_46 : decode cX5_init 46 = .ok (.newarray .int, 2) := by decide +kernel
theorem dX5_init_48 : decode cX5_init 48 = .ok (.putfield 27, 3) := by decide +kernel
theorem dX5_init_51 : decode cX5_init 51 = .ok (.aload_n 0, 1) := by decide +kernel
theorem dX5_init_52 : decode cX5_init 52 = .ok (.iconst 4, 1) := by decide +kernel
theorem dX5_init_53 : decode cX5_init 53 = .ok (.newarray .int, 2) := by decide +kernel
theorem dX5_init_55 : decode cX5_init 55 = .ok (.putfield 30, 3) := by decide +kernel
theorem dX5_init_58 : decode cX5_init 58 = .ok (.aload_n 0, 1) := by decide +kernel
theorem dX5_init_59 : decode cX5_init 59 = .ok (.getfield 27, 3) := by decide +kernel
theorem dX5_init_62 : decode cX5_init 62 = .ok (.iconst 0, 1) := by decide +kernel
theorem dX5_init_63 : decode cX5_init 63 = .ok (.iconst (-1), 1) := by decide +kernel
theorem dX5_init_64 : decode cX5_init 64 = .ok (.iastore, 1) := by decide +kernel
theorem dX5_init_65 : decode cX5_init 65 = .ok (.aload_n 0, 1) := by decide +kernel
theorem dX5_init_66 : decode cX5_init 66 = .ok (.iconst (-1), 1) := by decide +kernel
theorem dX5_init_67 : decode cX5_init 67 = .ok (.putfield 33, 3) := by decide +kernel
theorem dX5_init_70 : decode cX5_init 70 = .ok (.return_, 1) := by decide +kernel
theorem dX5_append_0 : decode cX5_append 0 = .ok (.aload_n 0, 1) := by decide +kernel
theorem dX5_append_1 : decode cX5_append 1 = .ok (.getfield 37, 3) := by decide +kernel
theorem dX5_append_4 : decode cX5_append 4 = .ok (.bipush 60, 2) := by decide +kernel
theorem dX5_append_6 : decode cX5_append 6 = .ok (.if_icmp .lt 5, 3) := by decide +kernel
theorem dX5_append_9 : decode cX5_append 9 = .ok (.iconst 0, 1) := by decide +kernel
theorem dX5_append_10 : decode cX5_append 10 = .ok (.ireturn, 1) := by decide +kernel
theorem dX5_append_11 : decode cX5_append 11 = .ok (.aload_n 0, 1) := by decide +kernel
theorem dX5_append_12 : decode cX5_append 12 = .ok (.getfield 11, 3) := by decide +kernel
theorem dX5_append_15 : decode cX5_append 15 = .ok (.aload_n 0, 1) := by decide +kernel
theorem dX5_append_16 : decode cX5_append 16 = .ok (.getfield 37, 3) := by decide +kernel
theorem dX5_append_19 : decode cX5_append 19 = .ok (.iload_n 1, 1) := by decide +kernel
theorem dX5_append_20 : decode cX5_append 20 = .ok (.iastore, 1) := by decide +kernel
theorem dX5_append_21 : decode cX5_append 21 = .ok (.aload_n 0, 1) := by decide +kernel
theorem dX5_append_22 : decode cX5_append 22 = .ok (.dup, 1) := by decide +kernel
theorem dX5_append_23 : decode cX5_append 23 = .ok (.getfield 37, 3) := by decide +kernel
theorem dX5_append_26 : decode cX5_append 26 = .ok (.iconst 1, 1) := by decide +kernel
theorem dX5_append_27 : decode cX5_append 27 = .ok (.iadd, 1) := by decide +kernel
theorem dX5_append_28 : decode cX5_append 28 = .ok (.putfield 37, 3) := by decide +kernel
theorem dX5_append_31 : decode cX5_append 31 = .ok (.aload_n 0, 1) := by decide +kernel
theorem dX5_append_32 : decode cX5_append 32 = .ok (.invokevirtual 40, 3) := by decide +kernel
theorem dX5_append_35 : decode cX5_append 35 = .ok (.iconst 1, 1) := by decide +kernel
theorem dX5_append_36 : decode cX5_append 36 = .ok (.ireturn, 1) := by decide +kernel
theorem dX5_empty_0 : decode cX5_empty 0 = .ok (.aload_n 0, 1) := by decide +kernel
theorem dX5_empty_1 : decode cX5_empty 1 = .ok (.iconst 0, 1) := by decide +kernel
theorem dX5_empty_2 : decode cX5_empty 2 = .ok (.putfield 37, 3) := by decide +kernel
theorem dX5_empty_5 : decode cX5_empty 5 = .ok (.aload_n 0, 1) := by decide +kernel
theorem dX5_empty_6 : decode cX5_empty 6 = .ok (.invokevirtual 40, 3) := by decide +kernel
theorem dX5_empty_9 : decode cX5_empty 9 = .ok (.return_, 1) := by decide +kernel
theorem dX5_pairs_0 : decode cX5_pairs 0 = .ok (.iconst 0, 1) := by decide +kernel
theorem dX5_pairs_1 : decode cX5_pairs 1 = .ok (.istore_n 1, 1) := by decide +kernel
theorem dX5_pairs_2 : decode cX5_pairs 2 = .ok (.iconst 0, 1) := by decide +kernel
theorem dX5_pairs_3 : decode cX5_pairs 3 = .ok (.istore_n 2, 1) := by decide +kernel
theorem dX5_pairs_4 : decode cX5_pairs 4 = .ok (.iload_n 2, 1) := by decide +kernel
theorem dX5_pairs_5 : decode cX5_pairs 5 = .ok (.aload_n 0, 1) := by decide +kernel
theorem dX5_pairs_6 : decode cX5_pairs 6 = .ok (.getfield 43, 3) := by decide +kernel
theorem dX5_pairs_9 : decode cX5_pairs 9 = .ok (.if_icmp .ge 21, 3) := by decide +kernel
theorem dX5_pairs_12 : decode cX5_pairs 12 = .ok (.iload_n 1, 1) := by decide +kernel
theorem dX5_pairs_13 : decode cX5_pairs 13 = .ok (.aload_n 0, 1) := by decide +kernel
theorem dX5_pairs_14 : decode cX5_pairs 14 = .ok (.getfield 21, 3) := by decide +kernel
theorem dX5_pairs_17 : decode cX5_pairs 17 = .ok (.iload_n 2, 1) := by decide +kernel
theorem dX5_pairs_18 : decode cX5_pairs 18 = .ok (.iaload, 1) := by decide +kernel
theorem dX5_pairs_19 : decode cX5_pairs 19 = .ok (.invokestatic 46, 3) := by decide +kernel
theorem dX5_pairs_22 : decode cX5_pairs 22 = .ok (.iadd, 1) := by decide +kernel
theorem dX5_pairs_23 : decode cX5_pairs 23 = .ok (.istore_n 1, 1) := by decide +kernel
theorem dX5_pairs_24 : decode cX5_pairs 24 = .ok (.iinc 2 1, 3) := by decide +kernel
theorem dX5_pairs_27 : decode cX5_pairs 27 = .ok (.goto (-23), 3) := by decide +kernel
theorem dX5_pairs_30 : decode cX5_pairs 30 = .ok (.iload_n 1, 1) := by decide +kernel
theorem dX5_pairs_31 : decode cX5_pairs 31 = .ok (.iconst 2, 1) := by decide +kernel
theorem dX5_pairs_32 : decode cX5_pairs 32 = .ok (.idiv, 1) := by decide +kernel
theorem dX5_pairs_33 : decode cX5_pairs 33 = .ok (.ireturn, 1) := by decide +kernel
theorem dX5_readText_0 : decode cX5_readText 0 = .ok (.aload_n 0, 1) := by decide +kernel
theorem dX5_readText_1 : decode cX5_readText 1 = .ok (.invokevirtual 52, 3) := by decide +kernel
theorem dX5_readText_4 : decode cX5_readText 4 = .ok (.iconst 0, 1) := by decide +kernel
theorem dX5_readText_5 : decode cX5_readText 5 = .ok (.istore_n 1, 1) := by decide +kernel
theorem dX5_readText_6 : decode cX5_readText 6 = .ok (.iconst 0, 1) := by decide +kernel
theorem dX5_readText_7 : decode cX5_readText 7 = .ok (.istore_n 2, 1) := by decide +kernel
theorem dX5_readText_8 : decode cX5_readText 8 = .ok (.iload_n 2, 1) := by decide +kernel
theorem dX5_readText_9 : decode cX5_readText 9 = .ok (.bipush 60, 2) := by decide +kernel
theorem dX5_readText_11 : decode cX5_readText 11 = .ok (.if_icmp .ge 31, 3) := by decide +kernel
theorem dX5_readText_14 : decode cX5_readText 14 = .ok (.iload_n 1, 1) := by decide +kernel
theorem dX5_readText_15 : decode cX5_readText 15 = .ok (.aload_n 0, 1) := by decide +kernel
theorem dX5_readText_16 : decode cX5_readText 16 = .ok (.getfield 37, 3) := by decide +kernel
theorem dX5_readText_19 : decode cX5_readText 19 = .ok (.if_icmp .ge 23, 3) := by decide +kernel
theorem dX5_readText_22 : decode cX5_readText 22 = .ok (.aload_n 0, 1) := by decide +kernel
theorem dX5_readText_23 : decode cX5_readText 23 = .ok (.getfield 33, 3) := by decide +kernel
theorem dX5_readText_26 : decode cX5_readText 26 = .ok (.iconst (-1), 1) := by decide +kernel
theorem dX5_readText_27 : decode cX5_readText 27 = .ok (.if_icmp .ne 15, 3) := by decide +kernel
theorem dX5_readText_30 : decode cX5_readText 30 = .ok (.aload_n 0, 1) := by decide +kernel
theorem dX5_readText_31 : decode cX5_readText 31 = .ok (.iload_n 1, 1) := by decide +kernel
theorem dX5_readText_32 : decode cX5_readText 32 = .ok (.invokevirtual 55, 3) := by decide +kernel
theorem dX5_readText_35 : decode cX5_readText 35 = .ok (.istore_n 1, 1) := by decide +kernel
theorem dX5_readText_36 : decode cX5_readText 36 = .ok (.iinc 2 1, 3) := by decide +kernel
theorem dX5_readText_39 : decode cX5_readText 39 = .ok (.goto (-31), 3) := by decide +kernel
theorem dX5_readText_42 : decode cX5_readText 42 = .ok (.aload_n 0, 1) := by decide +kernel
theorem dX5_readText_43 : decode cX5_readText 43 = .ok (.getfield 33, 3) := by decide +kernel
theorem dX5_readText_46 : decode cX5_readText 46 = .ok (.iconst (-1), 1) := by decide +kernel
theorem dX5_readText_47 : decode cX5_readText 47 = .ok (.if_icmp .ne 18, 3) := by decide +kernel
theorem dX5_readText_50 : decode cX5_readText 50 = .ok (.aload_n 0, 1) := by decide +kernel
theorem dX5_readText_51 : decode cX5_readText 51 = .ok (.getfield 58, 3) := by decide +kernel
theorem dX5_readText_54 : decode cX5_readText 54 = .ok (.ifCond .le 11, 3) := by decide +kernel
theorem dX5_readText_57 : decode cX5_readText 57 = .ok (.aload_n 0, 1) := by decide +kernel
theorem dX5_readText_58 : decode cX5_readText 58 = .ok (.aload_n 0, 1) := by decide +kernel
theorem dX5_readText_59 : decode cX5_readText 59 = .ok (.getfield 37, 3) := by decide +kernel
theorem dX5_readText_62 : decode cX5_readText 62 = .ok (.putfield 33, 3) := by decide +kernel
theorem dX5_readText_65 : decode cX5_readText 65 = .ok (.aload_n 0, 1) := by decide +kernel
theorem dX5_readText_66 : decode cX5_readText 66 = .ok (.getfield 33, 3) := by decide +kernel
theorem dX5_readText_69 : decode cX5_readText 69 = .ok (.iconst (-1), 1) := by decide +kernel
theorem dX5_readText_70 : decode cX5_readText 70 = .ok (.if_icmp .eq 13, 3) := by decide +kernel
theorem dX5_readText_73 : decode cX5_readText 73 = .ok (.aload_n 0, 1) := by decide +kernel
theorem dX5_readText_74 : decode cX5_readText 74 = .ok (.iconst 0, 1) := by decide +kernel
theorem dX5_readText_75 : decode cX5_readText 75 = .ok (.putfield 43, 3) := by decide +kernel
theorem dX5_readText_78 : decode cX5_readText 78 = .ok (.aload_n 0, 1) := by decide +kernel
theorem dX5_readText_79 : decode cX5_readText 79 = .ok (.iconst 0, 1) := by decide +kernel
theorem dX5_readText_80 : decode cX5_readText 80 = .ok (.putfield 61, 3) := by decide +kernel
theorem dX5_readText_83 : decode cX5_readText 83 = .ok (.return_, 1) := by decide +kernel
theorem dX5_startReading_0 : decode cX5_startReading 0 = .ok (.aload_n 0, 1) := by decide +kernel
theorem dX5_startReading_1 : decode cX5_startReading 1 = .ok (.getfield 21, 3) := by decide +kernel
theorem dX5_startReading_4 : decode cX5_startReading 4 = .ok (.iconst 0, 1) := by decide +kernel
theorem dX5_startReading_5 : decode cX5_startReading 5 = .ok (.invokestatic 64, 3) := by decide +kernel
theorem dX5_startReading_8 : decode cX5_startReading 8 = .ok (.aload_n 0, 1) := by decide +kernel
theorem dX5_startReading_9 : decode cX5_startReading 9 = .ok (.getfield 24, 3) := by decide +kernel
theorem dX5_startReading_12 : decode cX5_startReading 12 = .ok (.iconst 0, 1) := by decide +kernel
theorem dX5_startReading_13 : decode cX5_startReading 13 = .ok (.invokestatic 64, 3) := by decide +kernel
theorem dX5_startReading_16 : decode cX5_startReading 16 = .ok (.aload_n 0, 1) := by decide +kernel
theorem dX5_startReading_17 : decode cX5_startReading 17 = .ok (.iconst 0, 1) := by decide +kernel
theorem dX5_startReading_18 : decode cX5_startReading 18 = .ok (.putfield 58, 3) := by decide +kernel
theorem dX5_startReading_21 : decode cX5_startReading 21 = .ok (.aload_n 0, 1) := by decide +kernel
theorem dX5_startReading_22 : decode cX5_startReading 22 = .ok (.getfield 27, 3) := by decide +kernel
theorem dX5_startReading_25 : decode cX5_startReading 25 = .ok (.iconst 0, 1) := by decide +kernel
theorem dX5_startReading_26 : decode cX5_startReading 26 = .ok (.iconst (-1), 1) := by decide +kernel
theorem dX5_startReading_27 : decode cX5_startReading 27 = .ok (.iastore, 1) := by decide +kernel
theorem dX5_startReading_28 : decode cX5_startReading 28 = .ok (.aload_n 0, 1) := by decide +kernel
theorem dX5_startReading_29 : decode cX5_startReading 29 = .ok (.getfield 30, 3) := by decide +kernel
theorem dX5_startReading_32 : decode cX5_startReading 32 = .ok (.iconst 0, 1) := by decide +kernel
theorem dX5_startReading_33 : decode cX5_startReading 33 = .ok (.iconst 0, 1) := by decide +kernel
theorem dX5_startReading_34 : decode cX5_startReading 34 = .ok (.iastore, 1) := by decide +kernel
theorem dX5_startReading_35 : decode cX5_startReading 35 = .ok (.aload_n 0, 1) := by decide +kernel
theorem dX5_startReading_36 : decode cX5_startReading 36 = .ok (.iconst 0, 1) := by decide +kernel
theorem dX5_startReading_37 : decode cX5_startReading 37 = .ok (.putfield 43, 3) := by decide +kernel
theorem dX5_startReading_40 : decode cX5_startReading 40 = .ok (.aload_n 0, 1) := by decide +kernel
theorem dX5_startReading_41 : decode cX5_startReading 41 = .ok (.iconst 0, 1) := by decide +kernel
theorem dX5_startReading_42 : decode cX5_startReading 42 = .ok (.putfield 70, 3) := by decide +kernel
theorem dX5_startReading_45 : decode cX5_startReading 45 = .ok (.aload_n 0, 1) := by decide +kernel
theorem dX5_startReading_46 : decode cX5_startReading 46 = .ok (.iconst 0, 1) := by decide +kernel
theorem dX5_startReading_47 : decode cX5_startReading 47 = .ok (.putfield 61, 3) := by decide +kernel
theorem dX5_startReading_50 : decode cX5_startReading 50 = .ok (.aload_n 0, 1) := by decide +kernel
theorem dX5_startReading_51 : decode cX5_startReading 51 = .ok (.iconst (-1), 1) := by decide +kernel
theorem dX5_startReading_52 : decode cX5_startReading 52 = .ok (.putfield 33, 3) := by decide +kernel
theorem dX5_startReading_55 : decode cX5_startReading 55 = .ok (.return_, 1) := by decide +kernel
theorem dX5_readNext_0 : decode cX5_readNext 0 = .ok (.aload_n 0, 1) := by decide +kernel
theorem dX5_readNext_1 : decode cX5_readNext 1 = .ok (.getfield 11, 3) := by decide +kernel
theorem dX5_readNext_4 : decode cX5_readNext 4 = .ok (.iload_n 1, 1) := by decide +kernel
theorem dX5_readNext_5 : decode cX5_readNext 5 = .ok (.iaload, 1) := by decide +kernel
theorem dX5_readNext_6 : decode cX5_readNext 6 = .ok (.istore_n 2, 1) := by decide +kernel
theorem dX5_readNext_7 : decode cX5_readNext 7 = .ok (.iload_n 2, 1) := by decide +kernel
theorem dX5_readNext_8 : decode cX5_readNext 8 = .ok (.bipush 40, 2) := by decide +kernel
theorem dX5_readNext_10 : decode cX5_readNext 10 = .ok (.if_icmp .ne 9, 3) := by decide +kernel
theorem dX5_readNext_13 : decode cX5_readNext 13 = .ok (.aload_n 0, 1) := by decide +kernel
theorem dX5_readNext_14 : decode cX5_readNext 14 = .ok (.iload_n 1, 1) := by decide +kernel
theorem dX5_readNext_15 : decode cX5_readNext 15 = .ok (.invokevirtual 73, 3) := by decide +kernel
theorem dX5_readNext_18 : decode cX5_readNext 18 = .ok (.ireturn, 1) := by decide +kernel
theorem dX5_readNext_19 : decode cX5_readNext 19 = .ok (.iload_n 2, 1) := by decide +kernel
theorem dX5_readNext_20 : decode cX5_readNext 20 = .ok (.bipush 41, 2) := by decide +kernel
theorem dX5_readNext_22 : decode cX5_readNext 22 = .ok (.if_icmp .eq 9, 3) := by decide +kernel
theorem dX5_readNext_25 : decode cX5_readNext 25 = .ok (.iload_n 2, 1) := by decide +kernel
theorem dX5_readNext_26 : decode cX5_readNext 26 = .ok (.bipush 111, 2) := by decide +kernel
theorem dX5_readNext_28 : decode cX5_readNext 28 = .ok (.if_icmp .ne 20, 3) := by decide +kernel
theorem dX5_readNext_31 : decode cX5_readNext 31 = .ok (.aload_n 0, 1) := by decide +kernel
theorem dX5_readNext_32 : decode cX5_readNext 32 = .ok (.iload_n 1, 1) := by decide +kernel
theorem dX5_readNext_33 : decode cX5_readNext 33 = .ok (.iload_n 2, 1) := by decide +kernel
theorem dX5_readNext_34 : decode cX5_readNext 34 = .ok (.bipush 111, 2) := by decide +kernel
theorem dX5_readNext_36 : decode cX5_readNext 36 = .ok (.if_icmp .ne 7, 3) := by decide +kernel
theorem dX5_readNext_39 : decode cX5_readNext 39 = .ok (.iconst 1, 1) := by decide +kernel
theorem dX5_readNext_40 : decode cX5_readNext 40 = .ok (.goto 4, 3) := by decide +kernel
theorem dX5_readNext_43 : decode cX5_readNext 43 = .ok (.iconst 0, 1) := by decide +kernel
theorem dX5_readNext_44 : decode cX5_readNext 44 = .ok (.invokevirtual 76, 3) := by decide +kernel
theorem dX5_readNext_47 : decode cX5_readNext 47 = .ok (.ireturn, 1) := by decide +kernel
theorem dX5_readNext_48 : decode cX5_readNext 48 = .ok (.aload_n 0, 1) := by decide +kernel
theorem dX5_readNext_49 : decode cX5_readNext 49 = .ok (.iload_n 1, 1) := by decide +kernel
theorem dX5_readNext_50 : decode cX5_readNext 50 = .ok (.invokevirtual 80, 3) := by decide +kernel
theorem dX5_readNext_53 : decode cX5_readNext 53 = .ok (.ireturn, 1) := by decide +kernel
theorem dX5_openFork_0 : decode cX5_openFork 0 = .ok (.aload_n 0, 1) := by decide +kernel
theorem dX5_openFork_1 : decode cX5_openFork 1 = .ok (.getfield 58, 3) := by decide +kernel
theorem dX5_openFork_4 : decode cX5_openFork 4 = .ok (.iconst 3, 1) := by decide +kernel
theorem dX5_openFork_5 : decode cX5_openFork 5 = .ok (.if_icmp .ge 15, 3) := by decide +kernel
theorem dX5_openFork_8 : decode cX5_openFork 8 = .ok (.aload_n 0, 1) := by decide +kernel
theorem dX5_openFork_9 : decode cX5_openFork 9 = .ok (.getfield 30, 3) := by decide +kernel
theorem dX5_openFork_12 : decode cX5_openFork 12 = .ok (.aload_n 0, 1) := by decide +kernel
theorem dX5_openFork_13 : decode cX5_openFork 13 = .ok (.getfield 58, 3) := by decide +kernel
theorem dX5_openFork_16 : decode cX5_openFork 16 = .ok (.iaload, 1) := by decide +kernel
theorem dX5_openFork_17 : decode cX5_openFork 17 = .ok (.ifCond .ne 9, 3) := by decide +kernel
theorem dX5_openFork_20 : decode cX5_openFork 20 = .ok (.aload_n 0, 1) := by decide +kernel
theorem dX5_openFork_21 : decode cX5_openFork 21 = .ok (.iload_n 1, 1) := by decide +kernel
theorem dX5_openFork_22 : decode cX5_openFork 22 = .ok (.invokevirtual 83, 3) := by decide +kernel
theorem dX5_openFork_25 : decode cX5_openFork 25 = .ok (.ireturn, 1) := by decide +kernel
theorem dX5_openFork_26 : decode cX5_openFork 26 = .ok (.aload_n 0, 1) := by decide +kernel
theorem dX5_openFork_27 : decode cX5_openFork 27 = .ok (.dup, 1) := by decide +kernel
theorem dX5_openFork_28 : decode cX5_openFork 28 = .ok (.getfield 58, 3) := by decide +kernel
theorem dX5_openFork_31 : decode cX5_openFork 31 = .ok (.iconst 1, 1) := by decide +kernel
theorem dX5_openFork_32 : decode cX5_openFork 32 = .ok (.iadd, 1) := by decide +kernel
theorem dX5_openFork_33 : decode cX5_openFork 33 = .ok (.putfield 58, 3) := by decide +kernel
theorem dX5_openFork_36 : decode cX5_openFork 36 = .ok (.aload_n 0, 1) := by decide +kernel
theorem dX5_openFork_37 : decode cX5_openFork 37 = .ok (.getfield 27, 3) := by decide +kernel
theorem dX5_openFork_40 : decode cX5_openFork 40 = .ok (.aload_n 0, 1) := by decide +kernel
theorem dX5_openFork_41 : decode cX5_openFork 41 = .ok (.getfield 58, 3) := by decide +kernel
theorem dX5_openFork_44 : decode cX5_openFork 44 = .ok (.aload_n 0, 1) := by decide +kernel
theorem dX5_openFork_45 : decode cX5_openFork 45 = .ok (.getfield 27, 3) := by decide +kernel
theorem dX5_openFork_48 : decode cX5_openFork 48 = .ok (.aload_n 0, 1) := by decide +kernel
theorem dX5_openFork_49 : decode cX5_openFork 49 = .ok (.getfield 58, 3) := by decide +kernel
theorem dX5_openFork_52 : decode cX5_openFork 52 = .ok (.iconst 1, 1) := by decide +kernel
theorem dX5_openFork_53 : decode cX5_openFork 53 = .ok (.isub, 1) := by decide +kernel
theorem dX5_openFork_54 : decode cX5_openFork 54 = .ok (.iaload, 1) := by decide +kernel
theorem dX5_openFork_55 : decode cX5_openFork 55 = .ok (.iastore, 1) := by decide +kernel
theorem dX5_openFork_56 : decode cX5_openFork 56 = .ok (.aload_n 0, 1) := by decide +kernel
theorem dX5_openFork_57 : decode cX5_openFork 57 = .ok (.getfield 30, 3) := by decide +kernel
theorem dX5_openFork_60 : decode cX5_openFork 60 = .ok (.aload_n 0, 1) := by decide +kernel
theorem dX5_openFork_61 : decode cX5_openFork 61 = .ok (.getfield 58, 3) := by decide +kernel
theorem dX5_openFork_64 : decode cX5_openFork 64 = .ok (.iconst 0, 1) := by decide +kernel
theorem dX5_openFork_65 : decode cX5_openFork 65 = .ok (.iastore, 1) := by decide +kernel
theorem dX5_openFork_66 : decode cX5_openFork 66 = .ok (.iload_n 1, 1) := by decide +kernel
theorem dX5_openFork_67 : decode cX5_openFork 67 = .ok (.iconst 1, 1) := by decide +kernel
theorem dX5_openFork_68 : decode cX5_openFork 68 = .ok (.iadd, 1) := by decide +kernel
theorem dX5_openFork_69 : decode cX5_openFork 69 = .ok (.ireturn, 1) := by decide +kernel
theorem dX5_endFork_0 : decode cX5_endFork 0 = .ok (.aload_n 0, 1) := by decide +kernel
theorem dX5_endFork_1 : decode cX5_endFork 1 = .ok (.getfield 58, 3) := by decide +kernel
theorem dX5_endFork_4 : decode cX5_endFork 4 = .ok (.ifCond .eq 24, 3) := by decide +kernel
theorem dX5_endFork_7 : decode cX5_endFork 7 = .ok (.aload_n 0, 1) := by decide +kernel
theorem dX5_endFork_8 : decode cX5_endFork 8 = .ok (.getfield 30, 3) := by decide +kernel
theorem dX5_endFork_11 : decode cX5_endFork 11 = .ok (.aload_n 0, 1) := by decide +kernel
theorem dX5_endFork_12 : decode cX5_endFork 12 = .ok (.getfield 58, 3) := by decide +kernel
theorem dX5_endFork_15 : decode cX5_endFork 15 = .ok (.iaload, 1) := by decide +kernel
theorem dX5_endFork_16 : decode cX5_endFork 16 = .ok (.iload_n 2, 1) := by decide +kernel
theorem dX5_endFork_17 : decode cX5_endFork 17 = .ok (.ifCond .eq 7, 3) := by decide +kernel
theorem dX5_endFork_20 : decode cX5_endFork 20 = .ok (.iconst 2, 1) := by decide +kernel
theorem dX5_endFork_21 : decode cX5_endFork 21 = .ok (.goto 4, 3) := by decide +kernel
theorem dX5_endFork_24 : decode cX5_endFork 24 = .ok (.iconst 1, 1) := by decide +kernel
theorem dX5_endFork_25 : decode cX5_endFork 25 = .ok (.if_icmp .ge 9, 3) := by decide +kernel
theorem dX5_endFork_28 : decode cX5_endFork 28 = .ok (.aload_n 0, 1) := by decide +kernel
theorem dX5_endFork_29 : decode cX5_endFork 29 = .ok (.iload_n 1, 1) := by decide +kernel
theorem dX5_endFork_30 : decode cX5_endFork 30 = .ok (.invokevirtual 83, 3) := by decide +kernel
theorem dX5_endFork_33 : decode cX5_endFork 33 = .ok (.ireturn, 1) := by decide +kernel
theorem dX5_endFork_34 : decode cX5_endFork 34 = .ok (.iload_n 2, 1) := by decide +kernel
theorem dX5_endFork_35 : decode cX5_endFork 35 = .ok (.ifCond .eq 28, 3) := by decide +kernel
theorem dX5_endFork_38 : decode cX5_endFork 38 = .ok (.aload_n 0, 1) := by decide +kernel
theorem dX5_endFork_39 : decode cX5_endFork 39 = .ok (.aload_n 0, 1) := by decide +kernel
theorem dX5_endFork_40 : decode cX5_endFork 40 = .ok (.getfield 27, 3) := by decide +kernel
theorem dX5_endFork_43 : decode cX5_endFork 43 = .ok (.aload_n 0, 1) := by decide +kernel
theorem dX5_endFork_44 : decode cX5_endFork 44 = .ok (.getfield 58, 3) := by decide +kernel
theorem dX5_endFork_47 : decode cX5_endFork 47 = .ok (.iaload, 1) := by decide +kernel
theorem dX5_endFork_48 : decode cX5_endFork 48 = .ok (.aload_n 0, 1) := by decide +kernel
theorem dX5_endFork_49 : decode cX5_endFork 49 = .ok (.getfield 27, 3) := by decide +kernel
theorem dX5_endFork_52 : decode cX5_endFork 52 = .ok (.aload_n 0, 1) := by decide +kernel
theorem dX5_endFork_53 : decode cX5_endFork 53 = .ok (.getfield 58, 3) := by decide +kernel
theorem dX5_endFork_56 : decode cX5_endFork 56 = .ok (.iconst 1, 1) := by decide +kernel
theorem dX5_endFork_57 : decode cX5_endFork 57 = .ok (.isub, 1) := by decide +kernel
theorem dX5_endFork_58 : decode cX5_endFork 58 = .ok (.iaload, 1) := by decide +kernel
theorem dX5_endFork_59 : decode cX5_endFork 59 = .ok (.iconst 0, 1) := by decide +kernel
theorem dX5_endFork_60 : decode cX5_endFork 60 = .ok (.invokevirtual 86, 3) := by decide +kernel
theorem dX5_endFork_63 : decode cX5_endFork 63 = .ok (.aload_n 0, 1) := by decide +kernel
theorem dX5_endFork_64 : decode cX5_endFork 64 = .ok (.dup, 1) := by decide +kernel
theorem dX5_endFork_65 : decode cX5_endFork 65 = .ok (.getfield 58, 3) := by decide +kernel
theorem dX5_endFork_68 : decode cX5_endFork 68 = .ok (.iconst 1, 1) := by decide +kernel
theorem dX5_endFork_69 : decode cX5_endFork 69 = .ok (.isub, 1) := by decide +kernel
theorem dX5_endFork_70 : decode cX5_endFork 70 = .ok (.putfield 58, 3) := by decide +kernel
theorem dX5_endFork_73 : decode cX5_endFork 73 = .ok (.iload_n 1, 1) := by decide +kernel
theorem dX5_endFork_74 : decode cX5_endFork 74 = .ok (.iconst 1, 1) := by decide +kernel
theorem dX5_endFork_75 : decode cX5_endFork 75 = .ok (.iadd, 1) := by decide +kernel
theorem dX5_endFork_76 : decode cX5_endFork 76 = .ok (.ireturn, 1) := by decide +kernel
theorem dX5_readPerson_0 : decode cX5_readPerson 0 = .ok (.aload_n 0, 1) := by decide +kernel
theorem dX5_readPerson_1 : decode cX5_readPerson 1 = .ok (.getfield 43, 3) := by decide +kernel
theorem dX5_readPerson_4 : decode cX5_readPerson 4 = .ok (.bipush 20, 2) := by decide +kernel
theorem dX5_readPerson_6 : decode cX5_readPerson 6 = .ok (.if_icmp .lt 9, 3) := by decide +kernel
theorem dX5_readPerson_9 : decode cX5_readPerson 9 = .ok (.aload_n 0, 1) := by decide +kernel
theorem dX5_readPerson_10 : decode cX5_readPerson 10 = .ok (.iload_n 1, 1) := by decide +kernel
theorem dX5_readPerson_11 : decode cX5_readPerson 11 = .ok (.invokevirtual 83, 3) := by decide +kernel
theorem dX5_readPerson_14 : decode cX5_readPerson 14 = .ok (.ireturn, 1) := by decide +kernel
theorem dX5_readPerson_15 : decode cX5_readPerson 15 = .ok (.aload_n 0, 1) := by decide +kernel
theorem dX5_readPerson_16 : decode cX5_readPerson 16 = .ok (.getfield 11, 3) := by decide +kernel
theorem dX5_readPerson_19 : decode cX5_readPerson 19 = .ok (.iload_n 1, 1) := by decide +kernel
theorem dX5_readPerson_20 : decode cX5_readPerson 20 = .ok (.iaload, 1) := by decide +kernel
theorem dX5_readPerson_21 : decode cX5_readPerson 21 = .ok (.bipush 115, 2) := by decide +kernel
theorem dX5_readPerson_23 : decode cX5_readPerson 23 = .ok (.if_icmp .ne 7, 3) := by decide +kernel
theorem dX5_readPerson_26 : decode cX5_readPerson 26 = .ok (.iconst 1, 1) := by decide +kernel
theorem dX5_readPerson_27 : decode cX5_readPerson 27 = .ok (.goto 4, 3) := by decide +kernel
theorem dX5_readPerson_30 : decode cX5_readPerson 30 = .ok (.iconst 0, 1) := by decide +kernel
theorem dX5_readPerson_31 : decode cX5_readPerson 31 = .ok (.istore_n 2, 1) := by decide +kernel
theorem dX5_readPerson_32 : decode cX5_readPerson 32 = .ok (.iload_n 2, 1) := by decide +kernel
theorem dX5_readPerson_33 : decode cX5_readPerson 33 = .ok (.ifCond .eq 9, 3) := by decide +kernel
theorem dX5_readPerson_36 : decode cX5_readPerson 36 = .ok (.iload_n 1, 1) := by decide +kernel
theorem dX5_readPerson_37 : decode cX5_readPerson 37 = .ok (.iconst 1, 1) := by decide +kernel
theorem dX5_readPerson_38 : decode cX5_readPerson 38 = .ok (.iadd, 1) := by decide +kernel
theorem dX5_readPerson_39 : decode cX5_readPerson 39 = .ok (.goto 4, 3) := by decide +kernel
theorem dX5_readPerson_42 : decode cX5_readPerson 42 = .ok (.iload_n 1, 1) := by decide +kernel
theorem dX5_readPerson_43 : decode cX5_readPerson 43 = .ok (.istore_n 3, 1) := by decide +kernel
theorem dX5_readPerson_44 : decode cX5_readPerson 44 = .ok (.iload_n 3, 1) := by decide +kernel
theorem dX5_readPerson_45 : decode cX5_readPerson 45 = .ok (.aload_n 0, 1) := by decide +kernel
theorem dX5_readPerson_46 : decode cX5_readPerson 46 = .ok (.getfield 37, 3) := by decide +kernel
theorem dX5_readPerson_49 : decode cX5_readPerson 49 = .ok (.if_icmp .ge 15, 3) := by decide +kernel
theorem dX5_readPerson_52 : decode cX5_readPerson 52 = .ok (.aload_n 0, 1) := by decide +kernel
theorem dX5_readPerson_53 : decode cX5_readPerson 53 = .ok (.getfield 11, 3) := by decide +kernel
theorem dX5_readPerson_56 : decode cX5_readPerson 56 = .ok (.iload_n 3, 1) := by decide +kernel
theorem dX5_readPerson_57 : decode cX5_readPerson 57 = .ok (.iaload, 1) := by decide +kernel
theorem dX5_readPerson_58 : decode cX5_readPerson 58 = .ok (.invokestatic 90, 3) := by decide +kernel
theorem dX5_readPerson_61 : decode cX5_readPerson 61 = .ok (.goto 4, 3) := by decide +kernel
theorem dX5_readPerson_64 : decode cX5_readPerson 64 = .ok (.iconst (-1), 1) := by decide +kernel
theorem dX5_readPerson_65 : decode cX5_readPerson 65 = .ok (.istore 4, 2) := by decide +kernel
theorem dX5_readPerson_67 : decode cX5_readPerson 67 = .ok (.iload 4, 2) := by decide +kernel
theorem dX5_readPerson_69 : decode cX5_readPerson 69 = .ok (.iconst (-1), 1) := by decide +kernel
theorem dX5_readPerson_70 : decode cX5_readPerson 70 = .ok (.if_icmp .ne 9, 3) := by decide +kernel
theorem dX5_readPerson_73 : decode cX5_readPerson 73 = .ok (.aload_n 0, 1) := by decide +kernel
theorem dX5_readPerson_74 : decode cX5_readPerson 74 = .ok (.iload_n 3, 1) := by decide +kernel
theorem dX5_readPerson_75 : decode cX5_readPerson 75 = .ok (.invokevirtual 83, 3) := by decide +kernel
theorem dX5_readPerson_78 : decode cX5_readPerson 78 = .ok (.ireturn, 1) := by decide +kernel
theorem dX5_readPerson_79 : decode cX5_readPerson 79 = .ok (.iinc 3 1, 3) := by decide +kernel
theorem dX5_readPerson_82 : decode cX5_readPerson 82 = .ok (.iload_n 3, 1) := by decide +kernel
theorem dX5_readPerson_83 : decode cX5_readPerson 83 = .ok (.aload_n 0, 1) := by decide +kernel
theorem dX5_readPerson_84 : decode cX5_readPerson 84 = .ok (.getfield 37, 3) := by decide +kernel
theorem dX5_readPerson_87 : decode cX5_readPerson 87 = .ok (.if_icmp .ge 15, 3) := by decide +kernel
theorem dX5_readPerson_90 : decode cX5_readPerson 90 = .ok (.aload_n 0, 1) := by decide +kernel
theorem dX5_readPerson_91 : decode cX5_readPerson 91 = .ok (.getfield 11, 3) := by decide +kernel
theorem dX5_readPerson_94 : decode cX5_readPerson 94 = .ok (.iload_n 3, 1) := by decide +kernel
theorem dX5_readPerson_95 : decode cX5_readPerson 95 = .ok (.iaload, 1) := by decide +kernel
theorem dX5_readPerson_96 : decode cX5_readPerson 96 = .ok (.bipush 48, 2) := by decide +kernel
theorem dX5_readPerson_98 : decode cX5_readPerson 98 = .ok (.isub, 1) := by decide +kernel
theorem dX5_readPerson_99 : decode cX5_readPerson 99 = .ok (.goto 4, 3) := by decide +kernel
theorem dX5_readPerson_102 : decode cX5_readPerson 102 = .ok (.iconst 0, 1) := by decide +kernel
theorem dX5_readPerson_103 : decode cX5_readPerson 103 = .ok (.istore 5, 2) := by decide +kernel
theorem dX5_readPerson_105 : decode cX5_readPerson 105 = .ok (.iload 5, 2) := by decide +kernel
theorem dX5_readPerson_107 : decode cX5_readPerson 107 = .ok (.iconst 1, 1) := by decide +kernel
theorem dX5_readPerson_108 : decode cX5_readPerson 108 = .ok (.if_icmp .lt 10, 3) := by decide +kernel
theorem dX5_readPerson_111 : decode cX5_readPerson 111 = .ok (.iload 5, 2) := by decide +kernel
theorem dX5_readPerson_113 : decode cX5_readPerson 113 = .ok (.bipush 9, 2) := by decide +kernel
theorem dX5_readPerson_115 : decode cX5_readPerson 115 = .ok (.if_icmp .le 9, 3) := by decide +kernel
theorem dX5_readPerson_118 : decode cX5_readPerson 118 = .ok (.aload_n 0, 1) := by decide +kernel
theorem dX5_readPerson_119 : decode cX5_readPerson 119 = .ok (.iload_n 3, 1) := by decide +kernel
theorem dX5_readPerson_120 : decode cX5_readPerson 120 = .ok (.invokevirtual 83, 3) := by decide +kernel
theorem dX5_readPerson_123 : decode cX5_readPerson 123 = .ok (.ireturn, 1) := by decide +kernel
theorem dX5_readPerson_124 : decode cX5_readPerson 124 = .ok (.aload_n 0, 1) := by decide +kernel
theorem dX5_readPerson_125 : decode cX5_readPerson 125 = .ok (.iload 4, 2) := by decide +kernel
theorem dX5_readPerson_127 : decode cX5_readPerson 127 = .ok (.iload 5, 2) := by decide +kernel
theorem dX5_readPerson_129 : decode cX5_readPerson 129 = .ok (.iload_n 2, 1) := by decide +kernel
theorem dX5_readPerson_130 : decode cX5_readPerson 130 = .ok (.invokevirtual 93, 3) := by decide +kernel
theorem dX5_readPerson_133 : decode cX5_readPerson 133 = .ok (.iload_n 3, 1) := by decide +kernel
theorem dX5_readPerson_134 : decode cX5_readPerson 134 = .ok (.iconst 1, 1) := by decide +kernel
theorem dX5_readPerson_135 : decode cX5_readPerson 135 = .ok (.iadd, 1) := by decide +kernel
theorem dX5_readPerson_136 : decode cX5_readPerson 136 = .ok (.ireturn, 1) := by decide +kernel
theorem dX5_stopAt_0 : decode cX5_stopAt 0 = .ok (.aload_n 0, 1) := by decide +kernel
theorem dX5_stopAt_1 : decode cX5_stopAt 1 = .ok (.iload_n 1, 1) := by decide +kernel
theorem dX5_stopAt_2 : decode cX5_stopAt 2 = .ok (.putfield 33, 3) := by decide +kernel
theorem dX5_stopAt_5 : decode cX5_stopAt 5 = .ok (.iload_n 1, 1) := by decide +kernel
theorem dX5_stopAt_6 : decode cX5_stopAt 6 = .ok (.ireturn, 1) := by decide +kernel
theorem dX5_kindOf_0 : decode cX5_kindOf 0 = .ok (.iload_n 0, 1) := by decide +kernel
theorem dX5_kindOf_1 : decode cX5_kindOf 1 = .ok (.lookupswitch 51 #[(99, 47), (100, 49), (112, 43), (116, 45)], 43) := by decide +kernel
theorem dX5_kindOf_44 : decode cX5_kindOf 44 = .ok (.iconst 0, 1) := by decide +kernel
theorem dX5_kindOf_45 : decode cX5_kindOf 45 = .ok (.ireturn, 1) := by decide +kernel
theorem dX5_kindOf_46 : decode cX5_kindOf 46 = .ok (.iconst 1, 1) := by decide +kernel
theorem dX5_kindOf_47 : decode cX5_kindOf 47 = .ok (.ireturn, 1) := by decide +kernel
theorem dX5_kindOf_48 : decode cX5_kindOf 48 = .ok (.iconst 2, 1) := by decide +kernel
theorem dX5_kindOf_49 : decode cX5_kindOf 49 = .ok (.ireturn, 1) := by decide +kernel
theorem dX5_kindOf_50 : decode cX5_kindOf 50 = .ok (.iconst 3, 1) := by decide +kernel
theorem dX5_kindOf_51 : decode cX5_kindOf 51 = .ok (.ireturn, 1) := by decide +kernel
theorem dX5_kindOf_52 : decode cX5_kindOf 52 = .ok (.iconst (-1), 1) := by decide +kernel
theorem dX5_kindOf_53 : decode cX5_kindOf 53 = .ok (.ireturn, 1) := by decide +kernel
theorem dX5_addPerson_0 : decode cX5_addPerson 0 = .ok (.aload_n 0, 1) := by decide +kernel
theorem dX5_addPerson_1 : decode cX5_addPerson 1 = .ok (.getfield 43, 3) := by decide +kernel
theorem dX5_addPerson_4 : decode cX5_addPerson 4 = .ok (.istore 4, 2) := by decide +kernel
theorem dX5_addPerson_6 : decode cX5_addPerson 6 = .ok (.aload_n 0, 1) := by decide +kernel
theorem dX5_addPerson_7 : decode cX5_addPerson 7 = .ok (.dup, 1) := by decide +kernel
theorem dX5_addPerson_8 : decode cX5_addPerson 8 = .ok (.getfield 43, 3) := by decide +kernel
theorem dX5_addPerson_11 : decode cX5_addPerson 11 = .ok (.iconst 1, 1) := by decide +kernel
theorem dX5_addPerson_12 : decode cX5_addPerson 12 = .ok (.iadd, 1) := by decide +kernel
theorem dX5_addPerson_13 : decode cX5_addPerson 13 = .ok (.putfield 43, 3) := by decide +kernel
theorem dX5_addPerson_16 : decode cX5_addPerson 16 = .ok (.aload_n 0, 1) := by decide +kernel
theorem dX5_addPerson_17 : decode cX5_addPerson 17 = .ok (.getfield 15, 3) := by decide +kernel
theorem dX5_addPerson_20 : decode cX5_addPerson 20 = .ok (.iload 4, 2) := by decide +kernel
theorem dX5_addPerson_22 : decode cX5_addPerson 22 = .ok (.iload_n 1, 1) := by decide +kernel
theorem dX5_addPerson_23 : decode cX5_addPerson 23 = .ok (.iastore, 1) := by decide +kernel
theorem dX5_addPerson_24 : decode cX5_addPerson 24 = .ok (.aload_n 0, 1) := by decide +kernel
theorem dX5_addPerson_25 : decode cX5_addPerson 25 = .ok (.getfield 18, 3) := by decide +kernel
theorem dX5_addPerson_28 : decode cX5_addPerson 28 = .ok (.iload 4, 2) := by decide +kernel
theorem dX5_addPerson_30 : decode cX5_addPerson 30 = .ok (.iload_n 2, 1) := by decide +kernel
theorem dX5_addPerson_31 : decode cX5_addPerson 31 = .ok (.iastore, 1) := by decide +kernel
theorem dX5_addPerson_32 : decode cX5_addPerson 32 = .ok (.iload_n 3, 1) := by decide +kernel
theorem dX5_addPerson_33 : decode cX5_addPerson 33 = .ok (.ifCond .eq 16, 3) := by decide +kernel
theorem dX5_addPerson_36 : decode cX5_addPerson 36 = .ok (.aload_n 0, 1) := by decide +kernel
theorem dX5_addPerson_37 : decode cX5_addPerson 37 = .ok (.dup, 1) := by decide +kernel
theorem dX5_addPerson_38 : decode cX5_addPerson 38 = .ok (.getfield 70, 3) := by decide +kernel
theorem dX5_addPerson_41 : decode cX5_addPerson 41 = .ok (.iconst 1, 1) := by decide +kernel
theorem dX5_addPerson_42 : decode cX5_addPerson 42 = .ok (.iload 4, 2) := by decide +kernel
theorem dX5_addPerson_44 : decode cX5_addPerson 44 = .ok (.ishl, 1) := by decide +kernel
theorem dX5_addPerson_45 : decode cX5_addPerson 45 = .ok (.ior, 1) := by decide +kernel
theorem dX5_addPerson_46 : decode cX5_addPerson 46 = .ok (.putfield 70, 3) := by decide +kernel
theorem dX5_addPerson_49 : decode cX5_addPerson 49 = .ok (.aload_n 0, 1) := by decide +kernel
theorem dX5_addPerson_50 : decode cX5_addPerson 50 = .ok (.getfield 58, 3) := by decide +kernel
theorem dX5_addPerson_53 : decode cX5_addPerson 53 = .ok (.ifCond .ne 16, 3) := by decide +kernel
theorem dX5_addPerson_56 : decode cX5_addPerson 56 = .ok (.aload_n 0, 1) := by decide +kernel
theorem dX5_addPerson_57 : decode cX5_addPerson 57 = .ok (.dup, 1) := by decide +kernel
theorem dX5_addPerson_58 : decode cX5_addPerson 58 = .ok (.getfield 61, 3) := by decide +kernel
theorem dX5_addPerson_61 : decode cX5_addPerson 61 = .ok (.iconst 1, 1) := by decide +kernel
theorem dX5_addPerson_62 : decode cX5_addPerson 62 = .ok (.iload 4, 2) := by decide +kernel
theorem dX5_addPerson_64 : decode cX5_addPerson 64 = .ok (.ishl, 1) := by decide +kernel
theorem dX5_addPerson_65 : decode cX5_addPerson 65 = .ok (.ior, 1) := by decide +kernel
theorem dX5_addPerson_66 : decode cX5_addPerson 66 = .ok (.putfield 61, 3) := by decide +kernel
theorem dX5_addPerson_69 : decode cX5_addPerson 69 = .ok (.aload_n 0, 1) := by decide +kernel
theorem dX5_addPerson_70 : decode cX5_addPerson 70 = .ok (.getfield 27, 3) := by decide +kernel
theorem dX5_addPerson_73 : decode cX5_addPerson 73 = .ok (.aload_n 0, 1) := by decide +kernel
theorem dX5_addPerson_74 : decode cX5_addPerson 74 = .ok (.getfield 58, 3) := by decide +kernel
theorem dX5_addPerson_77 : decode cX5_addPerson 77 = .ok (.iaload, 1) := by decide +kernel
theorem dX5_addPerson_78 : decode cX5_addPerson 78 = .ok (.iconst (-1), 1) := by decide +kernel
theorem dX5_addPerson_79 : decode cX5_addPerson 79 = .ok (.if_icmp .eq 19, 3) := by decide +kernel
theorem dX5_addPerson_82 : decode cX5_addPerson 82 = .ok (.aload_n 0, 1) := by decide +kernel
theorem dX5_addPerson_83 : decode cX5_addPerson 83 = .ok (.iload 4, 2) := by decide +kernel
theorem dX5_addPerson_85 : decode cX5_addPerson 85 = .ok (.aload_n 0, 1) := by decide +kernel
theorem dX5_addPerson_86 : decode cX5_addPerson 86 = .ok (.getfield 27, 3) := by decide +kernel
theorem dX5_addPerson_89 : decode cX5_addPerson 89 = .ok (.aload_n 0, 1) := by decide +kernel
theorem dX5_addPerson_90 : decode cX5_addPerson 90 = .ok (.getfield 58, 3) := by decide +kernel
theorem dX5_addPerson_93 : decode cX5_addPerson 93 = .ok (.iaload, 1) := by decide +kernel
theorem dX5_addPerson_94 : decode cX5_addPerson 94 = .ok (.iload_n 3, 1) := by decide +kernel
theorem dX5_addPerson_95 : decode cX5_addPerson 95 = .ok (.invokevirtual 86, 3) := by decide +kernel
theorem dX5_addPerson_98 : decode cX5_addPerson 98 = .ok (.aload_n 0, 1) := by decide +kernel
theorem dX5_addPerson_99 : decode cX5_addPerson 99 = .ok (.getfield 27, 3) := by decide +kernel
theorem dX5_addPerson_102 : decode cX5_addPerson 102 = .ok (.aload_n 0, 1) := by decide +kernel
theorem dX5_addPerson_103 : decode cX5_addPerson 103 = .ok (.getfield 58, 3) := by decide +kernel
theorem dX5_addPerson_106 : decode cX5_addPerson 106 = .ok (.iload 4, 2) := by decide +kernel
theorem dX5_addPerson_108 : decode cX5_addPerson 108 = .ok (.iastore, 1) := by decide +kernel
theorem dX5_addPerson_109 : decode cX5_addPerson 109 = .ok (.aload_n 0, 1) := by decide +kernel
theorem dX5_addPerson_110 : decode cX5_addPerson 110 = .ok (.getfield 30, 3) := by decide +kernel
theorem dX5_addPerson_113 : decode cX5_addPerson 113 = .ok (.aload_n 0, 1) := by decide +kernel
theorem dX5_addPerson_114 : decode cX5_addPerson 114 = .ok (.getfield 58, 3) := by decide +kernel
theorem dX5_addPerson_117 : decode cX5_addPerson 117 = .ok (.dup2, 1) := by decide +kernel
theorem dX5_addPerson_118 : decode cX5_addPerson 118 = .ok (.iaload, 1) := by decide +kernel
theorem dX5_addPerson_119 : decode cX5_addPerson 119 = .ok (.iconst 1, 1) := by decide +kernel
theorem dX5_addPerson_120 : decode cX5_addPerson 120 = .ok (.iadd, 1) := by decide +kernel
theorem dX5_addPerson_121 : decode cX5_addPerson 121 = .ok (.iastore, 1) := by decide +kernel
theorem dX5_addPerson_122 : decode cX5_addPerson 122 = .ok (.return_, 1) := by decide +kernel
theorem dX5_holdHands_0 : decode cX5_holdHands 0 = .ok (.aload_n 0, 1) := by decide +kernel
theorem dX5_holdHands_1 : decode cX5_holdHands 1 = .ok (.getfield 21, 3) := by decide +kernel
theorem dX5_holdHands_4 : decode cX5_holdHands 4 = .ok (.iload_n 1, 1) := by decide +kernel
theorem dX5_holdHands_5 : decode cX5_holdHands 5 = .ok (.dup2, 1) := by decide +kernel
theorem dX5_holdHands_6 : decode cX5_holdHands 6 = .ok (.iaload, 1) := by decide +kernel
theorem dX5_holdHands_7 : decode cX5_holdHands 7 = .ok (.iconst 1, 1) := by decide +kernel
theorem dX5_holdHands_8 : decode cX5_holdHands 8 = .ok (.iload_n 2, 1) := by decide +kernel
theorem dX5_holdHands_9 : decode cX5_holdHands 9 = .ok (.ishl, 1) := by decide +kernel
theorem dX5_holdHands_10 : decode cX5_holdHands 10 = .ok (.ior, 1) := by decide +kernel
theorem dX5_holdHands_11 : decode cX5_holdHands 11 = .ok (.iastore, 1) := by decide +kernel
theorem dX5_holdHands_12 : decode cX5_holdHands 12 = .ok (.aload_n 0, 1) := by decide +kernel
theorem dX5_holdHands_13 : decode cX5_holdHands 13 = .ok (.getfield 21, 3) := by decide +kernel
theorem dX5_holdHands_16 : decode cX5_holdHands 16 = .ok (.iload_n 2, 1) := by decide +kernel
theorem dX5_holdHands_17 : decode cX5_holdHands 17 = .ok (.dup2, 1) := by decide +kernel
theorem dX5_holdHands_18 : decode cX5_holdHands 18 = .ok (.iaload, 1) := by decide +kernel
theorem dX5_holdHands_19 : decode cX5_holdHands 19 = .ok (.iconst 1, 1) := by decide +kernel
theorem dX5_holdHands_20 : decode cX5_holdHands 20 = .ok (.iload_n 1, 1) := by decide +kernel
theorem dX5_holdHands_21 : decode cX5_holdHands 21 = .ok (.ishl, 1) := by decide +kernel
theorem dX5_holdHands_22 : decode cX5_holdHands 22 = .ok (.ior, 1) := by decide +kernel
theorem dX5_holdHands_23 : decode cX5_holdHands 23 = .ok (.iastore, 1) := by decide +kernel
theorem dX5_holdHands_24 : decode cX5_holdHands 24 = .ok (.iload_n 3, 1) := by decide +kernel
theorem dX5_holdHands_25 : decode cX5_holdHands 25 = .ok (.ifCond .eq 27, 3) := by decide +kernel
theorem dX5_holdHands_28 : decode cX5_holdHands 28 = .ok (.aload_n 0, 1) := by decide +kernel
theorem dX5_holdHands_29 : decode cX5_holdHands 29 = .ok (.getfield 24, 3) := by decide +kernel
theorem dX5_holdHands_32 : decode cX5_holdHands 32 = .ok (.iload_n 1, 1) := by decide +kernel
theorem dX5_holdHands_33 : decode cX5_holdHands 33 = .ok (.dup2, 1) := by decide +kernel
theorem dX5_holdHands_34 : decode cX5_holdHands 34 = .ok (.iaload, 1) := by decide +kernel
theorem dX5_holdHands_35 : decode cX5_holdHands 35 = .ok (.iconst 1, 1) := by decide +kernel
theorem dX5_holdHands_36 : decode cX5_holdHands 36 = .ok (.iload_n 2, 1) := by decide +kernel
theorem dX5_holdHands_37 : decode cX5_holdHands 37 = .ok (.ishl, 1) := by decide +kernel
theorem dX5_holdHands_38 : decode cX5_holdHands 38 = .ok (.ior, 1) := by decide +kernel
theorem dX5_holdHands_39 : decode cX5_holdHands 39 = .ok (.iastore, 1) := by decide +kernel
theorem dX5_holdHands_40 : decode cX5_holdHands 40 = .ok (.aload_n 0, 1) := by decide +kernel
theorem dX5_holdHands_41 : decode cX5_holdHands 41 = .ok (.getfield 24, 3) := by decide +kernel
theorem dX5_holdHands_44 : decode cX5_holdHands 44 = .ok (.iload_n 2, 1) := by decide +kernel
theorem dX5_holdHands_45 : decode cX5_holdHands 45 = .ok (.dup2, 1) := by decide +kernel
theorem dX5_holdHands_46 : decode cX5_holdHands 46 = .ok (.iaload, 1) := by decide +kernel
theorem dX5_holdHands_47 : decode cX5_holdHands 47 = .ok (.iconst 1, 1) := by decide +kernel
theorem dX5_holdHands_48 : decode cX5_holdHands 48 = .ok (.iload_n 1, 1) := by decide +kernel
theorem dX5_holdHands_49 : decode cX5_holdHands 49 = .ok (.ishl, 1) := by decide +kernel
theorem dX5_holdHands_50 : decode cX5_holdHands 50 = .ok (.ior, 1) := by decide +kernel
theorem dX5_holdHands_51 : decode cX5_holdHands 51 = .ok (.iastore, 1) := by decide +kernel
theorem dX5_holdHands_52 : decode cX5_holdHands 52 = .ok (.return_, 1) := by decide +kernel
theorem dX6_init_0 : decode cX6_init 0 = .ok (.aload_n 0, 1) := by decide +kernel
theorem dX6_init_1 : decode cX6_init 1 = .ok (.invokespecial 3, 3) := by decide +kernel
theorem dX6_init_4 : decode cX6_init 4 = .ok (.aload_n 0, 1) := by decide +kernel
theorem dX6_init_5 : decode cX6_init 5 = .ok (.sipush 240, 3) := by decide +kernel
theorem dX6_init_8 : decode cX6_init 8 = .ok (.newarray .int, 2) := by decide +kernel
theorem dX6_init_10 : decode cX6_init 10 = .ok (.putfield 11, 3) := by decide +kernel
theorem dX6_init_13 : decode cX6_init 13 = .ok (.aload_n 0, 1) := by decide +kernel
theorem dX6_init_14 : decode cX6_init 14 = .ok (.iconst 4, 1) := by decide +kernel
theorem dX6_init_15 : decode cX6_init 15 = .ok (.newarray .int, 2) := by decide +kernel
theorem dX6_init_17 : decode cX6_init 17 = .ok (.putfield 15, 3) := by decide +kernel
theorem dX6_init_20 : decode cX6_init 20 = .ok (.aload_n 0, 1) := by decide +kernel
theorem dX6_init_21 : decode cX6_init 21 = .ok (.iconst 4, 1) := by decide +kernel
theorem dX6_init_22 : decode cX6_init 22 = .ok (.newarray .int, 2) := by decide +kernel
theorem dX6_init_24 : decode cX6_init 24 = .ok (.putfield 18, 3) := by decide +kernel
theorem dX6_init_27 : decode cX6_init 27 = .ok (.aload_n 0, 1) := by decide +kernel
theorem dX6_init_28 : decode cX6_init 28 = .ok (.iconst 0, 1) := by decide +kernel
theorem dX6_init_29 : decode cX6_init 29 = .ok (.putfield 21, 3) := by decide +kernel
theorem dX6_init_32 : decode cX6_init 32 = .ok (.aload_n 0, 1) := by decide +kernel
theorem dX6_init_33 : decode cX6_init 33 = .ok (.getfield 15, 3) := by decide +kernel
theorem dX6_init_36 : decode cX6_init 36 = .ok (.iconst (-1), 1) := by decide +kernel
theorem dX6_init_37 : decode cX6_init 37 = .ok (.invokestatic 25, 3) := by decide +kernel
theorem dX6_init_40 : decode cX6_init 40 = .ok (.return_, 1) := by decide +kernel
theorem dX6_isPlace_0 : decode cX6_isPlace 0 = .ok (.iload_n 0, 1) := by decide +kernel
theorem dX6_isPlace_1 : decode cX6_isPlace 1 = .ok (.ifCond .lt 12, 3) := by decide +kernel
theorem dX6_isPlace_4 : decode cX6_isPlace 4 = .ok (.iload_n 0, 1) := by decide +kernel
theorem dX6_isPlace_5 : decode cX6_isPlace 5 = .ok (.iconst 4, 1) := by decide +kernel
theorem dX6_isPlace_6 : decode cX6_isPlace 6 = .ok (.if_icmp .ge 7, 3) := by decide +kernel
theorem dX6_isPlace_9 : decode cX6_isPlace 9 = .ok (.iconst 1, 1) := by decide +kernel
theorem dX6_isPlace_10 : decode cX6_isPlace 10 = .ok (.goto 4, 3) := by decide +kernel
theorem dX6_isPlace_13 : decode cX6_isPlace 13 = .ok (.iconst 0, 1) := by decide +kernel
theorem dX6_isPlace_14 : decode cX6_isPlace 14 = .ok (.ireturn, 1) := by decide +kernel
theorem dX6_isForm_0 : decode cX6_isForm 0 = .ok (.iload_n 0, 1) := by decide +kernel
theorem dX6_isForm_1 : decode cX6_isForm 1 = .ok (.ifCond .lt 12, 3) := by decide +kernel
theorem dX6_isForm_4 : decode cX6_isForm 4 = .ok (.iload_n 0, 1) := by decide +kernel
theorem dX6_isForm_5 : decode cX6_isForm 5 = .ok (.iconst 2, 1) := by decide +kernel
theorem dX6_isForm_6 : decode cX6_isForm 6 = .ok (.if_icmp .gt 7, 3) := by decide +kernel
theorem dX6_isForm_9 : decode cX6_isForm 9 = .ok (.iconst 1, 1) := by decide +kernel
theorem dX6_isForm_10 : decode cX6_isForm 10 = .ok (.goto 4, 3) := by decide +kernel
theorem dX6_isForm_13 : decode cX6_isForm 13 = .ok (.iconst 0, 1) := by decide +kernel
theorem dX6_isForm_14 : decode cX6_isForm 14 = .ok (.ireturn, 1) := by decide +kernel
theorem dX6_isLost_0 : decode cX6_isLost 0 = .ok (.aload_n 0, 1) := by decide +kernel
theorem dX6_isLost_1 : decode cX6_isLost 1 = .ok (.getfield 15, 3) := by decide +kernel
theorem dX6_isLost_4 : decode cX6_isLost 4 = .ok (.iload_n 1, 1) := by decide +kernel
theorem dX6_isLost_5 : decode cX6_isLost 5 = .ok (.iaload, 1) := by decide +kernel
theorem dX6_isLost_6 : decode cX6_isLost 6 = .ok (.iconst (-1), 1) := by decide +kernel
theorem dX6_isLost_7 : decode cX6_isLost 7 = .ok (.if_icmp .ne 7, 3) := by decide +kernel
theorem dX6_isLost_10 : decode cX6_isLost 10 = .ok (.iconst 1, 1) := by decide +kernel
theorem dX6_isLost_11 : decode cX6_isLost 11 = .ok (.goto 4, 3) := by decide +kernel
theorem dX6_isLost_14 : decode cX6_isLost 14 = .ok (.iconst 0, 1) := by decide +kernel
theorem dX6_isLost_15 : decode cX6_isLost 15 = .ok (.ireturn, 1) := by decide +kernel
theorem dX6_finding_0 : decode cX6_finding 0 = .ok (.aload_n 0, 1) := by decide +kernel
theorem dX6_finding_1 : decode cX6_finding 1 = .ok (.iload_n 1, 1) := by decide +kernel
theorem dX6_finding_2 : decode cX6_finding 2 = .ok (.putfield 21, 3) := by decide +kernel
theorem dX6_finding_5 : decode cX6_finding 5 = .ok (.bipush (-10), 2) := by decide +kernel
theorem dX6_finding_7 : decode cX6_finding 7 = .ok (.iload_n 1, 1) := by decide +kernel
theorem dX6_finding_8 : decode cX6_finding 8 = .ok (.isub, 1) := by decide +kernel
theorem dX6_finding_9 : decode cX6_finding 9 = .ok (.ireturn, 1) := by decide +kernel
theorem dX6_findingAt_0 : decode cX6_findingAt 0 = .ok (.aload_n 0, 1) := by decide +kernel
theorem dX6_findingAt_1 : decode cX6_findingAt 1 = .ok (.iload_n 1, 1) := by decide +kernel
theorem dX6_findingAt_2 : decode cX6_findingAt 2 = .ok (.invokevirtual 31, 3) := by decide +kernel
theorem dX6_findingAt_5 : decode cX6_findingAt 5 = .ok (.ifCond .eq 5, 3) := by decide +kernel
theorem dX6_findingAt_8 : decode cX6_findingAt 8 = .ok (.iconst 1, 1) := by decide +kernel
theorem dX6_findingAt_9 : decode cX6_findingAt 9 = .ok (.ireturn, 1) := by decide +kernel
theorem dX6_findingAt_10 : decode cX6_findingAt 10 = .ok (.aload_n 0, 1) := by decide +kernel
theorem dX6_findingAt_11 : decode cX6_findingAt 11 = .ok (.getfield 15, 3) := by decide +kernel
theorem dX6_findingAt_14 : decode cX6_findingAt 14 = .ok (.iload_n 1, 1) := by decide +kernel
theorem dX6_findingAt_15 : decode cX6_findingAt 15 = .ok (.iaload, 1) := by decide +kernel
theorem dX6_findingAt_16 : decode cX6_findingAt 16 = .ok (.iload_n 2, 1) := by decide +kernel
theorem dX6_findingAt_17 : decode cX6_findingAt 17 = .ok (.if_icmp .eq 5, 3) := by decide +kernel
theorem dX6_findingAt_20 : decode cX6_findingAt 20 = .ok (.iconst 3, 1) := by decide +kernel
theorem dX6_findingAt_21 : decode cX6_findingAt 21 = .ok (.ireturn, 1) := by decide +kernel
theorem dX6_findingAt_22 : decode cX6_findingAt 22 = .ok (.iload_n 3, 1) := by decide +kernel
theorem dX6_findingAt_23 : decode cX6_findingAt 23 = .ok (.ifCond .lt 13, 3) := by decide +kernel
theorem dX6_findingAt_26 : decode cX6_findingAt 26 = .ok (.iload_n 3, 1) := by decide +kernel
theorem dX6_findingAt_27 : decode cX6_findingAt 27 = .ok (.aload_n 0, 1) := by decide +kernel
theorem dX6_findingAt_28 : decode cX6_findingAt 28 = .ok (.getfield 18, 3) := by decide +kernel
theorem dX6_findingAt_31 : decode cX6_findingAt 31 = .ok (.iload_n 1, 1) := by decide +kernel
theorem dX6_findingAt_32 : decode cX6_findingAt 32 = .ok (.iaload, 1) := by decide +kernel
theorem dX6_findingAt_33 : decode cX6_findingAt 33 = .ok (.if_icmp .lt 7, 3) := by decide +kernel
theorem dX6_findingAt_36 : decode cX6_findingAt 36 = .ok (.iconst 2, 1) := by decide +kernel
theorem dX6_findingAt_37 : decode cX6_findingAt 37 = .ok (.goto 4, 3) := by decide +kernel
theorem dX6_findingAt_40 : decode cX6_findingAt 40 = .ok (.iconst 0, 1) := by decide +kernel
theorem dX6_findingAt_41 : decode cX6_findingAt 41 = .ok (.ireturn, 1) := by decide +kernel
theorem dX6_layOut_0 : decode cX6_layOut 0 = .ok (.iload_n 3, 1) := by decide +kernel
theorem dX6_layOut_1 : decode cX6_layOut 1 = .ok (.ifCond .ge 9, 3) := by decide +kernel
theorem dX6_layOut_4 : decode cX6_layOut 4 = .ok (.aload_n 0, 1) := by decide +kernel
theorem dX6_layOut_5 : decode cX6_layOut 5 = .ok (.iconst 5, 1) := by decide +kernel
theorem dX6_layOut_6 : decode cX6_layOut 6 = .ok (.invokevirtual 35, 3) := by decide +kernel
theorem dX6_layOut_9 : decode cX6_layOut 9 = .ok (.ireturn, 1) := by decide +kernel
theorem dX6_layOut_10 : decode cX6_layOut 10 = .ok (.aload_n 0, 1) := by decide +kernel
theorem dX6_layOut_11 : decode cX6_layOut 11 = .ok (.getfield 15, 3) := by decide +kernel
theorem dX6_layOut_14 : decode cX6_layOut 14 = .ok (.iload_n 1, 1) := by decide +kernel
theorem dX6_layOut_15 : decode cX6_layOut 15 = .ok (.iload_n 2, 1) := by decide +kernel
theorem dX6_layOut_16 : decode cX6_layOut 16 = .ok (.iastore, 1) := by decide +kernel
theorem dX6_layOut_17 : decode cX6_layOut 17 = .ok (.aload_n 0, 1) := by decide +kernel
theorem dX6_layOut_18 : decode cX6_layOut 18 = .ok (.getfield 18, 3) := by decide +kernel
theorem dX6_layOut_21 : decode cX6_layOut 21 = .ok (.iload_n 1, 1) := by decide +kernel
theorem dX6_layOut_22 : decode cX6_layOut 22 = .ok (.iload_n 3, 1) := by decide +kernel
theorem dX6_layOut_23 : decode cX6_layOut 23 = .ok (.iastore, 1) := by decide +kernel
theorem dX6_layOut_24 : decode cX6_layOut 24 = .ok (.iconst 0, 1) := by decide +kernel
theorem dX6_layOut_25 : decode cX6_layOut 25 = .ok (.istore 4, 2) := by decide +kernel
theorem dX6_layOut_27 : decode cX6_layOut 27 = .ok (.iload 4, 2) := by decide +kernel
theorem dX6_layOut_29 : decode cX6_layOut 29 = .ok (.iload_n 3, 1) := by decide +kernel
theorem dX6_layOut_30 : decode cX6_layOut 30 = .ok (.if_icmp .ge 17, 3) := by decide +kernel
theorem dX6_layOut_33 : decode cX6_layOut 33 = .ok (.aload_n 0, 1) := by decide +kernel
theorem dX6_layOut_34 : decode cX6_layOut 34 = .ok (.iload_n 1, 1) := by decide +kernel
theorem dX6_layOut_35 : decode cX6_layOut 35 = .ok (.iload 4, 2) := by decide +kernel
theorem dX6_layOut_37 : decode cX6_layOut 37 = .ok (.iconst 0, 1) := by decide +kernel
theorem dX6_layOut_38 : decode cX6_layOut 38 = .ok (.invokevirtual 39, 3) := by decide +kernel
theorem dX6_layOut_41 : decode cX6_layOut 41 = .ok (.iinc 4 1, 3) := by decide +kernel
theorem dX6_layOut_44 : decode cX6_layOut 44 = .ok (.goto (-17), 3) := by decide +kernel
theorem dX6_layOut_47 : decode cX6_layOut 47 = .ok (.iload_n 3, 1) := by decide +kernel
theorem dX6_layOut_48 : decode cX6_layOut 48 = .ok (.ireturn, 1) := by decide +kernel
theorem dX6_takeAway_0 : decode cX6_takeAway 0 = .ok (.aload_n 0, 1) := by decide +kernel
theorem dX6_takeAway_1 : decode cX6_takeAway 1 = .ok (.iload_n 1, 1) := by decide +kernel
theorem dX6_takeAway_2 : decode cX6_takeAway 2 = .ok (.invokevirtual 31, 3) := by decide +kernel
theorem dX6_takeAway_5 : decode cX6_takeAway 5 = .ok (.ifCond .eq 9, 3) := by decide +kernel
theorem dX6_takeAway_8 : decode cX6_takeAway 8 = .ok (.aload_n 0, 1) := by decide +kernel
theorem dX6_takeAway_9 : decode cX6_takeAway 9 = .ok (.iconst 1, 1) := by decide +kernel
theorem dX6_takeAway_10 : decode cX6_takeAway 10 = .ok (.invokevirtual 35, 3) := by decide +kernel
theorem dX6_takeAway_13 : decode cX6_takeAway 13 = .ok (.ireturn, 1) := by decide +kernel
theorem dX6_takeAway_14 : decode cX6_takeAway 14 = .ok (.aload_n 0, 1) := by decide +kernel
theorem dX6_takeAway_15 : decode cX6_takeAway 15 = .ok (.getfield 15, 3) := by decide +kernel
theorem dX6_takeAway_18 : decode cX6_takeAway 18 = .ok (.iload_n 1, 1) := by decide +kernel
theorem dX6_takeAway_19 : decode cX6_takeAway 19 = .ok (.iconst (-1), 1) := by decide +kernel
theorem dX6_takeAway_20 : decode cX6_takeAway 20 = .ok (.iastore, 1) := by decide +kernel
theorem dX6_takeAway_21 : decode cX6_takeAway 21 = .ok (.aload_n 0, 1) := by decide +kernel
theorem dX6_takeAway_22 : decode cX6_takeAway 22 = .ok (.getfield 18, 3) := by decide +kernel
theorem dX6_takeAway_25 : decode cX6_takeAway 25 = .ok (.iload_n 1, 1) := by decide +kernel
theorem dX6_takeAway_26 : decode cX6_takeAway 26 = .ok (.iaload, 1) := by decide +kernel
theorem dX6_takeAway_27 : decode cX6_takeAway 27 = .ok (.ireturn, 1) := by decide +kernel
theorem dX6_itemAt_0 : decode cX6_itemAt 0 = .ok (.aload_n 0, 1) := by decide +kernel
theorem dX6_itemAt_1 : decode cX6_itemAt 1 = .ok (.getfield 11, 3) := by decide +kernel
theorem dX6_itemAt_4 : decode cX6_itemAt 4 = .ok (.iload_n 1, 1) := by decide +kernel
theorem dX6_itemAt_5 : decode cX6_itemAt 5 = .ok (.bipush 60, 2) := by decide +kernel
theorem dX6_itemAt_7 : decode cX6_itemAt 7 = .ok (.imul, 1) := by decide +kernel
theorem dX6_itemAt_8 : decode cX6_itemAt 8 = .ok (.iload_n 2, 1) := by decide +kernel
theorem dX6_itemAt_9 : decode cX6_itemAt 9 = .ok (.iadd, 1) := by decide +kernel
theorem dX6_itemAt_10 : decode cX6_itemAt 10 = .ok (.iaload, 1) := by decide +kernel
theorem dX6_itemAt_11 : decode cX6_itemAt 11 = .ok (.ireturn, 1) := by decide +kernel
theorem dX6_store_0 : decode cX6_store 0 = .ok (.iload_n 3, 1) := by decide +kernel
theorem dX6_store_1 : decode cX6_store 1 = .ok (.istore 4, 2) := by decide +kernel
theorem dX6_store_3 : decode cX6_store 3 = .ok (.aload_n 0, 1) := by decide +kernel
theorem dX6_store_4 : decode cX6_store 4 = .ok (.getfield 15, 3) := by decide +kernel
theorem dX6_store_7 : decode cX6_store 7 = .ok (.iload_n 1, 1) := by decide +kernel
theorem dX6_store_8 : decode cX6_store 8 = .ok (.iaload, 1) := by decide +kernel
theorem dX6_store_9 : decode cX6_store 9 = .ok (.ifCond .ne 10, 3) := by decide +kernel
theorem dX6_store_12 : decode cX6_store 12 = .ok (.iload_n 3, 1) := by decide +kernel
theorem dX6_store_13 : decode cX6_store 13 = .ok (.i2b, 1) := by decide +kernel
theorem dX6_store_14 : decode cX6_store 14 = .ok (.istore 4, 2) := by decide +kernel
theorem dX6_store_16 : decode cX6_store 16 = .ok (.goto 17, 3) := by decide +kernel
theorem dX6_store_19 : decode cX6_store 19 = .ok (.aload_n 0, 1) := by decide +kernel
theorem dX6_store_20 : decode cX6_store 20 = .ok (.getfield 15, 3) := by decide +kernel
theorem dX6_store_23 : decode cX6_store 23 = .ok (.iload_n 1, 1) := by decide +kernel
theorem dX6_store_24 : decode cX6_store 24 = .ok (.iaload, 1) := by decide +kernel
theorem dX6_store_25 : decode cX6_store 25 = .ok (.iconst 1, 1) := by decide +kernel
theorem dX6_store_26 : decode cX6_store 26 = .ok (.if_icmp .ne 7, 3) := by decide +kernel
theorem dX6_store_29 : decode cX6_store 29 = .ok (.iload_n 3, 1) := by decide +kernel
theorem dX6_store_30 : decode cX6_store 30 = .ok (.i2s, 1) := by decide +kernel
theorem dX6_store_31 : decode cX6_store 31 = .ok (.istore 4, 2) := by decide +kernel
theorem dX6_store_33 : decode cX6_store 33 = .ok (.aload_n 0, 1) := by decide +kernel
theorem dX6_store_34 : decode cX6_store 34 = .ok (.getfield 11, 3) := by decide +kernel
theorem dX6_store_37 : decode cX6_store 37 = .ok (.iload_n 1, 1) := by decide +kernel
theorem dX6_store_38 : decode cX6_store 38 = .ok (.bipush 60, 2) := by decide +kernel
theorem dX6_store_40 : decode cX6_store 40 = .ok (.imul, 1) := by decide +kernel
theorem dX6_store_41 : decode cX6_store 41 = .ok (.iload_n 2, 1) := by decide +kernel
theorem dX6_store_42 : decode cX6_store 42 = .ok (.iadd, 1) := by decide +kernel
theorem dX6_store_43 : decode cX6_store 43 = .ok (.iload 4, 2) := by decide +kernel
theorem dX6_store_45 : decode cX6_store 45 = .ok (.iastore, 1) := by decide +kernel
theorem dX6_store_46 : decode cX6_store 46 = .ok (.return_, 1) := by decide +kernel
theorem dX6_copyItems_0 : decode cX6_copyItems 0 = .ok (.aload_n 0, 1) := by decide +kernel
theorem dX6_copyItems_1 : decode cX6_copyItems 1 = .ok (.iload_n 1, 1) := by decide +kernel
theorem dX6_copyItems_2 : decode cX6_copyItems 2 = .ok (.invokevirtual 31, 3) := by decide +kernel
theorem dX6_copyItems_5 : decode cX6_copyItems 5 = .ok (.ifCond .ne 11, 3) := by decide +kernel
theorem dX6_copyItems_8 : decode cX6_copyItems 8 = .ok (.aload_n 0, 1) := by decide +kernel
theorem dX6_copyItems_9 : decode cX6_copyItems 9 = .ok (.iload_n 3, 1) := by decide +kernel
theorem dX6_copyItems_10 : decode cX6_copyItems 10 = .ok (.invokevirtual 31, 3) := by decide +kernel
theorem dX6_copyItems_13 : decode cX6_copyItems 13 = .ok (.ifCond .eq 9, 3) := by decide +kernel
theorem dX6_copyItems_16 : decode cX6_copyItems 16 = .ok (.aload_n 0, 1) := by decide +kernel
theorem dX6_copyItems_17 : decode cX6_copyItems 17 = .ok (.iconst 1, 1) := by decide +kernel
theorem dX6_copyItems_18 : decode cX6_copyItems 18 = .ok (.invokevirtual 35, 3) := by decide +kernel
theorem dX6_copyItems_21 : decode cX6_copyItems 21 = .ok (.ireturn, 1) := by decide +kernel
theorem dX6_copyItems_22 : decode cX6_copyItems 22 = .ok (.aload_n 0, 1) := by decide +kernel
theorem dX6_copyItems_23 : decode cX6_copyItems 23 = .ok (.getfield 15, 3) := by decide +kernel
theorem dX6_copyItems_26 : decode cX6_copyItems 26 = .ok (.iload_n 1, 1) := by decide +kernel
theorem dX6_copyItems_27 : decode cX6_copyItems 27 = .ok (.iaload, 1) := by decide +kernel
theorem dX6_copyItems_28 : decode cX6_copyItems 28 = .ok (.aload_n 0, 1) := by decide +kernel
theorem dX6_copyItems_29 : decode cX6_copyItems 29 = .ok (.getfield 15, 3) := by decide +kernel
theorem dX6_copyItems_32 : decode cX6_copyItems 32 = .ok (.iload_n 3, 1) := by decide +kernel
theorem dX6_copyItems_33 : decode cX6_copyItems 33 = .ok (.iaload, 1) := by decide +kernel
theorem dX6_copyItems_34 : decode cX6_copyItems 34 = .ok (.if_icmp .eq 9, 3) := by decide +kernel
theorem dX6_copyItems_37 : decode cX6_copyItems 37 = .ok (.aload_n 0, 1) := by decide +kernel
theorem dX6_copyItems_38 : decode cX6_copyItems 38 = .ok (.iconst 4, 1) := by decide +kernel
theorem dX6_copyItems_39 : decode cX6_copyItems 39 = .ok (.invokevirtual 35, 3) := by decide +kernel
theorem dX6_copyItems_42 : decode cX6_copyItems 42 = .ok (.ireturn, 1) := by decide +kernel
theorem dX6_copyItems_43 : decode cX6_copyItems 43 = .ok (.aload_n 0, 1) := by decide +kernel
theorem dX6_copyItems_44 : decode cX6_copyItems 44 = .ok (.iload_n 1, 1) := by decide +kernel
theorem dX6_copyItems_45 : decode cX6_copyItems 45 = .ok (.iload_n 2, 1) := by decide +kernel
theorem dX6_copyItems_46 : decode cX6_copyItems 46 = .ok (.iload 5, 2) := by decide +kernel
theorem dX6_copyItems_48 : decode cX6_copyItems 48 = .ok (.invokevirtual 43, 3) := by decide +kernel
theorem dX6_copyItems_51 : decode cX6_copyItems 51 = .ok (.ifCond .eq 15, 3) := by decide +kernel
theorem dX6_copyItems_54 : decode cX6_copyItems 54 = .ok (.aload_n 0, 1) := by decide +kernel
theorem dX6_copyItems_55 : decode cX6_copyItems 55 = .ok (.iload_n 3, 1) := by decide +kernel
theorem dX6_copyItems_56 : decode cX6_copyItems 56 = .ok (.iload 4, 2) := by decide +kernel
theorem dX6_copyItems_58 : decode cX6_copyItems 58 = .ok (.iload 5, 2) := by decide +kernel
theorem dX6_copyItems_60 : decode cX6_copyItems 60 = .ok (.invokevirtual 43, 3) := by decide +kernel
theorem dX6_copyItems_63 : decode cX6_copyItems 63 = .ok (.ifCond .ne 9, 3) := by decide +kernel
theorem dX6_copyItems_66 : decode cX6_copyItems 66 = .ok (.aload_n 0, 1) := by decide +kernel
theorem dX6_copyItems_67 : decode cX6_copyItems 67 = .ok (.iconst 2, 1) := by decide +kernel
theorem dX6_copyItems_68 : decode cX6_copyItems 68 = .ok (.invokevirtual 35, 3) := by decide +kernel
theorem dX6_copyItems_71 : decode cX6_copyItems 71 = .ok (.ireturn, 1) := by decide +kernel
theorem dX6_copyItems_72 : decode cX6_copyItems 72 = .ok (.aload_n 0, 1) := by decide +kernel
theorem dX6_copyItems_73 : decode cX6_copyItems 73 = .ok (.getfield 11, 3) := by decide +kernel
theorem dX6_copyItems_76 : decode cX6_copyItems 76 = .ok (.iload_n 1, 1) := by decide +kernel
theorem dX6_copyItems_77 : decode cX6_copyItems 77 = .ok (.bipush 60, 2) := by decide +kernel
theorem dX6_copyItems_79 : decode cX6_copyItems 79 = .ok (.imul, 1) := by decide +kernel
theorem dX6_copyItems_80 : decode cX6_copyItems 80 = .ok (.iload_n 2, 1) := by decide +kernel
theorem dX6_copyItems_81 : decode cX6_copyItems 81 = .ok (.iadd, 1) := by decide +kernel
theorem dX6_copyItems_82 : decode cX6_copyItems 82 = .ok (.aload_n 0, 1) := by decide +kernel
theorem dX6_copyItems_83 : decode cX6_copyItems 83 = .ok (.getfield 11, 3) := by decide +kernel
theorem dX6_copyItems_86 : decode cX6_copyItems 86 = .ok (.iload_n 3, 1) := by decide +kernel
theorem dX6_copyItems_87 : decode cX6_copyItems 87 = .ok (.bipush 60, 2) := by decide +kernel
theorem dX6_copyItems_89 : decode cX6_copyItems 89 = .ok (.imul, 1) := by decide +kernel
theorem dX6_copyItems_90 : decode cX6_copyItems 90 = .ok (.iload 4, 2) := by decide +kernel
theorem dX6_copyItems_92 : decode cX6_copyItems 92 = .ok (.iadd, 1) := by decide +kernel
theorem dX6_copyItems_93 : decode cX6_copyItems 93 = .ok (.iload 5, 2) := by decide +kernel
theorem dX6_copyItems_95 : decode cX6_copyItems 95 = .ok (.invokestatic 47, 3) := by decide +kernel
theorem dX6_copyItems_98 : decode cX6_copyItems 98 = .ok (.iconst 1, 1) := by decide +kernel
theorem dX6_copyItems_99 : decode cX6_copyItems 99 = .ok (.ireturn, 1) := by decide +kernel
theorem dX6_hasItems_0 : decode cX6_hasItems 0 = .ok (.iload_n 2, 1) := by decide +kernel
theorem dX6_hasItems_1 : decode cX6_hasItems 1 = .ok (.ifCond .lt 33, 3) := by decide +kernel
theorem dX6_hasItems_4 : decode cX6_hasItems 4 = .ok (.iload_n 3, 1) := by decide +kernel
theorem dX6_hasItems_5 : decode cX6_hasItems 5 = .ok (.ifCond .lt 29, 3) := by decide +kernel
theorem dX6_hasItems_8 : decode cX6_hasItems 8 = .ok (.iload_n 3, 1) := by decide +kernel
theorem dX6_hasItems_9 : decode cX6_hasItems 9 = .ok (.aload_n 0, 1) := by decide +kernel
theorem dX6_hasItems_10 : decode cX6_hasItems 10 = .ok (.getfield 18, 3) := by decide +kernel
theorem dX6_hasItems_13 : decode cX6_hasItems 13 = .ok (.iload_n 1, 1) := by decide +kernel
theorem dX6_hasItems_14 : decode cX6_hasItems 14 = .ok (.iaload, 1) := by decide +kernel
theorem dX6_hasItems_15 : decode cX6_hasItems 15 = .ok (.if_icmp .gt 19, 3) := by decide +kernel
theorem dX6_hasItems_18 : decode cX6_hasItems 18 = .ok (.iload_n 2, 1) := by decide +kernel
theorem dX6_hasItems_19 : decode cX6_hasItems 19 = .ok (.aload_n 0, 1) := by decide +kernel
theorem dX6_hasItems_20 : decode cX6_hasItems 20 = .ok (.getfield 18, 3) := by decide +kernel
theorem dX6_hasItems_23 : decode cX6_hasItems 23 = .ok (.iload_n 1, 1) := by decide +kernel
theorem dX6_hasItems_24 : decode cX6_hasItems 24 = .ok (.iaload, 1) := by decide +kernel
theorem dX6_hasItems_25 : decode cX6_hasItems 25 = .ok (.iload_n 3, 1) := by decide +kernel
theorem dX6_hasItems_26 : decode cX6_hasItems 26 = .ok (.isub, 1) := by decide +kernel
theorem dX6_hasItems_27 : decode cX6_hasItems 27 = .ok (.if_icmp .gt 7, 3) := by decide +kernel
theorem dX6_hasItems_30 : decode cX6_hasItems 30 = .ok (.iconst 1, 1) := by decide +kernel
theorem dX6_hasItems_31 : decode cX6_hasItems 31 = .ok (.goto 4, 3) := by decide +kernel
theorem dX6_hasItems_34 : decode cX6_hasItems 34 = .ok (.iconst 0, 1) := by decide +kernel
theorem dX6_hasItems_35 : decode cX6_hasItems 35 = .ok (.ireturn, 1) := by decide +kernel
theorem dX7_init_0 : decode cX7_init 0 = .ok (.aload_n 0, 1) := by decide +kernel
theorem dX7_init_1 : decode cX7_init 1 = .ok (.invokespecial 3, 3) := by decide +kernel
theorem dX7_init_4 : decode cX7_init 4 = .ok (.aload_n 0, 1) := by decide +kernel
theorem dX7_init_5 : decode cX7_init 5 = .ok (.aload_n 1, 1) := by decide +kernel
theorem dX7_init_6 : decode cX7_init 6 = .ok (.putfield 9, 3) := by decide +kernel
theorem dX7_init_9 : decode cX7_init 9 = .ok (.aload_n 0, 1) := by decide +kernel
theorem dX7_init_10 : decode cX7_init 10 = .ok (.aload_n 2, 1) := by decide +kernel
theorem dX7_init_11 : decode cX7_init 11 = .ok (.putfield 15, 3) := by decide +kernel
theorem dX7_init_14 : decode cX7_init 14 = .ok (.aload_n 0, 1) := by decide +kernel
theorem dX7_init_15 : decode cX7_init 15 = .ok (.sipush 400, 3) := by decide +kernel
theorem dX7_init_18 : decode cX7_init 18 = .ok (.newarray .int, 2) := by decide +kernel
theorem dX7_init_20 : decode cX7_init 20 = .ok (.putfield 19, 3) := by decide +kernel
theorem dX7_init_23 : decode cX7_init 23 = .ok (.aload_n 0, 1) := by decide +kernel
theorem dX7_init_24 : decode cX7_init 24 = .ok (.iconst 0, 1) := by decide +kernel
theorem dX7_init_25 : decode cX7_init 25 = .ok (.putfield 23, 3) := by decide +kernel
theorem dX7_init_28 : decode cX7_init 28 = .ok (.return_, 1) := by decide +kernel
theorem dX7_findOut_0 : decode cX7_findOut 0 = .ok (.aload_n 0, 1) := by decide +kernel
theorem dX7_findOut_1 : decode cX7_findOut 1 = .ok (.getfield 23, 3) := by decide +kernel
theorem dX7_findOut_4 : decode cX7_findOut 4 = .ok (.ifCond .eq 4, 3) := by decide +kernel
theorem dX7_findOut_7 : decode cX7_findOut 7 = .ok (.return_, 1) := by decide +kernel
theorem dX7_findOut_8 : decode cX7_findOut 8 = .ok (.iconst 0, 1) := by decide +kernel
theorem dX7_findOut_9 : decode cX7_findOut 9 = .ok (.istore 4, 2) := by decide +kernel
theorem dX7_findOut_11 : decode cX7_findOut 11 = .ok (.iload 4, 2) := by decide +kernel
theorem dX7_findOut_13 : decode cX7_findOut 13 = .ok (.aload_n 0, 1) := by decide +kernel
theorem dX7_findOut_14 : decode cX7_findOut 14 = .ok (.getfield 9, 3) := by decide +kernel
theorem dX7_findOut_17 : decode cX7_findOut 17 = .ok (.getfield 27, 3) := by decide +kernel
theorem dX7_findOut_20 : decode cX7_findOut 20 = .ok (.if_icmp .ge 43, 3) := by decide +kernel
theorem dX7_findOut_23 : decode cX7_findOut 23 = .ok (.aload_n 0, 1) := by decide +kernel
theorem dX7_findOut_24 : decode cX7_findOut 24 = .ok (.getfield 15, 3) := by decide +kernel
theorem dX7_findOut_27 : decode cX7_findOut 27 = .ok (.iload_n 1, 1) := by decide +kernel
theorem dX7_findOut_28 : decode cX7_findOut 28 = .ok (.iload_n 2, 1) := by decide +kernel
theorem dX7_findOut_29 : decode cX7_findOut 29 = .ok (.iload_n 3, 1) := by decide +kernel
theorem dX7_findOut_30 : decode cX7_findOut 30 = .ok (.iload 4, 2) := by decide +kernel
theorem dX7_findOut_32 : decode cX7_findOut 32 = .ok (.invokevirtual 33, 3) := by decide +kernel
theorem dX7_findOut_35 : decode cX7_findOut 35 = .ok (.aload_n 0, 1) := by decide +kernel
theorem dX7_findOut_36 : decode cX7_findOut 36 = .ok (.getfield 15, 3) := by decide +kernel
theorem dX7_findOut_39 : decode cX7_findOut 39 = .ok (.getfield 39, 3) := by decide +kernel
theorem dX7_findOut_42 : decode cX7_findOut 42 = .ok (.iconst 0, 1) := by decide +kernel
theorem dX7_findOut_43 : decode cX7_findOut 43 = .ok (.aload_n 0, 1) := by decide +kernel
theorem dX7_findOut_44 : decode cX7_findOut 44 = .ok (.getfield 19, 3) := by decide +kernel
theorem dX7_findOut_47 : decode cX7_findOut 47 = .ok (.iload 4, 2) := by decide +kernel
theorem dX7_findOut_49 : decode cX7_findOut 49 = .ok (.bipush 20, 2) := by decide +kernel
theorem dX7_findOut_51 : decode cX7_findOut 51 = .ok (.imul, 1) := by decide +kernel
theorem dX7_findOut_52 : decode cX7_findOut 52 = .ok (.bipush 20, 2) := by decide +kernel
theorem dX7_findOut_54 : decode cX7_findOut 54 = .ok (.invokestatic 42, 3) := by decide +kernel
theorem dX7_findOut_57 : decode cX7_findOut 57 = .ok (.iinc 4 1, 3) := by decide +kernel
theorem dX7_findOut_60 : decode cX7_findOut 60 = .ok (.goto (-49), 3) := by decide +kernel
theorem dX7_findOut_63 : decode cX7_findOut 63 = .ok (.aload_n 0, 1) := by decide +kernel
theorem dX7_findOut_64 : decode cX7_findOut 64 = .ok (.iconst 1, 1) := by decide +kernel
theorem dX7_findOut_65 : decode cX7_findOut 65 = .ok (.putfield 23, 3) := by decide +kernel
theorem dX7_findOut_68 : decode cX7_findOut 68 = .ok (.return_, 1) := by decide +kernel
theorem dX8_init_0 : decode cX8_init 0 = .ok (.aload_n 0, 1) := by decide +kernel
theorem dX8_init_1 : decode cX8_init 1 = .ok (.invokespecial 3, 3) := by decide +kernel
theorem dX8_init_4 : decode cX8_init 4 = .ok (.aload_n 0, 1) := by decide +kernel
theorem dX8_init_5 : decode cX8_init 5 = .ok (.aload_n 1, 1) := by decide +kernel
theorem dX8_init_6 : decode cX8_init 6 = .ok (.putfield 9, 3) := by decide +kernel
theorem dX8_init_9 : decode cX8_init 9 = .ok (.aload_n 0, 1) := by decide +kernel
theorem dX8_init_10 : decode cX8_init 10 = .ok (.aload_n 2, 1) := by decide +kernel
theorem dX8_init_11 : decode cX8_init 11 = .ok (.putfield 15, 3) := by decide +kernel
theorem dX8_init_14 : decode cX8_init 14 = .ok (.aload_n 0, 1) := by decide +kernel
theorem dX8_init_15 : decode cX8_init 15 = .ok (.sipush 640, 3) := by decide +kernel
theorem dX8_init_18 : decode cX8_init 18 = .ok (.newarray .int, 2) := by decide +kernel
theorem dX8_init_20 : decode cX8_init 20 = .ok (.putfield 19, 3) := by decide +kernel
theorem dX8_init_23 : decode cX8_init 23 = .ok (.aload_n 0, 1) := by decide +kernel
theorem dX8_init_24 : decode cX8_init 24 = .ok (.bipush 20, 2) := by decide +kernel
theorem dX8_init_26 : decode cX8_init 26 = .ok (.newarray .int, 2) := by decide +kernel
theorem dX8_init_28 : decode cX8_init 28 = .ok (.putfield 23, 3) := by decide +kernel
theorem dX8_init_31 : decode cX8_init 31 = .ok (.aload_n 0, 1) := by decide +kernel
theorem dX8_init_32 : decode cX8_init 32 = .ok (.bipush 20, 2) := by decide +kernel
theorem dX8_init_34 : decode cX8_init 34 = .ok (.newarray .int, 2) := by decide +kernel
theorem dX8_init_36 : decode cX8_init 36 = .ok (.putfield 26, 3) := by decide +kernel
theorem dX8_init_39 : decode cX8_init 39 = .ok (.aload_n 0, 1) := by decide +kernel
theorem dX8_init_40 : decode cX8_init 40 = .ok (.bipush 20, 2) := by decide +kernel
theorem dX8_init_42 : decode cX8_init 42 = .ok (.newarray .int, 2) := by decide +kernel
theorem dX8_init_44 : decode cX8_init 44 = .ok (.putfield 29, 3) := by decide +kernel
theorem dX8_init_47 : decode cX8_init 47 = .ok (.aload_n 0, 1) := by decide +kernel
theorem dX8_init_48 : decode cX8_init 48 = .ok (.bipush 20, 2) := by decide +kernel
theorem dX8_init_50 : decode cX8_init 50 = .ok (.newarray .int, 2) := by decide +kernel
theorem dX8_init_52 : decode cX8_init 52 = .ok (.putfield 32, 3) := by decide +kernel
theorem dX8_init_55 : decode cX8_init 55 = .ok (.return_, 1) := by decide +kernel
theorem dX8_run_0 : decode cX8_run 0 = .ok (.aload_n 0, 1) := by decide +kernel
theorem dX8_run_1 : decode cX8_run 1 = .ok (.invokevirtual 35, 3) := by decide +kernel
theorem dX8_run_4 : decode cX8_run 4 = .ok (.aload_n 0, 1) := by decide +kernel
theorem dX8_run_5 : decode cX8_run 5 = .ok (.iload 4, 2) := by decide +kernel
theorem dX8_run_7 : decode cX8_run 7 = .ok (.putfield 38, 3) := by decide +kernel
theorem dX8_run_10 : decode cX8_run 10 = .ok (.iload_n 2, 1) := by decide +kernel
theorem dX8_run_11 : decode cX8_run 11 = .ok (.iconst (-1), 1) := by decide +kernel
theorem dX8_run_12 : decode cX8_run 12 = .ok (.if_icmp .eq 18, 3) := by decide +kernel
theorem dX8_run_15 : decode cX8_run 15 = .ok (.iload_n 2, 1) := by decide +kernel
theorem dX8_run_16 : decode cX8_run 16 = .ok (.aload_n 0, 1) := by decide +kernel
theorem dX8_run_17 : decode cX8_run 17 = .ok (.getfield 9, 3) := by decide +kernel
theorem dX8_run_20 : decode cX8_run 20 = .ok (.getfield 42, 3) := by decide +kernel
theorem dX8_run_23 : decode cX8_run 23 = .ok (.if_icmp .ge 7, 3) := by decide +kernel
theorem dX8_run_26 : decode cX8_run 26 = .ok (.iconst 1, 1) := by decide +kernel
theorem dX8_run_27 : decode cX8_run 27 = .ok (.goto 4, 3) := by decide +kernel
theorem dX8_run_30 : decode cX8_run 30 = .ok (.iconst 0, 1) := by decide +kernel
theorem dX8_run_31 : decode cX8_run 31 = .ok (.istore 5, 2) := by decide +kernel
theorem dX8_run_33 : decode cX8_run 33 = .ok (.iload_n 1, 1) := by decide +kernel
theorem dX8_run_34 : decode cX8_run 34 = .ok (.aload_n 0, 1) := by decide +kernel
theorem dX8_run_35 : decode cX8_run 35 = .ok (.getfield 9, 3) := by decide +kernel
theorem dX8_run_38 : decode cX8_run 38 = .ok (.getfield 42, 3) := by decide +kernel
theorem dX8_run_41 : decode cX8_run 41 = .ok (.if_icmp .ge 18, 3) := by decide +kernel
theorem dX8_run_44 : decode cX8_run 44 = .ok (.aload_n 0, 1) := by decide +kernel
theorem dX8_run_45 : decode cX8_run 45 = .ok (.getfield 19, 3) := by decide +kernel
theorem dX8_run_48 : decode cX8_run 48 = .ok (.iload_n 1, 1) := by decide +kernel
theorem dX8_run_49 : decode cX8_run 49 = .ok (.dup2, 1) := by decide +kernel
theorem dX8_run_50 : decode cX8_run 50 = .ok (.iaload, 1) := by decide +kernel
theorem dX8_run_51 : decode cX8_run 51 = .ok (.iconst 1, 1) := by decide +kernel
theorem dX8_run_52 : decode cX8_run 52 = .ok (.ior, 1) := by decide +kernel
theorem dX8_run_53 : decode cX8_run 53 = .ok (.iastore, 1) := by decide +kernel
theorem dX8_run_54 : decode cX8_run 54 = .ok (.aload_n 0, 1) := by decide +kernel
theorem dX8_run_55 : decode cX8_run 55 = .ok (.iconst 0, 1) := by decide +kernel
theorem dX8_run_56 : decode cX8_run 56 = .ok (.putfield 47, 3) := by decide +kernel
theorem dX8_run_59 : decode cX8_run 59 = .ok (.iload 5, 2) := by decide +kernel
theorem dX8_run_61 : decode cX8_run 61 = .ok (.ifCond .eq 8, 3) := by decide +kernel
theorem dX8_run_64 : decode cX8_run 64 = .ok (.aload_n 0, 1) := by decide +kernel
theorem dX8_run_65 : decode cX8_run 65 = .ok (.iload_n 3, 1) := by decide +kernel
theorem dX8_run_66 : decode cX8_run 66 = .ok (.putfield 47, 3) := by decide +kernel
theorem dX8_run_69 : decode cX8_run 69 = .ok (.iconst 0, 1) := by decide +kernel
theorem dX8_run_70 : decode cX8_run 70 = .ok (.istore 6, 2) := by decide +kernel
theorem dX8_run_72 : decode cX8_run 72 = .ok (.iload 6, 2) := by decide +kernel
theorem dX8_run_74 : decode cX8_run 74 = .ok (.sipush 400, 3) := by decide +kernel
theorem dX8_run_77 : decode cX8_run 77 = .ok (.if_icmp .gt 90, 3) := by decide +kernel
theorem dX8_run_80 : decode cX8_run 80 = .ok (.iload 6, 2) := by decide +kernel
theorem dX8_run_82 : decode cX8_run 82 = .ok (.aload_n 0, 1) := by decide +kernel
theorem dX8_run_83 : decode cX8_run 83 = .ok (.getfield 47, 3) := by decide +kernel
theorem dX8_run_86 : decode cX8_run 86 = .ok (.if_icmp .gt 81, 3) := by decide +kernel
theorem dX8_run_89 : decode cX8_run 89 = .ok (.aload_n 0, 1) := by decide +kernel
theorem dX8_run_90 : decode cX8_run 90 = .ok (.getfield 15, 3) := by decide +kernel
theorem dX8_run_93 : decode cX8_run 93 = .ok (.ifnonnull 10, 3) := by decide +kernel
theorem dX8_run_96 : decode cX8_run 96 = .ok (.aload_n 0, 1) := by decide +kernel
theorem dX8_run_97 : decode cX8_run 97 = .ok (.getfield 50, 3) := by decide +kernel
theorem dX8_run_100 : decode cX8_run 100 = .ok (.ifCond .le 67, 3) := by decide +kernel
theorem dX8_run_103 : decode cX8_run 103 = .ok (.iload 6, 2) := by decide +kernel
theorem dX8_run_105 : decode cX8_run 105 = .ok (.bipush 32, 2) := by decide +kernel
theorem dX8_run_107 : decode cX8_run 107 = .ok (.irem, 1) := by decide +kernel
theorem dX8_run_108 : decode cX8_run 108 = .ok (.bipush 20, 2) := by decide +kernel
theorem dX8_run_110 : decode cX8_run 110 = .ok (.imul, 1) := by decide +kernel
theorem dX8_run_111 : decode cX8_run 111 = .ok (.istore 7, 2) := by decide +kernel
theorem dX8_run_113 : decode cX8_run 113 = .ok (.iload 5, 2) := by decide +kernel
theorem dX8_run_115 : decode cX8_run 115 = .ok (.ifCond .eq 22, 3) := by decide +kernel
theorem dX8_run_118 : decode cX8_run 118 = .ok (.iload 6, 2) := by decide +kernel
theorem dX8_run_120 : decode cX8_run 120 = .ok (.iload_n 3, 1) := by decide +kernel
theorem dX8_run_121 : decode cX8_run 121 = .ok (.if_icmp .ne 16, 3) := by decide +kernel
theorem dX8_run_124 : decode cX8_run 124 = .ok (.aload_n 0, 1) := by decide +kernel
theorem dX8_run_125 : decode cX8_run 125 = .ok (.getfield 19, 3) := by decide +kernel
theorem dX8_run_128 : decode cX8_run 128 = .ok (.iload 7, 2) := by decide +kernel
theorem dX8_run_130 : decode cX8_run 130 = .ok (.iload_n 2, 1) := by decide +kernel
theorem dX8_run_131 : decode cX8_run 131 = .ok (.iadd, 1) := by decide +kernel
theorem dX8_run_132 : decode cX8_run 132 = .ok (.dup2, 1) := by decide +kernel
theorem dX8_run_133 : decode cX8_run 133 = .ok (.iaload, 1) := by decide +kernel
theorem dX8_run_134 : decode cX8_run 134 = .ok (.iconst 2, 1) := by decide +kernel
theorem dX8_run_135 : decode cX8_run 135 = .ok (.ior, 1) := by decide +kernel
theorem dX8_run_136 : decode cX8_run 136 = .ok (.iastore, 1) := by decide +kernel
theorem dX8_run_137 : decode cX8_run 137 = .ok (.aload_n 0, 1) := by decide +kernel
theorem dX8_run_138 : decode cX8_run 138 = .ok (.getfield 15, 3) := by decide +kernel
theorem dX8_run_141 : decode cX8_run 141 = .ok (.ifnull 12, 3) := by decide +kernel
theorem dX8_run_144 : decode cX8_run 144 = .ok (.aload_n 0, 1) := by decide +kernel
theorem dX8_run_145 : decode cX8_run 145 = .ok (.getfield 15, 3) := by decide +kernel
theorem dX8_run_148 : decode cX8_run 148 = .ok (.bipush 64, 2) := by decide +kernel
theorem dX8_run_150 : decode cX8_run 150 = .ok (.invokevirtual 53, 3) := by decide +kernel
theorem dX8_run_153 : decode cX8_run 153 = .ok (.aload_n 0, 1) := by decide +kernel
theorem dX8_run_154 : decode cX8_run 154 = .ok (.iload 6, 2) := by decide +kernel
theorem dX8_run_156 : decode cX8_run 156 = .ok (.iload 7, 2) := by decide +kernel
theorem dX8_run_158 : decode cX8_run 158 = .ok (.invokevirtual 59, 3) := by decide +kernel
theorem dX8_run_161 : decode cX8_run 161 = .ok (.iinc 6 1, 3) := by decide +kernel
theorem dX8_run_164 : decode cX8_run 164 = .ok (.goto (-92), 3) := by decide +kernel
theorem dX8_run_167 : decode cX8_run 167 = .ok (.return_, 1) := by decide +kernel
theorem dX8_clear_0 : decode cX8_clear 0 = .ok (.aload_n 0, 1) := by decide +kernel
theorem dX8_clear_1 : decode cX8_clear 1 = .ok (.getfield 19, 3) := by decide +kernel
theorem dX8_clear_4 : decode cX8_clear 4 = .ok (.iconst 0, 1) := by decide +kernel
theorem dX8_clear_5 : decode cX8_clear 5 = .ok (.invokestatic 63, 3) := by decide +kernel
theorem dX8_clear_8 : decode cX8_clear 8 = .ok (.aload_n 0, 1) := by decide +kernel
theorem dX8_clear_9 : decode cX8_clear 9 = .ok (.getfield 23, 3) := by decide +kernel
theorem dX8_clear_12 : decode cX8_clear 12 = .ok (.iconst 0, 1) := by decide +kernel
