theorem dX0_init_0 : decode cX0_init 0 = .ok (.aload_n 0, 1) := by decide +kernel
theorem dX0_init_1 : decode cX0_init 1 = .ok (.invokespecial 5, 3) := by decide +kernel
theorem dX0_init_4 : decode cX0_init 4 = .ok (.aload_n 0, 1) := by decide +kernel
theorem dX0_init_5 : decode cX0_init 5 = .ok (.aload_n 1, 1) := by decide +kernel
theorem dX0_init_6 : decode cX0_init 6 = .ok (.putfield 11, 3) := by decide +kernel
theorem dX0_init_9 : decode cX0_init 9 = .ok (.aload_n 0, 1) := by decide +kernel
theorem dX0_init_10 : decode cX0_init 10 = .ok (.new 15, 3) := by decide +kernel
theorem dX0_init_13 : decode cX0_init 13 = .ok (.dup, 1) := by decide +kernel
theorem dX0_init_14 : decode cX0_init 14 = .ok (.aload_n 1, 1) := by decide +kernel
theorem dX0_init_15 : decode cX0_init 15 = .ok (.iconst 3, 1) := by decide +kernel
theorem dX0_init_16 : decode cX0_init 16 = .ok (.bipush 6, 2) := by decide +kernel
theorem dX0_init_18 : decode cX0_init 18 = .ok (.bipush 12, 2) := by decide +kernel
theorem dX0_init_20 : decode cX0_init 20 = .ok (.invokespecial 17, 3) := by decide +kernel
theorem dX0_init_23 : decode cX0_init 23 = .ok (.putfield 20, 3) := by decide +kernel
theorem dX0_init_26 : decode cX0_init 26 = .ok (.aload_n 0, 1) := by decide +kernel
theorem dX0_init_27 : decode cX0_init 27 = .ok (.new 15, 3) := by decide +kernel
theorem dX0_init_30 : decode cX0_init 30 = .ok (.dup, 1) := by decide +kernel
theorem dX0_init_31 : decode cX0_init 31 = .ok (.aload_n 1, 1) := by decide +kernel
theorem dX0_init_32 : decode cX0_init 32 = .ok (.bipush 76, 2) := by decide +kernel
theorem dX0_init_34 : decode cX0_init 34 = .ok (.bipush 8, 2) := by decide +kernel
theorem dX0_init_36 : decode cX0_init 36 = .ok (.bipush 7, 2) := by decide +kernel
theorem dX0_init_38 : decode cX0_init 38 = .ok (.invokespecial 17, 3) := by decide +kernel
theorem dX0_init_41 : decode cX0_init 41 = .ok (.putfield 24, 3) := by decide +kernel
theorem dX0_init_44 : decode cX0_init 44 = .ok (.aload_n 0, 1) := by decide +kernel
theorem dX0_init_45 : decode cX0_init 45 = .ok (.new 15, 3) := by decide +kernel
theorem dX0_init_48 : decode cX0_init 48 = .ok (.dup, 1) := by decide +kernel
theorem dX0_init_49 : decode cX0_init 49 = .ok (.aload_n 1, 1) := by decide +kernel
theorem dX0_init_50 : decode cX0_init 50 = .ok (.sipush 133, 3) := by decide +kernel
theorem dX0_init_53 : decode cX0_init 53 = .ok (.bipush 24, 2) := by decide +kernel
theorem dX0_init_55 : decode cX0_init 55 = .ok (.bipush 7, 2) := by decide +kernel
theorem dX0_init_57 : decode cX0_init 57 = .ok (.invokespecial 17, 3) := by decide +kernel
theorem dX0_init_60 : decode cX0_init 60 = .ok (.putfield 27, 3) := by decide +kernel
theorem dX0_init_63 : decode cX0_init 63 = .ok (.aload_n 0, 1) := by decide +kernel
theorem dX0_init_64 : decode cX0_init 64 = .ok (.new 15, 3) := by decide +kernel
theorem dX0_init_67 : decode cX0_init 67 = .ok (.dup, 1) := by decide +kernel
theorem dX0_init_68 : decode cX0_init 68 = .ok (.aload_n 1, 1) := by decide +kernel
theorem dX0_init_69 : decode cX0_init 69 = .ok (.sipush 302, 3) := by decide +kernel
theorem dX0_init_72 : decode cX0_init 72 = .ok (.bipush 6, 2) := by decide +kernel
theorem dX0_init_74 : decode cX0_init 74 = .ok (.bipush 8, 2) := by decide +kernel
theorem dX0_init_76 : decode cX0_init 76 = .ok (.invokespecial 17, 3) := by decide +kernel
theorem dX0_init_79 : decode cX0_init 79 = .ok (.putfield 30, 3) := by decide +kernel
theorem dX0_init_82 : decode cX0_init 82 = .ok (.aload_n 1, 1) := by decide +kernel
theorem dX0_init_83 : decode cX0_init 83 = .ok (.iconst 1, 1) := by decide +kernel
theorem dX0_init_84 : decode cX0_init 84 = .ok (.bipush 60, 2) := by decide +kernel
theorem dX0_init_86 : decode cX0_init 86 = .ok (.iastore, 1) := by decide +kernel
theorem dX0_init_87 : decode cX0_init 87 = .ok (.aload_n 1, 1) := by decide +kernel
theorem dX0_init_88 : decode cX0_init 88 = .ok (.iconst 2, 1) := by decide +kernel
theorem dX0_init_89 : decode cX0_init 89 = .ok (.sipush 5000, 3) := by decide +kernel
theorem dX0_init_92 : decode cX0_init 92 = .ok (.iastore, 1) := by decide +kernel
theorem dX0_init_93 : decode cX0_init 93 = .ok (.aload_n 0, 1) := by decide +kernel
theorem dX0_init_94 : decode cX0_init 94 = .ok (.invokevirtual 33, 3) := by decide +kernel
theorem dX0_init_97 : decode cX0_init 97 = .ok (.pop, 1) := by decide +kernel
theorem dX0_init_98 : decode cX0_init 98 = .ok (.return_, 1) := by decide +kernel
theorem dX0_saveTo_0 : decode cX0_saveTo 0 = .ok (.aload_n 0, 1) := by decide +kernel
theorem dX0_saveTo_1 : decode cX0_saveTo 1 = .ok (.getfield 11, 3) := by decide +kernel
theorem dX0_saveTo_4 : decode cX0_saveTo 4 = .ok (.iconst 0, 1) := by decide +kernel
theorem dX0_saveTo_5 : decode cX0_saveTo 5 = .ok (.aload_n 1, 1) := by decide +kernel
theorem dX0_saveTo_6 : decode cX0_saveTo 6 = .ok (.iconst 0, 1) := by decide +kernel
theorem dX0_saveTo_7 : decode cX0_saveTo 7 = .ok (.sipush 351, 3) := by decide +kernel
theorem dX0_saveTo_10 : decode cX0_saveTo 10 = .ok (.invokestatic 37, 3) := by decide +kernel
theorem dX0_saveTo_13 : decode cX0_saveTo 13 = .ok (.return_, 1) := by decide +kernel
theorem dX0_addPurpose_0 : decode cX0_addPurpose 0 = .ok (.aload_n 0, 1) := by decide +kernel
theorem dX0_addPurpose_1 : decode cX0_addPurpose 1 = .ok (.getfield 20, 3) := by decide +kernel
theorem dX0_addPurpose_4 : decode cX0_addPurpose 4 = .ok (.invokevirtual 43, 3) := by decide +kernel
theorem dX0_addPurpose_7 : decode cX0_addPurpose 7 = .ok (.istore_n 1, 1) := by decide +kernel
theorem dX0_addPurpose_8 : decode cX0_addPurpose 8 = .ok (.iload_n 1, 1) := by decide +kernel
theorem dX0_addPurpose_9 : decode cX0_addPurpose 9 = .ok (.iconst (-1), 1) := by decide +kernel
theorem dX0_addPurpose_10 : decode cX0_addPurpose 10 = .ok (.if_icmp .ne 6, 3) := by decide +kernel
theorem dX0_addPurpose_13 : decode cX0_addPurpose 13 = .ok (.bipush (-3), 2) := by decide +kernel
theorem dX0_addPurpose_15 : decode cX0_addPurpose 15 = .ok (.ireturn, 1) := by decide +kernel
theorem dX0_addPurpose_16 : decode cX0_addPurpose 16 = .ok (.aload_n 0, 1) := by decide +kernel
theorem dX0_addPurpose_17 : decode cX0_addPurpose 17 = .ok (.getfield 20, 3) := by decide +kernel
theorem dX0_addPurpose_20 : decode cX0_addPurpose 20 = .ok (.iload_n 1, 1) := by decide +kernel
theorem dX0_addPurpose_21 : decode cX0_addPurpose 21 = .ok (.bipush 9, 2) := by decide +kernel
theorem dX0_addPurpose_23 : decode cX0_addPurpose 23 = .ok (.iconst (-1), 1) := by decide +kernel
theorem dX0_addPurpose_24 : decode cX0_addPurpose 24 = .ok (.invokevirtual 46, 3) := by decide +kernel
theorem dX0_addPurpose_27 : decode cX0_addPurpose 27 = .ok (.aload_n 0, 1) := by decide +kernel
theorem dX0_addPurpose_28 : decode cX0_addPurpose 28 = .ok (.getfield 20, 3) := by decide +kernel
theorem dX0_addPurpose_31 : decode cX0_addPurpose 31 = .ok (.iload_n 1, 1) := by decide +kernel
theorem dX0_addPurpose_32 : decode cX0_addPurpose 32 = .ok (.bipush 10, 2) := by decide +kernel
theorem dX0_addPurpose_34 : decode cX0_addPurpose 34 = .ok (.iload_n 1, 1) := by decide +kernel
theorem dX0_addPurpose_35 : decode cX0_addPurpose 35 = .ok (.invokevirtual 46, 3) := by decide +kernel
theorem dX0_addPurpose_38 : decode cX0_addPurpose 38 = .ok (.iload_n 1, 1) := by decide +kernel
theorem dX0_addPurpose_39 : decode cX0_addPurpose 39 = .ok (.ireturn, 1) := by decide +kernel
theorem dX0_addDonor_0 : decode cX0_addDonor 0 = .ok (.aload_n 0, 1) := by decide +kernel
theorem dX0_addDonor_1 : decode cX0_addDonor 1 = .ok (.getfield 24, 3) := by decide +kernel
theorem dX0_addDonor_4 : decode cX0_addDonor 4 = .ok (.invokevirtual 43, 3) := by decide +kernel
theorem dX0_addDonor_7 : decode cX0_addDonor 7 = .ok (.istore_n 1, 1) := by decide +kernel
theorem dX0_addDonor_8 : decode cX0_addDonor 8 = .ok (.iload_n 1, 1) := by decide +kernel
theorem dX0_addDonor_9 : decode cX0_addDonor 9 = .ok (.iconst (-1), 1) := by decide +kernel
theorem dX0_addDonor_10 : decode cX0_addDonor 10 = .ok (.if_icmp .ne 6, 3) := by decide +kernel
theorem dX0_addDonor_13 : decode cX0_addDonor 13 = .ok (.bipush (-3), 2) := by decide +kernel
theorem dX0_addDonor_15 : decode cX0_addDonor 15 = .ok (.ireturn, 1) := by decide +kernel
theorem dX0_addDonor_16 : decode cX0_addDonor 16 = .ok (.iconst 0, 1) := by decide +kernel
theorem dX0_addDonor_17 : decode cX0_addDonor 17 = .ok (.istore_n 2, 1) := by decide +kernel
theorem dX0_addDonor_18 : decode cX0_addDonor 18 = .ok (.iload_n 2, 1) := by decide +kernel
theorem dX0_addDonor_19 : decode cX0_addDonor 19 = .ok (.bipush 6, 2) := by decide +kernel
theorem dX0_addDonor_21 : decode cX0_addDonor 21 = .ok (.if_icmp .ge 21, 3) := by decide +kernel
theorem dX0_addDonor_24 : decode cX0_addDonor 24 = .ok (.aload_n 0, 1) := by decide +kernel
theorem dX0_addDonor_25 : decode cX0_addDonor 25 = .ok (.getfield 24, 3) := by decide +kernel
theorem dX0_addDonor_28 : decode cX0_addDonor 28 = .ok (.iload_n 1, 1) := by decide +kernel
theorem dX0_addDonor_29 : decode cX0_addDonor 29 = .ok (.iconst 1, 1) := by decide +kernel
theorem dX0_addDonor_30 : decode cX0_addDonor 30 = .ok (.iload_n 2, 1) := by decide +kernel
theorem dX0_addDonor_31 : decode cX0_addDonor 31 = .ok (.iadd, 1) := by decide +kernel
theorem dX0_addDonor_32 : decode cX0_addDonor 32 = .ok (.iconst (-1), 1) := by decide +kernel
theorem dX0_addDonor_33 : decode cX0_addDonor 33 = .ok (.invokevirtual 46, 3) := by decide +kernel
theorem dX0_addDonor_36 : decode cX0_addDonor 36 = .ok (.iinc 2 1, 3) := by decide +kernel
theorem dX0_addDonor_39 : decode cX0_addDonor 39 = .ok (.goto (-21), 3) := by decide +kernel
theorem dX0_addDonor_42 : decode cX0_addDonor 42 = .ok (.iload_n 1, 1) := by decide +kernel
theorem dX0_addDonor_43 : decode cX0_addDonor 43 = .ok (.ireturn, 1) := by decide +kernel
theorem dX0_letDeclare_0 : decode cX0_letDeclare 0 = .ok (.aload_n 0, 1) := by decide +kernel
theorem dX0_letDeclare_1 : decode cX0_letDeclare 1 = .ok (.getfield 24, 3) := by decide +kernel
theorem dX0_letDeclare_4 : decode cX0_letDeclare 4 = .ok (.iload_n 1, 1) := by decide +kernel
theorem dX0_letDeclare_5 : decode cX0_letDeclare 5 = .ok (.invokevirtual 50, 3) := by decide +kernel
theorem dX0_letDeclare_8 : decode cX0_letDeclare 8 = .ok (.ifCond .eq 12, 3) := by decide +kernel
theorem dX0_letDeclare_11 : decode cX0_letDeclare 11 = .ok (.iload_n 2, 1) := by decide +kernel
theorem dX0_letDeclare_12 : decode cX0_letDeclare 12 = .ok (.iconst 0, 1) := by decide +kernel
theorem dX0_letDeclare_13 : decode cX0_letDeclare 13 = .ok (.iconst 1, 1) := by decide +kernel
theorem dX0_letDeclare_14 : decode cX0_letDeclare 14 = .ok (.invokestatic 54, 3) := by decide +kernel
theorem dX0_letDeclare_17 : decode cX0_letDeclare 17 = .ok (.ifCond .ne 5, 3) := by decide +kernel
theorem dX0_letDeclare_20 : decode cX0_letDeclare 20 = .ok (.iconst (-1), 1) := by decide +kernel
theorem dX0_letDeclare_21 : decode cX0_letDeclare 21 = .ok (.ireturn, 1) := by decide +kernel
theorem dX0_letDeclare_22 : decode cX0_letDeclare 22 = .ok (.aload_n 0, 1) := by decide +kernel
theorem dX0_letDeclare_23 : decode cX0_letDeclare 23 = .ok (.getfield 24, 3) := by decide +kernel
theorem dX0_letDeclare_26 : decode cX0_letDeclare 26 = .ok (.iload_n 1, 1) := by decide +kernel
theorem dX0_letDeclare_27 : decode cX0_letDeclare 27 = .ok (.iconst 0, 1) := by decide +kernel
theorem dX0_letDeclare_28 : decode cX0_letDeclare 28 = .ok (.invokevirtual 58, 3) := by decide +kernel
theorem dX0_letDeclare_31 : decode cX0_letDeclare 31 = .ok (.istore_n 3, 1) := by decide +kernel
theorem dX0_letDeclare_32 : decode cX0_letDeclare 32 = .ok (.aload_n 0, 1) := by decide +kernel
theorem dX0_letDeclare_33 : decode cX0_letDeclare 33 = .ok (.getfield 24, 3) := by decide +kernel
theorem dX0_letDeclare_36 : decode cX0_letDeclare 36 = .ok (.iload_n 1, 1) := by decide +kernel
theorem dX0_letDeclare_37 : decode cX0_letDeclare 37 = .ok (.iconst 0, 1) := by decide +kernel
theorem dX0_letDeclare_38 : decode cX0_letDeclare 38 = .ok (.iload_n 2, 1) := by decide +kernel
theorem dX0_letDeclare_39 : decode cX0_letDeclare 39 = .ok (.invokevirtual 46, 3) := by decide +kernel
theorem dX0_letDeclare_42 : decode cX0_letDeclare 42 = .ok (.iload_n 3, 1) := by decide +kernel
theorem dX0_letDeclare_43 : decode cX0_letDeclare 43 = .ok (.ireturn, 1) := by decide +kernel
theorem dX0_isClosed_0 : decode cX0_isClosed 0 = .ok (.aload_n 0, 1) := by decide +kernel
theorem dX0_isClosed_1 : decode cX0_isClosed 1 = .ok (.getfield 20, 3) := by decide +kernel
theorem dX0_isClosed_4 : decode cX0_isClosed 4 = .ok (.iload_n 1, 1) := by decide +kernel
theorem dX0_isClosed_5 : decode cX0_isClosed 5 = .ok (.bipush 9, 2) := by decide +kernel
theorem dX0_isClosed_7 : decode cX0_isClosed 7 = .ok (.invokevirtual 58, 3) := by decide +kernel
theorem dX0_isClosed_10 : decode cX0_isClosed 10 = .ok (.iconst (-1), 1) := by decide +kernel
theorem dX0_isClosed_11 : decode cX0_isClosed 11 = .ok (.if_icmp .eq 7, 3) := by decide +kernel
theorem dX0_isClosed_14 : decode cX0_isClosed 14 = .ok (.iconst 1, 1) := by decide +kernel
theorem dX0_isClosed_15 : decode cX0_isClosed 15 = .ok (.goto 4, 3) := by decide +kernel
theorem dX0_isClosed_18 : decode cX0_isClosed 18 = .ok (.iconst 0, 1) := by decide +kernel
theorem dX0_isClosed_19 : decode cX0_isClosed 19 = .ok (.ireturn, 1) := by decide +kernel
theorem dX0_fundOf_0 : decode cX0_fundOf 0 = .ok (.aload_n 0, 1) := by decide +kernel
theorem dX0_fundOf_1 : decode cX0_fundOf 1 = .ok (.getfield 20, 3) := by decide +kernel
theorem dX0_fundOf_4 : decode cX0_fundOf 4 = .ok (.iload_n 1, 1) := by decide +kernel
theorem dX0_fundOf_5 : decode cX0_fundOf 5 = .ok (.iconst 0, 1) := by decide +kernel
theorem dX0_fundOf_6 : decode cX0_fundOf 6 = .ok (.invokevirtual 58, 3) := by decide +kernel
theorem dX0_fundOf_9 : decode cX0_fundOf 9 = .ok (.ireturn, 1) := by decide +kernel
theorem dX0_addGift_0 : decode cX0_addGift 0 = .ok (.aload_n 0, 1) := by decide +kernel
theorem dX0_addGift_1 : decode cX0_addGift 1 = .ok (.getfield 24, 3) := by decide +kernel
theorem dX0_addGift_4 : decode cX0_addGift 4 = .ok (.iload_n 1, 1) := by decide +kernel
theorem dX0_addGift_5 : decode cX0_addGift 5 = .ok (.invokevirtual 50, 3) := by decide +kernel
theorem dX0_addGift_8 : decode cX0_addGift 8 = .ok (.ifCond .eq 25, 3) := by decide +kernel
theorem dX0_addGift_11 : decode cX0_addGift 11 = .ok (.aload_n 0, 1) := by decide +kernel
theorem dX0_addGift_12 : decode cX0_addGift 12 = .ok (.getfield 20, 3) := by decide +kernel
theorem dX0_addGift_15 : decode cX0_addGift 15 = .ok (.iload_n 2, 1) := by decide +kernel
theorem dX0_addGift_16 : decode cX0_addGift 16 = .ok (.invokevirtual 50, 3) := by decide +kernel
theorem dX0_addGift_19 : decode cX0_addGift 19 = .ok (.ifCond .eq 14, 3) := by decide +kernel
theorem dX0_addGift_22 : decode cX0_addGift 22 = .ok (.iload_n 3, 1) := by decide +kernel
theorem dX0_addGift_23 : decode cX0_addGift 23 = .ok (.iconst 1, 1) := by decide +kernel
theorem dX0_addGift_24 : decode cX0_addGift 24 = .ok (.sipush 9999, 3) := by decide +kernel
theorem dX0_addGift_27 : decode cX0_addGift 27 = .ok (.invokestatic 54, 3) := by decide +kernel
theorem dX0_addGift_30 : decode cX0_addGift 30 = .ok (.ifCond .ne 5, 3) := by decide +kernel
theorem dX0_addGift_33 : decode cX0_addGift 33 = .ok (.iconst (-1), 1) := by decide +kernel
theorem dX0_addGift_34 : decode cX0_addGift 34 = .ok (.ireturn, 1) := by decide +kernel
theorem dX0_addGift_35 : decode cX0_addGift 35 = .ok (.aload_n 0, 1) := by decide +kernel
theorem dX0_addGift_36 : decode cX0_addGift 36 = .ok (.iload_n 2, 1) := by decide +kernel
theorem dX0_addGift_37 : decode cX0_addGift 37 = .ok (.invokevirtual 62, 3) := by decide +kernel
theorem dX0_addGift_40 : decode cX0_addGift 40 = .ok (.ifCond .eq 6, 3) := by decide +kernel
theorem dX0_addGift_43 : decode cX0_addGift 43 = .ok (.bipush (-2), 2) := by decide +kernel
theorem dX0_addGift_45 : decode cX0_addGift 45 = .ok (.ireturn, 1) := by decide +kernel
theorem dX0_addGift_46 : decode cX0_addGift 46 = .ok (.aload_n 0, 1) := by decide +kernel
theorem dX0_addGift_47 : decode cX0_addGift 47 = .ok (.getfield 27, 3) := by decide +kernel
theorem dX0_addGift_50 : decode cX0_addGift 50 = .ok (.invokevirtual 65, 3) := by decide +kernel
theorem dX0_addGift_53 : decode cX0_addGift 53 = .ok (.ifCond .eq 6, 3) := by decide +kernel
theorem dX0_addGift_56 : decode cX0_addGift 56 = .ok (.bipush (-3), 2) := by decide +kernel
theorem dX0_addGift_58 : decode cX0_addGift 58 = .ok (.ireturn, 1) := by decide +kernel
theorem dX0_addGift_59 : decode cX0_addGift 59 = .ok (.aload_n 0, 1) := by decide +kernel
theorem dX0_addGift_60 : decode cX0_addGift 60 = .ok (.iload_n 1, 1) := by decide +kernel
theorem dX0_addGift_61 : decode cX0_addGift 61 = .ok (.iload_n 2, 1) := by decide +kernel
theorem dX0_addGift_62 : decode cX0_addGift 62 = .ok (.iload_n 3, 1) := by decide +kernel
theorem dX0_addGift_63 : decode cX0_addGift 63 = .ok (.iconst (-1), 1) := by decide +kernel
theorem dX0_addGift_64 : decode cX0_addGift 64 = .ok (.invokevirtual 69, 3) := by decide +kernel
theorem dX0_addGift_67 : decode cX0_addGift 67 = .ok (.ireturn, 1) := by decide +kernel
theorem dX0_bookGift_0 : decode cX0_bookGift 0 = .ok (.aload_n 0, 1) := by decide +kernel
theorem dX0_bookGift_1 : decode cX0_bookGift 1 = .ok (.getfield 27, 3) := by decide +kernel
theorem dX0_bookGift_4 : decode cX0_bookGift 4 = .ok (.invokevirtual 43, 3) := by decide +kernel
theorem dX0_bookGift_7 : decode cX0_bookGift 7 = .ok (.istore 5, 2) := by decide +kernel
theorem dX0_bookGift_9 : decode cX0_bookGift 9 = .ok (.aload_n 0, 1) := by decide +kernel
theorem dX0_bookGift_10 : decode cX0_bookGift 10 = .ok (.getfield 27, 3) := by decide +kernel
theorem dX0_bookGift_13 : decode cX0_bookGift 13 = .ok (.iload 5, 2) := by decide +kernel
theorem dX0_bookGift_15 : decode cX0_bookGift 15 = .ok (.iconst 0, 1) := by decide +kernel
theorem dX0_bookGift_16 : decode cX0_bookGift 16 = .ok (.iload_n 1, 1) := by decide +kernel
theorem dX0_bookGift_17 : decode cX0_bookGift 17 = .ok (.invokevirtual 46, 3) := by decide +kernel
theorem dX0_bookGift_20 : decode cX0_bookGift 20 = .ok (.aload_n 0, 1) := by decide +kernel
theorem dX0_bookGift_21 : decode cX0_bookGift 21 = .ok (.getfield 27, 3) := by decide +kernel
theorem dX0_bookGift_24 : decode cX0_bookGift 24 = .ok (.iload 5, 2) := by decide +kernel
theorem dX0_bookGift_26 : decode cX0_bookGift 26 = .ok (.iconst 1, 1) := by decide +kernel
theorem dX0_bookGift_27 : decode cX0_bookGift 27 = .ok (.iload_n 2, 1) := by decide +kernel
theorem dX0_bookGift_28 : decode cX0_bookGift 28 = .ok (.invokevirtual 46, 3) := by decide +kernel
theorem dX0_bookGift_31 : decode cX0_bookGift 31 = .ok (.aload_n 0, 1) := by decide +kernel
theorem dX0_bookGift_32 : decode cX0_bookGift 32 = .ok (.getfield 27, 3) := by decide +kernel
theorem dX0_bookGift_35 : decode cX0_bookGift 35 = .ok (.iload 5, 2) := by decide +kernel
theorem dX0_bookGift_37 : decode cX0_bookGift 37 = .ok (.iconst 2, 1) := by decide +kernel
theorem dX0_bookGift_38 : decode cX0_bookGift 38 = .ok (.iload_n 3, 1) := by decide +kernel
theorem dX0_bookGift_39 : decode cX0_bookGift 39 = .ok (.invokevirtual 46, 3) := by decide +kernel
theorem dX0_bookGift_42 : decode cX0_bookGift 42 = .ok (.aload_n 0, 1) := by decide +kernel
theorem dX0_bookGift_43 : decode cX0_bookGift 43 = .ok (.getfield 27, 3) := by decide +kernel
theorem dX0_bookGift_46 : decode cX0_bookGift 46 = .ok (.iload 5, 2) := by decide +kernel
theorem dX0_bookGift_48 : decode cX0_bookGift 48 = .ok (.iconst 3, 1) := by decide +kernel
theorem dX0_bookGift_49 : decode cX0_bookGift 49 = .ok (.aload_n 0, 1) := by decide +kernel
theorem dX0_bookGift_50 : decode cX0_bookGift 50 = .ok (.getfield 11, 3) := by decide +kernel
theorem dX0_bookGift_53 : decode cX0_bookGift 53 = .ok (.iconst 0, 1) := by decide +kernel
theorem dX0_bookGift_54 : decode cX0_bookGift 54 = .ok (.iaload, 1) := by decide +kernel
theorem dX0_bookGift_55 : decode cX0_bookGift 55 = .ok (.invokevirtual 46, 3) := by decide +kernel
theorem dX0_bookGift_58 : decode cX0_bookGift 58 = .ok (.aload_n 0, 1) := by decide +kernel
theorem dX0_bookGift_59 : decode cX0_bookGift 59 = .ok (.getfield 27, 3) := by decide +kernel
theorem dX0_bookGift_62 : decode cX0_bookGift 62 = .ok (.iload 5, 2) := by decide +kernel
theorem dX0_bookGift_64 : decode cX0_bookGift 64 = .ok (.bipush 6, 2) := by decide +kernel
theorem dX0_bookGift_66 : decode cX0_bookGift 66 = .ok (.iload 4, 2) := by decide +kernel
theorem dX0_bookGift_68 : decode cX0_bookGift 68 = .ok (.invokevirtual 46, 3) := by decide +kernel
theorem dX0_bookGift_71 : decode cX0_bookGift 71 = .ok (.aload_n 0, 1) := by decide +kernel
theorem dX0_bookGift_72 : decode cX0_bookGift 72 = .ok (.getfield 20, 3) := by decide +kernel
theorem dX0_bookGift_75 : decode cX0_bookGift 75 = .ok (.iload_n 2, 1) := by decide +kernel
theorem dX0_bookGift_76 : decode cX0_bookGift 76 = .ok (.iconst 0, 1) := by decide +kernel
theorem dX0_bookGift_77 : decode cX0_bookGift 77 = .ok (.iload_n 3, 1) := by decide +kernel
theorem dX0_bookGift_78 : decode cX0_bookGift 78 = .ok (.invokevirtual 73, 3) := by decide +kernel
theorem dX0_bookGift_81 : decode cX0_bookGift 81 = .ok (.aload_n 0, 1) := by decide +kernel
theorem dX0_bookGift_82 : decode cX0_bookGift 82 = .ok (.getfield 20, 3) := by decide +kernel
theorem dX0_bookGift_85 : decode cX0_bookGift 85 = .ok (.iload_n 2, 1) := by decide +kernel
theorem dX0_bookGift_86 : decode cX0_bookGift 86 = .ok (.iconst 1, 1) := by decide +kernel
theorem dX0_bookGift_87 : decode cX0_bookGift 87 = .ok (.iload_n 3, 1) := by decide +kernel
theorem dX0_bookGift_88 : decode cX0_bookGift 88 = .ok (.invokevirtual 73, 3) := by decide +kernel
theorem dX0_bookGift_91 : decode cX0_bookGift 91 = .ok (.iload 5, 2) := by decide +kernel
theorem dX0_bookGift_93 : decode cX0_bookGift 93 = .ok (.ireturn, 1) := by decide +kernel
theorem dX0_taxOf_0 : decode cX0_taxOf 0 = .ok (.aload_n 0, 1) := by decide +kernel
theorem dX0_taxOf_1 : decode cX0_taxOf 1 = .ok (.getfield 27, 3) := by decide +kernel
theorem dX0_taxOf_4 : decode cX0_taxOf 4 = .ok (.iload_n 1, 1) := by decide +kernel
theorem dX0_taxOf_5 : decode cX0_taxOf 5 = .ok (.iconst 2, 1) := by decide +kernel
theorem dX0_taxOf_6 : decode cX0_taxOf 6 = .ok (.invokevirtual 58, 3) := by decide +kernel
theorem dX0_taxOf_9 : decode cX0_taxOf 9 = .ok (.iconst 4, 1) := by decide +kernel
theorem dX0_taxOf_10 : decode cX0_taxOf 10 = .ok (.idiv, 1) := by decide +kernel
theorem dX0_taxOf_11 : decode cX0_taxOf 11 = .ok (.ireturn, 1) := by decide +kernel
theorem dX0_homeOfGift_0 : decode cX0_homeOfGift 0 = .ok (.aload_n 0, 1) := by decide +kernel
theorem dX0_homeOfGift_1 : decode cX0_homeOfGift 1 = .ok (.getfield 20, 3) := by decide +kernel
theorem dX0_homeOfGift_4 : decode cX0_homeOfGift 4 = .ok (.aload_n 0, 1) := by decide +kernel
theorem dX0_homeOfGift_5 : decode cX0_homeOfGift 5 = .ok (.getfield 27, 3) := by decide +kernel
theorem dX0_homeOfGift_8 : decode cX0_homeOfGift 8 = .ok (.iload_n 1, 1) := by decide +kernel
theorem dX0_homeOfGift_9 : decode cX0_homeOfGift 9 = .ok (.iconst 1, 1) := by decide +kernel
theorem dX0_homeOfGift_10 : decode cX0_homeOfGift 10 = .ok (.invokevirtual 58, 3) := by decide +kernel
theorem dX0_homeOfGift_13 : decode cX0_homeOfGift 13 = .ok (.bipush 10, 2) := by decide +kernel
theorem dX0_homeOfGift_15 : decode cX0_homeOfGift 15 = .ok (.invokevirtual 58, 3) := by decide +kernel
theorem dX0_homeOfGift_18 : decode cX0_homeOfGift 18 = .ok (.ireturn, 1) := by decide +kernel
theorem dX0_isOf_0 : decode cX0_isOf 0 = .ok (.aload_n 0, 1) := by decide +kernel
theorem dX0_isOf_1 : decode cX0_isOf 1 = .ok (.getfield 27, 3) := by decide +kernel
theorem dX0_isOf_4 : decode cX0_isOf 4 = .ok (.iload_n 1, 1) := by decide +kernel
theorem dX0_isOf_5 : decode cX0_isOf 5 = .ok (.iconst 0, 1) := by decide +kernel
theorem dX0_isOf_6 : decode cX0_isOf 6 = .ok (.invokevirtual 58, 3) := by decide +kernel
theorem dX0_isOf_9 : decode cX0_isOf 9 = .ok (.iload_n 2, 1) := by decide +kernel
theorem dX0_isOf_10 : decode cX0_isOf 10 = .ok (.if_icmp .ne 7, 3) := by decide +kernel
theorem dX0_isOf_13 : decode cX0_isOf 13 = .ok (.iconst 1, 1) := by decide +kernel
theorem dX0_isOf_14 : decode cX0_isOf 14 = .ok (.goto 4, 3) := by decide +kernel
theorem dX0_isOf_17 : decode cX0_isOf 17 = .ok (.iconst 0, 1) := by decide +kernel
theorem dX0_isOf_18 : decode cX0_isOf 18 = .ok (.ireturn, 1) := by decide +kernel
theorem dX0_isClaimed_0 : decode cX0_isClaimed 0 = .ok (.aload_n 0, 1) := by decide +kernel
theorem dX0_isClaimed_1 : decode cX0_isClaimed 1 = .ok (.getfield 27, 3) := by decide +kernel
theorem dX0_isClaimed_4 : decode cX0_isClaimed 4 = .ok (.iload_n 1, 1) := by decide +kernel
theorem dX0_isClaimed_5 : decode cX0_isClaimed 5 = .ok (.iconst 4, 1) := by decide +kernel
theorem dX0_isClaimed_6 : decode cX0_isClaimed 6 = .ok (.invokevirtual 58, 3) := by decide +kernel
theorem dX0_isClaimed_9 : decode cX0_isClaimed 9 = .ok (.iconst 1, 1) := by decide +kernel
theorem dX0_isClaimed_10 : decode cX0_isClaimed 10 = .ok (.if_icmp .ne 7, 3) := by decide +kernel
theorem dX0_isClaimed_13 : decode cX0_isClaimed 13 = .ok (.iconst 1, 1) := by decide +kernel
theorem dX0_isClaimed_14 : decode cX0_isClaimed 14 = .ok (.goto 4, 3) := by decide +kernel
theorem dX0_isClaimed_17 : decode cX0_isClaimed 17 = .ok (.iconst 0, 1) := by decide +kernel
theorem dX0_isClaimed_18 : decode cX0_isClaimed 18 = .ok (.ireturn, 1) := by decide +kernel
theorem dX0_isRefunded_0 : decode cX0_isRefunded 0 = .ok (.aload_n 0, 1) := by decide +kernel
theorem dX0_isRefunded_1 : decode cX0_isRefunded 1 = .ok (.getfield 27, 3) := by decide +kernel
theorem dX0_isRefunded_4 : decode cX0_isRefunded 4 = .ok (.iload_n 1, 1) := by decide +kernel
theorem dX0_isRefunded_5 : decode cX0_isRefunded 5 = .ok (.iconst 5, 1) := by decide +kernel
theorem dX0_isRefunded_6 : decode cX0_isRefunded 6 = .ok (.invokevirtual 58, 3) := by decide +kernel
theorem dX0_isRefunded_9 : decode cX0_isRefunded 9 = .ok (.iconst 1, 1) := by decide +kernel
theorem dX0_isRefunded_10 : decode cX0_isRefunded 10 = .ok (.if_icmp .ne 7, 3) := by decide +kernel
theorem dX0_isRefunded_13 : decode cX0_isRefunded 13 = .ok (.iconst 1, 1) := by decide +kernel
theorem dX0_isRefunded_14 : decode cX0_isRefunded 14 = .ok (.goto 4, 3) := by decide +kernel
theorem dX0_isRefunded_17 : decode cX0_isRefunded 17 = .ok (.iconst 0, 1) := by decide +kernel
theorem dX0_isRefunded_18 : decode cX0_isRefunded 18 = .ok (.ireturn, 1) := by decide +kernel
theorem dX0_addPledge_0 : decode cX0_addPledge 0 = .ok (.aload_n 0, 1) := by decide +kernel
theorem dX0_addPledge_1 : decode cX0_addPledge 1 = .ok (.getfield 24, 3) := by decide +kernel
theorem dX0_addPledge_4 : decode cX0_addPledge 4 = .ok (.iload_n 1, 1) := by decide +kernel
theorem dX0_addPledge_5 : decode cX0_addPledge 5 = .ok (.invokevirtual 50, 3) := by decide +kernel
theorem dX0_addPledge_8 : decode cX0_addPledge 8 = .ok (.ifCond .eq 33, 3) := by decide +kernel
theorem dX0_addPledge_11 : decode cX0_addPledge 11 = .ok (.aload_n 0, 1) := by decide +kernel
theorem dX0_addPledge_12 : decode cX0_addPledge 12 = .ok (.getfield 20, 3) := by decide +kernel
theorem dX0_addPledge_15 : decode cX0_addPledge 15 = .ok (.iload_n 2, 1) := by decide +kernel
theorem dX0_addPledge_16 : decode cX0_addPledge 16 = .ok (.invokevirtual 50, 3) := by decide +kernel
theorem dX0_addPledge_19 : decode cX0_addPledge 19 = .ok (.ifCond .eq 22, 3) := by decide +kernel
theorem dX0_addPledge_22 : decode cX0_addPledge 22 = .ok (.iload_n 3, 1) := by decide +kernel
theorem dX0_addPledge_23 : decode cX0_addPledge 23 = .ok (.iconst 1, 1) := by decide +kernel
theorem dX0_addPledge_24 : decode cX0_addPledge 24 = .ok (.sipush 999, 3) := by decide +kernel
theorem dX0_addPledge_27 : decode cX0_addPledge 27 = .ok (.invokestatic 54, 3) := by decide +kernel
theorem dX0_addPledge_30 : decode cX0_addPledge 30 = .ok (.ifCond .eq 11, 3) := by decide +kernel
theorem dX0_addPledge_33 : decode cX0_addPledge 33 = .ok (.iload 4, 2) := by decide +kernel
theorem dX0_addPledge_35 : decode cX0_addPledge 35 = .ok (.invokestatic 76, 3) := by decide +kernel
theorem dX0_addPledge_38 : decode cX0_addPledge 38 = .ok (.ifCond .ne 5, 3) := by decide +kernel
theorem dX0_addPledge_41 : decode cX0_addPledge 41 = .ok (.iconst (-1), 1) := by decide +kernel
theorem dX0_addPledge_42 : decode cX0_addPledge 42 = .ok (.ireturn, 1) := by decide +kernel
theorem dX0_addPledge_43 : decode cX0_addPledge 43 = .ok (.aload_n 0, 1) := by decide +kernel
theorem dX0_addPledge_44 : decode cX0_addPledge 44 = .ok (.iload_n 2, 1) := by decide +kernel
theorem dX0_addPledge_45 : decode cX0_addPledge 45 = .ok (.invokevirtual 62, 3) := by decide +kernel
theorem dX0_addPledge_48 : decode cX0_addPledge 48 = .ok (.ifCond .eq 6, 3) := by decide +kernel
theorem dX0_addPledge_51 : decode cX0_addPledge 51 = .ok (.bipush (-2), 2) := by decide +kernel
theorem dX0_addPledge_53 : decode cX0_addPledge 53 = .ok (.ireturn, 1) := by decide +kernel
theorem dX0_addPledge_54 : decode cX0_addPledge 54 = .ok (.aload_n 0, 1) := by decide +kernel
theorem dX0_addPledge_55 : decode cX0_addPledge 55 = .ok (.getfield 30, 3) := by decide +kernel
theorem dX0_addPledge_58 : decode cX0_addPledge 58 = .ok (.invokevirtual 43, 3) := by decide +kernel
theorem dX0_addPledge_61 : decode cX0_addPledge 61 = .ok (.istore 5, 2) := by decide +kernel
theorem dX0_addPledge_63 : decode cX0_addPledge 63 = .ok (.iload 5, 2) := by decide +kernel
theorem dX0_addPledge_65 : decode cX0_addPledge 65 = .ok (.iconst (-1), 1) := by decide +kernel
theorem dX0_addPledge_66 : decode cX0_addPledge 66 = .ok (.if_icmp .ne 6, 3) := by decide +kernel
theorem dX0_addPledge_69 : decode cX0_addPledge 69 = .ok (.bipush (-3), 2) := by decide +kernel
theorem dX0_addPledge_71 : decode cX0_addPledge 71 = .ok (.ireturn, 1) := by decide +kernel
theorem dX0_addPledge_72 : decode cX0_addPledge 72 = .ok (.aload_n 0, 1) := by decide +kernel
theorem dX0_addPledge_73 : decode cX0_addPledge 73 = .ok (.getfield 30, 3) := by decide +kernel
theorem dX0_addPledge_76 : decode cX0_addPledge 76 = .ok (.iload 5, 2) := by decide +kernel
theorem dX0_addPledge_78 : decode cX0_addPledge 78 = .ok (.iconst 0, 1) := by decide +kernel
theorem dX0_addPledge_79 : decode cX0_addPledge 79 = .ok (.iload_n 1, 1) := by decide +kernel
theorem dX0_addPledge_80 : decode cX0_addPledge 80 = .ok (.invokevirtual 46, 3) := by decide +kernel
theorem dX0_addPledge_83 : decode cX0_addPledge 83 = .ok (.aload_n 0, 1) := by decide +kernel
theorem dX0_addPledge_84 : decode cX0_addPledge 84 = .ok (.getfield 30, 3) := by decide +kernel
theorem dX0_addPledge_87 : decode cX0_addPledge 87 = .ok (.iload 5, 2) := by decide +kernel
theorem dX0_addPledge_89 : decode cX0_addPledge 89 = .ok (.iconst 1, 1) := by decide +kernel
theorem dX0_addPledge_90 : decode cX0_addPledge 90 = .ok (.iload_n 2, 1) := by decide +kernel
theorem dX0_addPledge_91 : decode cX0_addPledge 91 = .ok (.invokevirtual 46, 3) := by decide +kernel
theorem dX0_addPledge_94 : decode cX0_addPledge 94 = .ok (.aload_n 0, 1) := by decide +kernel
theorem dX0_addPledge_95 : decode cX0_addPledge 95 = .ok (.getfield 30, 3) := by decide +kernel
theorem dX0_addPledge_98 : decode cX0_addPledge 98 = .ok (.iload 5, 2) := by decide +kernel
theorem dX0_addPledge_100 : decode cX0_addPledge 100 = .ok (.iconst 2, 1) := by decide +kernel
theorem dX0_addPledge_101 : decode cX0_addPledge 101 = .ok (.iload_n 3, 1) := by decide +kernel
theorem dX0_addPledge_102 : decode cX0_addPledge 102 = .ok (.invokevirtual 46, 3) := by decide +kernel
theorem dX0_addPledge_105 : decode cX0_addPledge 105 = .ok (.aload_n 0, 1) := by decide +kernel
theorem dX0_addPledge_106 : decode cX0_addPledge 106 = .ok (.getfield 30, 3) := by decide +kernel
theorem dX0_addPledge_109 : decode cX0_addPledge 109 = .ok (.iload 5, 2) := by decide +kernel
theorem dX0_addPledge_111 : decode cX0_addPledge 111 = .ok (.iconst 3, 1) := by decide +kernel
theorem dX0_addPledge_112 : decode cX0_addPledge 112 = .ok (.iload 4, 2) := by decide +kernel
theorem dX0_addPledge_114 : decode cX0_addPledge 114 = .ok (.invokevirtual 46, 3) := by decide +kernel
theorem dX0_addPledge_117 : decode cX0_addPledge 117 = .ok (.iload 5, 2) := by decide +kernel
theorem dX0_addPledge_119 : decode cX0_addPledge 119 = .ok (.ireturn, 1) := by decide +kernel
theorem dX0_tellMiss_0 : decode cX0_tellMiss 0 = .ok (.aload_n 0, 1) := by decide +kernel
theorem dX0_tellMiss_1 : decode cX0_tellMiss 1 = .ok (.getfield 30, 3) := by decide +kernel
theorem dX0_tellMiss_4 : decode cX0_tellMiss 4 = .ok (.iload_n 1, 1) := by decide +kernel
theorem dX0_tellMiss_5 : decode cX0_tellMiss 5 = .ok (.invokevirtual 50, 3) := by decide +kernel
theorem dX0_tellMiss_8 : decode cX0_tellMiss 8 = .ok (.ifCond .ne 5, 3) := by decide +kernel
theorem dX0_tellMiss_11 : decode cX0_tellMiss 11 = .ok (.iconst (-1), 1) := by decide +kernel
theorem dX0_tellMiss_12 : decode cX0_tellMiss 12 = .ok (.ireturn, 1) := by decide +kernel
theorem dX0_tellMiss_13 : decode cX0_tellMiss 13 = .ok (.aload_n 0, 1) := by decide +kernel
theorem dX0_tellMiss_14 : decode cX0_tellMiss 14 = .ok (.iload_n 1, 1) := by decide +kernel
theorem dX0_tellMiss_15 : decode cX0_tellMiss 15 = .ok (.invokevirtual 79, 3) := by decide +kernel
theorem dX0_tellMiss_18 : decode cX0_tellMiss 18 = .ok (.ifCond .eq 17, 3) := by decide +kernel
theorem dX0_tellMiss_21 : decode cX0_tellMiss 21 = .ok (.aload_n 0, 1) := by decide +kernel
theorem dX0_tellMiss_22 : decode cX0_tellMiss 22 = .ok (.getfield 30, 3) := by decide +kernel
theorem dX0_tellMiss_25 : decode cX0_tellMiss 25 = .ok (.iload_n 1, 1) := by decide +kernel
theorem dX0_tellMiss_26 : decode cX0_tellMiss 26 = .ok (.bipush 7, 2) := by decide +kernel
theorem dX0_tellMiss_28 : decode cX0_tellMiss 28 = .ok (.invokevirtual 58, 3) := by decide +kernel
theorem dX0_tellMiss_31 : decode cX0_tellMiss 31 = .ok (.iconst 1, 1) := by decide +kernel
theorem dX0_tellMiss_32 : decode cX0_tellMiss 32 = .ok (.if_icmp .ne 6, 3) := by decide +kernel
theorem dX0_tellMiss_35 : decode cX0_tellMiss 35 = .ok (.bipush (-2), 2) := by decide +kernel
theorem dX0_tellMiss_37 : decode cX0_tellMiss 37 = .ok (.ireturn, 1) := by decide +kernel
theorem dX0_tellMiss_38 : decode cX0_tellMiss 38 = .ok (.aload_n 0, 1) := by decide +kernel
theorem dX0_tellMiss_39 : decode cX0_tellMiss 39 = .ok (.getfield 30, 3) := by decide +kernel
theorem dX0_tellMiss_42 : decode cX0_tellMiss 42 = .ok (.iload_n 1, 1) := by decide +kernel
theorem dX0_tellMiss_43 : decode cX0_tellMiss 43 = .ok (.bipush 7, 2) := by decide +kernel
theorem dX0_tellMiss_45 : decode cX0_tellMiss 45 = .ok (.iconst 1, 1) := by decide +kernel
theorem dX0_tellMiss_46 : decode cX0_tellMiss 46 = .ok (.invokevirtual 46, 3) := by decide +kernel
theorem dX0_tellMiss_49 : decode cX0_tellMiss 49 = .ok (.aload_n 0, 1) := by decide +kernel
theorem dX0_tellMiss_50 : decode cX0_tellMiss 50 = .ok (.getfield 30, 3) := by decide +kernel
theorem dX0_tellMiss_53 : decode cX0_tellMiss 53 = .ok (.iload_n 1, 1) := by decide +kernel
theorem dX0_tellMiss_54 : decode cX0_tellMiss 54 = .ok (.iconst 4, 1) := by decide +kernel
theorem dX0_tellMiss_55 : decode cX0_tellMiss 55 = .ok (.invokevirtual 58, 3) := by decide +kernel
theorem dX0_tellMiss_58 : decode cX0_tellMiss 58 = .ok (.ireturn, 1) := by decide +kernel
theorem dX0_stopPledge_0 : decode cX0_stopPledge 0 = .ok (.aload_n 0, 1) := by decide +kernel
theorem dX0_stopPledge_1 : decode cX0_stopPledge 1 = .ok (.getfield 30, 3) := by decide +kernel
theorem dX0_stopPledge_4 : decode cX0_stopPledge 4 = .ok (.iload_n 1, 1) := by decide +kernel
theorem dX0_stopPledge_5 : decode cX0_stopPledge 5 = .ok (.invokevirtual 50, 3) := by decide +kernel
theorem dX0_stopPledge_8 : decode cX0_stopPledge 8 = .ok (.ifCond .ne 5, 3) := by decide +kernel
theorem dX0_stopPledge_11 : decode cX0_stopPledge 11 = .ok (.iconst (-1), 1) := by decide +kernel
theorem dX0_stopPledge_12 : decode cX0_stopPledge 12 = .ok (.ireturn, 1) := by decide +kernel
theorem dX0_stopPledge_13 : decode cX0_stopPledge 13 = .ok (.aload_n 0, 1) := by decide +kernel
theorem dX0_stopPledge_14 : decode cX0_stopPledge 14 = .ok (.iload_n 1, 1) := by decide +kernel
theorem dX0_stopPledge_15 : decode cX0_stopPledge 15 = .ok (.invokevirtual 79, 3) := by decide +kernel
theorem dX0_stopPledge_18 : decode cX0_stopPledge 18 = .ok (.ifCond .ne 6, 3) := by decide +kernel
theorem dX0_stopPledge_21 : decode cX0_stopPledge 21 = .ok (.bipush (-2), 2) := by decide +kernel
theorem dX0_stopPledge_23 : decode cX0_stopPledge 23 = .ok (.ireturn, 1) := by decide +kernel
theorem dX0_stopPledge_24 : decode cX0_stopPledge 24 = .ok (.aload_n 0, 1) := by decide +kernel
theorem dX0_stopPledge_25 : decode cX0_stopPledge 25 = .ok (.iload_n 1, 1) := by decide +kernel
theorem dX0_stopPledge_26 : decode cX0_stopPledge 26 = .ok (.invokevirtual 82, 3) := by decide +kernel
theorem dX0_stopPledge_29 : decode cX0_stopPledge 29 = .ok (.aload_n 0, 1) := by decide +kernel
theorem dX0_stopPledge_30 : decode cX0_stopPledge 30 = .ok (.getfield 30, 3) := by decide +kernel
theorem dX0_stopPledge_33 : decode cX0_stopPledge 33 = .ok (.iload_n 1, 1) := by decide +kernel
theorem dX0_stopPledge_34 : decode cX0_stopPledge 34 = .ok (.iconst 3, 1) := by decide +kernel
theorem dX0_stopPledge_35 : decode cX0_stopPledge 35 = .ok (.invokevirtual 58, 3) := by decide +kernel
theorem dX0_stopPledge_38 : decode cX0_stopPledge 38 = .ok (.ireturn, 1) := by decide +kernel
theorem dX0_isRunning_0 : decode cX0_isRunning 0 = .ok (.aload_n 0, 1) := by decide +kernel
theorem dX0_isRunning_1 : decode cX0_isRunning 1 = .ok (.getfield 30, 3) := by decide +kernel
theorem dX0_isRunning_4 : decode cX0_isRunning 4 = .ok (.iload_n 1, 1) := by decide +kernel
theorem dX0_isRunning_5 : decode cX0_isRunning 5 = .ok (.iconst 5, 1) := by decide +kernel
theorem dX0_isRunning_6 : decode cX0_isRunning 6 = .ok (.invokevirtual 58, 3) := by decide +kernel
theorem dX0_isRunning_9 : decode cX0_isRunning 9 = .ok (.ifCond .ne 7, 3) := by decide +kernel
theorem dX0_isRunning_12 : decode cX0_isRunning 12 = .ok (.iconst 1, 1) := by decide +kernel
theorem dX0_isRunning_13 : decode cX0_isRunning 13 = .ok (.goto 4, 3) := by decide +kernel
theorem dX0_isRunning_16 : decode cX0_isRunning 16 = .ok (.iconst 0, 1) := by decide +kernel
theorem dX0_isRunning_17 : decode cX0_isRunning 17 = .ok (.ireturn, 1) := by decide +kernel
theorem dX0_haltPledge_0 : decode cX0_haltPledge 0 = .ok (.aload_n 0, 1) := by decide +kernel
theorem dX0_haltPledge_1 : decode cX0_haltPledge 1 = .ok (.getfield 30, 3) := by decide +kernel
theorem dX0_haltPledge_4 : decode cX0_haltPledge 4 = .ok (.iload_n 1, 1) := by decide +kernel
theorem dX0_haltPledge_5 : decode cX0_haltPledge 5 = .ok (.iconst 5, 1) := by decide +kernel
theorem dX0_haltPledge_6 : decode cX0_haltPledge 6 = .ok (.iconst 2, 1) := by decide +kernel
theorem dX0_haltPledge_7 : decode cX0_haltPledge 7 = .ok (.invokevirtual 46, 3) := by decide +kernel
theorem dX0_haltPledge_10 : decode cX0_haltPledge 10 = .ok (.aload_n 0, 1) := by decide +kernel
theorem dX0_haltPledge_11 : decode cX0_haltPledge 11 = .ok (.getfield 30, 3) := by decide +kernel
theorem dX0_haltPledge_14 : decode cX0_haltPledge 14 = .ok (.iload_n 1, 1) := by decide +kernel
theorem dX0_haltPledge_15 : decode cX0_haltPledge 15 = .ok (.bipush 7, 2) := by decide +kernel
theorem dX0_haltPledge_17 : decode cX0_haltPledge 17 = .ok (.iconst 0, 1) := by decide +kernel
theorem dX0_haltPledge_18 : decode cX0_haltPledge 18 = .ok (.invokevirtual 46, 3) := by decide +kernel
theorem dX0_haltPledge_21 : decode cX0_haltPledge 21 = .ok (.return_, 1) := by decide +kernel
theorem dX0_isSpan_0 : decode cX0_isSpan 0 = .ok (.iload_n 0, 1) := by decide +kernel
theorem dX0_isSpan_1 : decode cX0_isSpan 1 = .ok (.iconst 1, 1) := by decide +kernel
theorem dX0_isSpan_2 : decode cX0_isSpan 2 = .ok (.bipush 60, 2) := by decide +kernel
theorem dX0_isSpan_4 : decode cX0_isSpan 4 = .ok (.invokestatic 54, 3) := by decide +kernel
theorem dX0_isSpan_7 : decode cX0_isSpan 7 = .ok (.ireturn, 1) := by decide +kernel
theorem dX0_passMonths_0 : decode cX0_passMonths 0 = .ok (.iload_n 1, 1) := by decide +kernel
theorem dX0_passMonths_1 : decode cX0_passMonths 1 = .ok (.invokestatic 76, 3) := by decide +kernel
theorem dX0_passMonths_4 : decode cX0_passMonths 4 = .ok (.ifCond .ne 5, 3) := by decide +kernel
theorem dX0_passMonths_7 : decode cX0_passMonths 7 = .ok (.iconst (-1), 1) := by decide +kernel
theorem dX0_passMonths_8 : decode cX0_passMonths 8 = .ok (.ireturn, 1) := by decide +kernel
theorem dX0_passMonths_9 : decode cX0_passMonths 9 = .ok (.aload_n 0, 1) := by decide +kernel
theorem dX0_passMonths_10 : decode cX0_passMonths 10 = .ok (.getfield 11, 3) := by decide +kernel
theorem dX0_passMonths_13 : decode cX0_passMonths 13 = .ok (.iconst 0, 1) := by decide +kernel
theorem dX0_passMonths_14 : decode cX0_passMonths 14 = .ok (.iaload, 1) := by decide +kernel
theorem dX0_passMonths_15 : decode cX0_passMonths 15 = .ok (.iload_n 1, 1) := by decide +kernel
theorem dX0_passMonths_16 : decode cX0_passMonths 16 = .ok (.iadd, 1) := by decide +kernel
theorem dX0_passMonths_17 : decode cX0_passMonths 17 = .ok (.iload_n 2, 1) := by decide +kernel
theorem dX0_passMonths_18 : decode cX0_passMonths 18 = .ok (.if_icmp .le 6, 3) := by decide +kernel
theorem dX0_passMonths_21 : decode cX0_passMonths 21 = .ok (.bipush (-3), 2) := by decide +kernel
theorem dX0_passMonths_23 : decode cX0_passMonths 23 = .ok (.ireturn, 1) := by decide +kernel
theorem dX0_passMonths_24 : decode cX0_passMonths 24 = .ok (.aload_n 0, 1) := by decide +kernel
theorem dX0_passMonths_25 : decode cX0_passMonths 25 = .ok (.getfield 27, 3) := by decide +kernel
theorem dX0_passMonths_28 : decode cX0_passMonths 28 = .ok (.invokevirtual 86, 3) := by decide +kernel
theorem dX0_passMonths_31 : decode cX0_passMonths 31 = .ok (.istore_n 3, 1) := by decide +kernel
theorem dX0_passMonths_32 : decode cX0_passMonths 32 = .ok (.iconst 0, 1) := by decide +kernel
theorem dX0_passMonths_33 : decode cX0_passMonths 33 = .ok (.istore 4, 2) := by decide +kernel
theorem dX0_passMonths_35 : decode cX0_passMonths 35 = .ok (.iload 4, 2) := by decide +kernel
theorem dX0_passMonths_37 : decode cX0_passMonths 37 = .ok (.iload_n 1, 1) := by decide +kernel
theorem dX0_passMonths_38 : decode cX0_passMonths 38 = .ok (.if_icmp .ge 55, 3) := by decide +kernel
theorem dX0_passMonths_41 : decode cX0_passMonths 41 = .ok (.aload_n 0, 1) := by decide +kernel
theorem dX0_passMonths_42 : decode cX0_passMonths 42 = .ok (.getfield 11, 3) := by decide +kernel
theorem dX0_passMonths_45 : decode cX0_passMonths 45 = .ok (.iconst 0, 1) := by decide +kernel
theorem dX0_passMonths_46 : decode cX0_passMonths 46 = .ok (.dup2, 1) := by decide +kernel
theorem dX0_passMonths_47 : decode cX0_passMonths 47 = .ok (.iaload, 1) := by decide +kernel
theorem dX0_passMonths_48 : decode cX0_passMonths 48 = .ok (.iconst 1, 1) := by decide +kernel
theorem dX0_passMonths_49 : decode cX0_passMonths 49 = .ok (.iadd, 1) := by decide +kernel
theorem dX0_passMonths_50 : decode cX0_passMonths 50 = .ok (.iastore, 1) := by decide +kernel
theorem dX0_passMonths_51 : decode cX0_passMonths 51 = .ok (.iconst 0, 1) := by decide +kernel
theorem dX0_passMonths_52 : decode cX0_passMonths 52 = .ok (.istore 5, 2) := by decide +kernel
theorem dX0_passMonths_54 : decode cX0_passMonths 54 = .ok (.iload 5, 2) := by decide +kernel
theorem dX0_passMonths_56 : decode cX0_passMonths 56 = .ok (.aload_n 0, 1) := by decide +kernel
theorem dX0_passMonths_57 : decode cX0_passMonths 57 = .ok (.getfield 30, 3) := by decide +kernel
theorem dX0_passMonths_60 : decode cX0_passMonths 60 = .ok (.invokevirtual 86, 3) := by decide +kernel
theorem dX0_passMonths_63 : decode cX0_passMonths 63 = .ok (.if_icmp .ge 24, 3) := by decide +kernel
theorem dX0_passMonths_66 : decode cX0_passMonths 66 = .ok (.aload_n 0, 1) := by decide +kernel
theorem dX0_passMonths_67 : decode cX0_passMonths 67 = .ok (.iload 5, 2) := by decide +kernel
theorem dX0_passMonths_69 : decode cX0_passMonths 69 = .ok (.invokevirtual 79, 3) := by decide +kernel
theorem dX0_passMonths_72 : decode cX0_passMonths 72 = .ok (.ifCond .eq 9, 3) := by decide +kernel
theorem dX0_passMonths_75 : decode cX0_passMonths 75 = .ok (.aload_n 0, 1) := by decide +kernel
theorem dX0_passMonths_76 : decode cX0_passMonths 76 = .ok (.iload 5, 2) := by decide +kernel
theorem dX0_passMonths_78 : decode cX0_passMonths 78 = .ok (.invokevirtual 89, 3) := by decide +kernel
theorem dX0_passMonths_81 : decode cX0_passMonths 81 = .ok (.iinc 5 1, 3) := by decide +kernel
theorem dX0_passMonths_84 : decode cX0_passMonths 84 = .ok (.goto (-30), 3) := by decide +kernel
theorem dX0_passMonths_87 : decode cX0_passMonths 87 = .ok (.iinc 4 1, 3) := by decide +kernel
theorem dX0_passMonths_90 : decode cX0_passMonths 90 = .ok (.goto (-55), 3) := by decide +kernel
theorem dX0_passMonths_93 : decode cX0_passMonths 93 = .ok (.aload_n 0, 1) := by decide +kernel
theorem dX0_passMonths_94 : decode cX0_passMonths 94 = .ok (.getfield 27, 3) := by decide +kernel
theorem dX0_passMonths_97 : decode cX0_passMonths 97 = .ok (.invokevirtual 86, 3) := by decide +kernel
theorem dX0_passMonths_100 : decode cX0_passMonths 100 = .ok (.iload_n 3, 1) := by decide +kernel
theorem dX0_passMonths_101 : decode cX0_passMonths 101 = .ok (.isub, 1) := by decide +kernel
theorem dX0_passMonths_102 : decode cX0_passMonths 102 = .ok (.ireturn, 1) := by decide +kernel
theorem dX0_runPledge_0 : decode cX0_runPledge 0 = .ok (.aload_n 0, 1) := by decide +kernel
theorem dX0_runPledge_1 : decode cX0_runPledge 1 = .ok (.getfield 30, 3) := by decide +kernel
theorem dX0_runPledge_4 : decode cX0_runPledge 4 = .ok (.iload_n 1, 1) := by decide +kernel
theorem dX0_runPledge_5 : decode cX0_runPledge 5 = .ok (.iconst 3, 1) := by decide +kernel
theorem dX0_runPledge_6 : decode cX0_runPledge 6 = .ok (.iconst (-1), 1) := by decide +kernel
theorem dX0_runPledge_7 : decode cX0_runPledge 7 = .ok (.invokevirtual 73, 3) := by decide +kernel
theorem dX0_runPledge_10 : decode cX0_runPledge 10 = .ok (.aload_n 0, 1) := by decide +kernel
theorem dX0_runPledge_11 : decode cX0_runPledge 11 = .ok (.getfield 30, 3) := by decide +kernel
theorem dX0_runPledge_14 : decode cX0_runPledge 14 = .ok (.iload_n 1, 1) := by decide +kernel
theorem dX0_runPledge_15 : decode cX0_runPledge 15 = .ok (.bipush 7, 2) := by decide +kernel
theorem dX0_runPledge_17 : decode cX0_runPledge 17 = .ok (.invokevirtual 58, 3) := by decide +kernel
theorem dX0_runPledge_20 : decode cX0_runPledge 20 = .ok (.iconst 1, 1) := by decide +kernel
theorem dX0_runPledge_21 : decode cX0_runPledge 21 = .ok (.if_icmp .ne 46, 3) := by decide +kernel
theorem dX0_runPledge_24 : decode cX0_runPledge 24 = .ok (.aload_n 0, 1) := by decide +kernel
theorem dX0_runPledge_25 : decode cX0_runPledge 25 = .ok (.getfield 30, 3) := by decide +kernel
theorem dX0_runPledge_28 : decode cX0_runPledge 28 = .ok (.iload_n 1, 1) := by decide +kernel
theorem dX0_runPledge_29 : decode cX0_runPledge 29 = .ok (.bipush 7, 2) := by decide +kernel
theorem dX0_runPledge_31 : decode cX0_runPledge 31 = .ok (.iconst 0, 1) := by decide +kernel
theorem dX0_runPledge_32 : decode cX0_runPledge 32 = .ok (.invokevirtual 46, 3) := by decide +kernel
theorem dX0_runPledge_35 : decode cX0_runPledge 35 = .ok (.aload_n 0, 1) := by decide +kernel
theorem dX0_runPledge_36 : decode cX0_runPledge 36 = .ok (.getfield 30, 3) := by decide +kernel
theorem dX0_runPledge_39 : decode cX0_runPledge 39 = .ok (.iload_n 1, 1) := by decide +kernel
theorem dX0_runPledge_40 : decode cX0_runPledge 40 = .ok (.iconst 4, 1) := by decide +kernel
theorem dX0_runPledge_41 : decode cX0_runPledge 41 = .ok (.iconst 1, 1) := by decide +kernel
theorem dX0_runPledge_42 : decode cX0_runPledge 42 = .ok (.invokevirtual 73, 3) := by decide +kernel
theorem dX0_runPledge_45 : decode cX0_runPledge 45 = .ok (.aload_n 0, 1) := by decide +kernel
theorem dX0_runPledge_46 : decode cX0_runPledge 46 = .ok (.getfield 30, 3) := by decide +kernel
theorem dX0_runPledge_49 : decode cX0_runPledge 49 = .ok (.iload_n 1, 1) := by decide +kernel
theorem dX0_runPledge_50 : decode cX0_runPledge 50 = .ok (.iconst 4, 1) := by decide +kernel
theorem dX0_runPledge_51 : decode cX0_runPledge 51 = .ok (.invokevirtual 58, 3) := by decide +kernel
theorem dX0_runPledge_54 : decode cX0_runPledge 54 = .ok (.iconst 3, 1) := by decide +kernel
theorem dX0_runPledge_55 : decode cX0_runPledge 55 = .ok (.if_icmp .lt 7, 3) := by decide +kernel
theorem dX0_runPledge_58 : decode cX0_runPledge 58 = .ok (.iconst 1, 1) := by decide +kernel
theorem dX0_runPledge_59 : decode cX0_runPledge 59 = .ok (.goto 4, 3) := by decide +kernel
theorem dX0_runPledge_62 : decode cX0_runPledge 62 = .ok (.iconst 0, 1) := by decide +kernel
theorem dX0_runPledge_63 : decode cX0_runPledge 63 = .ok (.istore_n 2, 1) := by decide +kernel
theorem dX0_runPledge_64 : decode cX0_runPledge 64 = .ok (.goto 65, 3) := by decide +kernel
theorem dX0_runPledge_67 : decode cX0_runPledge 67 = .ok (.aload_n 0, 1) := by decide +kernel
theorem dX0_runPledge_68 : decode cX0_runPledge 68 = .ok (.getfield 27, 3) := by decide +kernel
theorem dX0_runPledge_71 : decode cX0_runPledge 71 = .ok (.invokevirtual 65, 3) := by decide +kernel
theorem dX0_runPledge_74 : decode cX0_runPledge 74 = .ok (.istore_n 2, 1) := by decide +kernel
theorem dX0_runPledge_75 : decode cX0_runPledge 75 = .ok (.iload_n 2, 1) := by decide +kernel
theorem dX0_runPledge_76 : decode cX0_runPledge 76 = .ok (.ifCond .ne 53, 3) := by decide +kernel
theorem dX0_runPledge_79 : decode cX0_runPledge 79 = .ok (.aload_n 0, 1) := by decide +kernel
theorem dX0_runPledge_80 : decode cX0_runPledge 80 = .ok (.getfield 30, 3) := by decide +kernel
theorem dX0_runPledge_83 : decode cX0_runPledge 83 = .ok (.iload_n 1, 1) := by decide +kernel
theorem dX0_runPledge_84 : decode cX0_runPledge 84 = .ok (.iconst 0, 1) := by decide +kernel
theorem dX0_runPledge_85 : decode cX0_runPledge 85 = .ok (.invokevirtual 58, 3) := by decide +kernel
theorem dX0_runPledge_88 : decode cX0_runPledge 88 = .ok (.istore_n 3, 1) := by decide +kernel
theorem dX0_runPledge_89 : decode cX0_runPledge 89 = .ok (.aload_n 0, 1) := by decide +kernel
theorem dX0_runPledge_90 : decode cX0_runPledge 90 = .ok (.getfield 30, 3) := by decide +kernel
theorem dX0_runPledge_93 : decode cX0_runPledge 93 = .ok (.iload_n 1, 1) := by decide +kernel
theorem dX0_runPledge_94 : decode cX0_runPledge 94 = .ok (.iconst 1, 1) := by decide +kernel
theorem dX0_runPledge_95 : decode cX0_runPledge 95 = .ok (.invokevirtual 58, 3) := by decide +kernel
theorem dX0_runPledge_98 : decode cX0_runPledge 98 = .ok (.istore 4, 2) := by decide +kernel
theorem dX0_runPledge_100 : decode cX0_runPledge 100 = .ok (.aload_n 0, 1) := by decide +kernel
theorem dX0_runPledge_101 : decode cX0_runPledge 101 = .ok (.iload_n 3, 1) := by decide +kernel
theorem dX0_runPledge_102 : decode cX0_runPledge 102 = .ok (.iload 4, 2) := by decide +kernel
theorem dX0_runPledge_104 : decode cX0_runPledge 104 = .ok (.aload_n 0, 1) := by decide +kernel
theorem dX0_runPledge_105 : decode cX0_runPledge 105 = .ok (.getfield 30, 3) := by decide +kernel
theorem dX0_runPledge_108 : decode cX0_runPledge 108 = .ok (.iload_n 1, 1) := by decide +kernel
theorem dX0_runPledge_109 : decode cX0_runPledge 109 = .ok (.iconst 2, 1) := by decide +kernel
theorem dX0_runPledge_110 : decode cX0_runPledge 110 = .ok (.invokevirtual 58, 3) := by decide +kernel
theorem dX0_runPledge_113 : decode cX0_runPledge 113 = .ok (.iload_n 1, 1) := by decide +kernel
theorem dX0_runPledge_114 : decode cX0_runPledge 114 = .ok (.invokevirtual 69, 3) := by decide +kernel
theorem dX0_runPledge_117 : decode cX0_runPledge 117 = .ok (.pop, 1) := by decide +kernel
theorem dX0_runPledge_118 : decode cX0_runPledge 118 = .ok (.aload_n 0, 1) := by decide +kernel
theorem dX0_runPledge_119 : decode cX0_runPledge 119 = .ok (.getfield 30, 3) := by decide +kernel
theorem dX0_runPledge_122 : decode cX0_runPledge 122 = .ok (.iload_n 1, 1) := by decide +kernel
theorem dX0_runPledge_123 : decode cX0_runPledge 123 = .ok (.bipush 6, 2) := by decide +kernel
theorem dX0_runPledge_125 : decode cX0_runPledge 125 = .ok (.iconst 1, 1) := by decide +kernel
theorem dX0_runPledge_126 : decode cX0_runPledge 126 = .ok (.invokevirtual 73, 3) := by decide +kernel
theorem dX0_runPledge_129 : decode cX0_runPledge 129 = .ok (.iload_n 2, 1) := by decide +kernel
theorem dX0_runPledge_130 : decode cX0_runPledge 130 = .ok (.ifCond .eq 16, 3) := by decide +kernel
theorem dX0_runPledge_133 : decode cX0_runPledge 133 = .ok (.aload_n 0, 1) := by decide +kernel
theorem dX0_runPledge_134 : decode cX0_runPledge 134 = .ok (.getfield 30, 3) := by decide +kernel
theorem dX0_runPledge_137 : decode cX0_runPledge 137 = .ok (.iload_n 1, 1) := by decide +kernel
theorem dX0_runPledge_138 : decode cX0_runPledge 138 = .ok (.iconst 5, 1) := by decide +kernel
theorem dX0_runPledge_139 : decode cX0_runPledge 139 = .ok (.iconst 3, 1) := by decide +kernel
theorem dX0_runPledge_140 : decode cX0_runPledge 140 = .ok (.invokevirtual 46, 3) := by decide +kernel
theorem dX0_runPledge_143 : decode cX0_runPledge 143 = .ok (.goto 25, 3) := by decide +kernel
theorem dX0_runPledge_146 : decode cX0_runPledge 146 = .ok (.aload_n 0, 1) := by decide +kernel
theorem dX0_runPledge_147 : decode cX0_runPledge 147 = .ok (.getfield 30, 3) := by decide +kernel
theorem dX0_runPledge_150 : decode cX0_runPledge 150 = .ok (.iload_n 1, 1) := by decide +kernel
theorem dX0_runPledge_151 : decode cX0_runPledge 151 = .ok (.iconst 3, 1) := by decide +kernel
theorem dX0_runPledge_152 : decode cX0_runPledge 152 = .ok (.invokevirtual 58, 3) := by decide +kernel
theorem dX0_runPledge_155 : decode cX0_runPledge 155 = .ok (.ifCond .ne 13, 3) := by decide +kernel
theorem dX0_runPledge_158 : decode cX0_runPledge 158 = .ok (.aload_n 0, 1) := by decide +kernel
theorem dX0_runPledge_159 : decode cX0_runPledge 159 = .ok (.getfield 30, 3) := by decide +kernel
theorem dX0_runPledge_162 : decode cX0_runPledge 162 = .ok (.iload_n 1, 1) := by decide +kernel
theorem dX0_runPledge_163 : decode cX0_runPledge 163 = .ok (.iconst 5, 1) := by decide +kernel
theorem dX0_runPledge_164 : decode cX0_runPledge 164 = .ok (.iconst 1, 1) := by decide +kernel
theorem dX0_runPledge_165 : decode cX0_runPledge 165 = .ok (.invokevirtual 46, 3) := by decide +kernel
theorem dX0_runPledge_168 : decode cX0_runPledge 168 = .ok (.return_, 1) := by decide +kernel
theorem dX0_claimGifts_0 : decode cX0_claimGifts 0 = .ok (.iconst 0, 1) := by decide +kernel
theorem dX0_claimGifts_1 : decode cX0_claimGifts 1 = .ok (.istore_n 2, 1) := by decide +kernel
theorem dX0_claimGifts_2 : decode cX0_claimGifts 2 = .ok (.iconst 0, 1) := by decide +kernel
theorem dX0_claimGifts_3 : decode cX0_claimGifts 3 = .ok (.istore_n 3, 1) := by decide +kernel
theorem dX0_claimGifts_4 : decode cX0_claimGifts 4 = .ok (.iconst 0, 1) := by decide +kernel
theorem dX0_claimGifts_5 : decode cX0_claimGifts 5 = .ok (.istore 4, 2) := by decide +kernel
theorem dX0_claimGifts_7 : decode cX0_claimGifts 7 = .ok (.iload 4, 2) := by decide +kernel
theorem dX0_claimGifts_9 : decode cX0_claimGifts 9 = .ok (.aload_n 0, 1) := by decide +kernel
theorem dX0_claimGifts_10 : decode cX0_claimGifts 10 = .ok (.getfield 27, 3) := by decide +kernel
theorem dX0_claimGifts_13 : decode cX0_claimGifts 13 = .ok (.invokevirtual 86, 3) := by decide +kernel
theorem dX0_claimGifts_16 : decode cX0_claimGifts 16 = .ok (.if_icmp .ge 95, 3) := by decide +kernel
theorem dX0_claimGifts_19 : decode cX0_claimGifts 19 = .ok (.iload_n 1, 1) := by decide +kernel
theorem dX0_claimGifts_20 : decode cX0_claimGifts 20 = .ok (.iconst (-1), 1) := by decide +kernel
theorem dX0_claimGifts_21 : decode cX0_claimGifts 21 = .ok (.if_icmp .eq 13, 3) := by decide +kernel
theorem dX0_claimGifts_24 : decode cX0_claimGifts 24 = .ok (.aload_n 0, 1) := by decide +kernel
theorem dX0_claimGifts_25 : decode cX0_claimGifts 25 = .ok (.iload 4, 2) := by decide +kernel
theorem dX0_claimGifts_27 : decode cX0_claimGifts 27 = .ok (.iload_n 1, 1) := by decide +kernel
theorem dX0_claimGifts_28 : decode cX0_claimGifts 28 = .ok (.invokevirtual 92, 3) := by decide +kernel
theorem dX0_claimGifts_31 : decode cX0_claimGifts 31 = .ok (.ifCond .eq 74, 3) := by decide +kernel
theorem dX0_claimGifts_34 : decode cX0_claimGifts 34 = .ok (.aload_n 0, 1) := by decide +kernel
theorem dX0_claimGifts_35 : decode cX0_claimGifts 35 = .ok (.iload 4, 2) := by decide +kernel
theorem dX0_claimGifts_37 : decode cX0_claimGifts 37 = .ok (.invokevirtual 96, 3) := by decide +kernel
theorem dX0_claimGifts_40 : decode cX0_claimGifts 40 = .ok (.ifCond .eq 65, 3) := by decide +kernel
theorem dX0_claimGifts_43 : decode cX0_claimGifts 43 = .ok (.aload_n 0, 1) := by decide +kernel
theorem dX0_claimGifts_44 : decode cX0_claimGifts 44 = .ok (.getfield 27, 3) := by decide +kernel
theorem dX0_claimGifts_47 : decode cX0_claimGifts 47 = .ok (.iload 4, 2) := by decide +kernel
theorem dX0_claimGifts_49 : decode cX0_claimGifts 49 = .ok (.iconst 4, 1) := by decide +kernel
theorem dX0_claimGifts_50 : decode cX0_claimGifts 50 = .ok (.iconst 1, 1) := by decide +kernel
theorem dX0_claimGifts_51 : decode cX0_claimGifts 51 = .ok (.invokevirtual 46, 3) := by decide +kernel
theorem dX0_claimGifts_54 : decode cX0_claimGifts 54 = .ok (.aload_n 0, 1) := by decide +kernel
theorem dX0_claimGifts_55 : decode cX0_claimGifts 55 = .ok (.getfield 20, 3) := by decide +kernel
theorem dX0_claimGifts_58 : decode cX0_claimGifts 58 = .ok (.aload_n 0, 1) := by decide +kernel
theorem dX0_claimGifts_59 : decode cX0_claimGifts 59 = .ok (.iload 4, 2) := by decide +kernel
theorem dX0_claimGifts_61 : decode cX0_claimGifts 61 = .ok (.invokevirtual 99, 3) := by decide +kernel
theorem dX0_claimGifts_64 : decode cX0_claimGifts 64 = .ok (.iconst 0, 1) := by decide +kernel
theorem dX0_claimGifts_65 : decode cX0_claimGifts 65 = .ok (.aload_n 0, 1) := by decide +kernel
theorem dX0_claimGifts_66 : decode cX0_claimGifts 66 = .ok (.iload 4, 2) := by decide +kernel
theorem dX0_claimGifts_68 : decode cX0_claimGifts 68 = .ok (.invokevirtual 103, 3) := by decide +kernel
theorem dX0_claimGifts_71 : decode cX0_claimGifts 71 = .ok (.invokevirtual 73, 3) := by decide +kernel
theorem dX0_claimGifts_74 : decode cX0_claimGifts 74 = .ok (.aload_n 0, 1) := by decide +kernel
theorem dX0_claimGifts_75 : decode cX0_claimGifts 75 = .ok (.getfield 20, 3) := by decide +kernel
theorem dX0_claimGifts_78 : decode cX0_claimGifts 78 = .ok (.aload_n 0, 1) := by decide +kernel
theorem dX0_claimGifts_79 : decode cX0_claimGifts 79 = .ok (.iload 4, 2) := by decide +kernel
theorem dX0_claimGifts_81 : decode cX0_claimGifts 81 = .ok (.invokevirtual 99, 3) := by decide +kernel
theorem dX0_claimGifts_84 : decode cX0_claimGifts 84 = .ok (.iconst 2, 1) := by decide +kernel
theorem dX0_claimGifts_85 : decode cX0_claimGifts 85 = .ok (.aload_n 0, 1) := by decide +kernel
theorem dX0_claimGifts_86 : decode cX0_claimGifts 86 = .ok (.iload 4, 2) := by decide +kernel
theorem dX0_claimGifts_88 : decode cX0_claimGifts 88 = .ok (.invokevirtual 103, 3) := by decide +kernel
theorem dX0_claimGifts_91 : decode cX0_claimGifts 91 = .ok (.invokevirtual 73, 3) := by decide +kernel
theorem dX0_claimGifts_94 : decode cX0_claimGifts 94 = .ok (.iload_n 2, 1) := by decide +kernel
theorem dX0_claimGifts_95 : decode cX0_claimGifts 95 = .ok (.aload_n 0, 1) := by decide +kernel
theorem dX0_claimGifts_96 : decode cX0_claimGifts 96 = .ok (.iload 4, 2) := by decide +kernel
theorem dX0_claimGifts_98 : decode cX0_claimGifts 98 = .ok (.invokevirtual 103, 3) := by decide +kernel
theorem dX0_claimGifts_101 : decode cX0_claimGifts 101 = .ok (.iadd, 1) := by decide +kernel
theorem dX0_claimGifts_102 : decode cX0_claimGifts 102 = .ok (.istore_n 2, 1) := by decide +kernel
theorem dX0_claimGifts_103 : decode cX0_claimGifts 103 = .ok (.iconst 1, 1) := by decide +kernel
theorem dX0_claimGifts_104 : decode cX0_claimGifts 104 = .ok (.istore_n 3, 1) := by decide +kernel
theorem dX0_claimGifts_105 : decode cX0_claimGifts 105 = .ok (.iinc 4 1, 3) := by decide +kernel
theorem dX0_claimGifts_108 : decode cX0_claimGifts 108 = .ok (.goto (-101), 3) := by decide +kernel
theorem dX0_claimGifts_111 : decode cX0_claimGifts 111 = .ok (.iload_n 3, 1) := by decide +kernel
theorem dX0_claimGifts_112 : decode cX0_claimGifts 112 = .ok (.ifCond .eq 7, 3) := by decide +kernel
theorem dX0_claimGifts_115 : decode cX0_claimGifts 115 = .ok (.iload_n 2, 1) := by decide +kernel
theorem dX0_claimGifts_116 : decode cX0_claimGifts 116 = .ok (.goto 5, 3) := by decide +kernel
theorem dX0_claimGifts_119 : decode cX0_claimGifts 119 = .ok (.bipush (-2), 2) := by decide +kernel
theorem dX0_claimGifts_121 : decode cX0_claimGifts 121 = .ok (.ireturn, 1) := by decide +kernel
theorem dX0_canBeClaimed_0 : decode cX0_canBeClaimed 0 = .ok (.aload_n 0, 1) := by decide +kernel
theorem dX0_canBeClaimed_1 : decode cX0_canBeClaimed 1 = .ok (.getfield 27, 3) := by decide +kernel
theorem dX0_canBeClaimed_4 : decode cX0_canBeClaimed 4 = .ok (.iload_n 1, 1) := by decide +kernel
theorem dX0_canBeClaimed_5 : decode cX0_canBeClaimed 5 = .ok (.iconst 0, 1) := by decide +kernel
theorem dX0_canBeClaimed_6 : decode cX0_canBeClaimed 6 = .ok (.invokevirtual 58, 3) := by decide +kernel
theorem dX0_canBeClaimed_9 : decode cX0_canBeClaimed 9 = .ok (.istore_n 2, 1) := by decide +kernel
theorem dX0_canBeClaimed_10 : decode cX0_canBeClaimed 10 = .ok (.aload_n 0, 1) := by decide +kernel
theorem dX0_canBeClaimed_11 : decode cX0_canBeClaimed 11 = .ok (.getfield 27, 3) := by decide +kernel
theorem dX0_canBeClaimed_14 : decode cX0_canBeClaimed 14 = .ok (.iload_n 1, 1) := by decide +kernel
theorem dX0_canBeClaimed_15 : decode cX0_canBeClaimed 15 = .ok (.iconst 3, 1) := by decide +kernel
theorem dX0_canBeClaimed_16 : decode cX0_canBeClaimed 16 = .ok (.invokevirtual 58, 3) := by decide +kernel
theorem dX0_canBeClaimed_19 : decode cX0_canBeClaimed 19 = .ok (.istore_n 3, 1) := by decide +kernel
theorem dX0_canBeClaimed_20 : decode cX0_canBeClaimed 20 = .ok (.aload_n 0, 1) := by decide +kernel
theorem dX0_canBeClaimed_21 : decode cX0_canBeClaimed 21 = .ok (.iload_n 1, 1) := by decide +kernel
theorem dX0_canBeClaimed_22 : decode cX0_canBeClaimed 22 = .ok (.invokevirtual 106, 3) := by decide +kernel
theorem dX0_canBeClaimed_25 : decode cX0_canBeClaimed 25 = .ok (.ifCond .ne 23, 3) := by decide +kernel
theorem dX0_canBeClaimed_28 : decode cX0_canBeClaimed 28 = .ok (.aload_n 0, 1) := by decide +kernel
theorem dX0_canBeClaimed_29 : decode cX0_canBeClaimed 29 = .ok (.iload_n 1, 1) := by decide +kernel
theorem dX0_canBeClaimed_30 : decode cX0_canBeClaimed 30 = .ok (.invokevirtual 109, 3) := by decide +kernel
theorem dX0_canBeClaimed_33 : decode cX0_canBeClaimed 33 = .ok (.ifCond .ne 15, 3) := by decide +kernel
theorem dX0_canBeClaimed_36 : decode cX0_canBeClaimed 36 = .ok (.aload_n 0, 1) := by decide +kernel
theorem dX0_canBeClaimed_37 : decode cX0_canBeClaimed 37 = .ok (.getfield 24, 3) := by decide +kernel
theorem dX0_canBeClaimed_40 : decode cX0_canBeClaimed 40 = .ok (.iload_n 2, 1) := by decide +kernel
theorem dX0_canBeClaimed_41 : decode cX0_canBeClaimed 41 = .ok (.iconst 0, 1) := by decide +kernel
theorem dX0_canBeClaimed_42 : decode cX0_canBeClaimed 42 = .ok (.invokevirtual 58, 3) := by decide +kernel
theorem dX0_canBeClaimed_45 : decode cX0_canBeClaimed 45 = .ok (.ifCond .ne 5, 3) := by decide +kernel
theorem dX0_canBeClaimed_48 : decode cX0_canBeClaimed 48 = .ok (.iconst 0, 1) := by decide +kernel
theorem dX0_canBeClaimed_49 : decode cX0_canBeClaimed 49 = .ok (.ireturn, 1) := by decide +kernel
theorem dX0_canBeClaimed_50 : decode cX0_canBeClaimed 50 = .ok (.aload_n 0, 1) := by decide +kernel
theorem dX0_canBeClaimed_51 : decode cX0_canBeClaimed 51 = .ok (.getfield 11, 3) := by decide +kernel
theorem dX0_canBeClaimed_54 : decode cX0_canBeClaimed 54 = .ok (.iconst 0, 1) := by decide +kernel
theorem dX0_canBeClaimed_55 : decode cX0_canBeClaimed 55 = .ok (.iaload, 1) := by decide +kernel
theorem dX0_canBeClaimed_56 : decode cX0_canBeClaimed 56 = .ok (.iload_n 3, 1) := by decide +kernel
theorem dX0_canBeClaimed_57 : decode cX0_canBeClaimed 57 = .ok (.isub, 1) := by decide +kernel
theorem dX0_canBeClaimed_58 : decode cX0_canBeClaimed 58 = .ok (.bipush 47, 2) := by decide +kernel
theorem dX0_canBeClaimed_60 : decode cX0_canBeClaimed 60 = .ok (.if_icmp .le 5, 3) := by decide +kernel
theorem dX0_canBeClaimed_63 : decode cX0_canBeClaimed 63 = .ok (.iconst 0, 1) := by decide +kernel
theorem dX0_canBeClaimed_64 : decode cX0_canBeClaimed 64 = .ok (.ireturn, 1) := by decide +kernel
theorem dX0_canBeClaimed_65 : decode cX0_canBeClaimed 65 = .ok (.aload_n 0, 1) := by decide +kernel
theorem dX0_canBeClaimed_66 : decode cX0_canBeClaimed 66 = .ok (.iload_n 2, 1) := by decide +kernel
theorem dX0_canBeClaimed_67 : decode cX0_canBeClaimed 67 = .ok (.iload_n 3, 1) := by decide +kernel
theorem dX0_canBeClaimed_68 : decode cX0_canBeClaimed 68 = .ok (.bipush 12, 2) := by decide +kernel
theorem dX0_canBeClaimed_70 : decode cX0_canBeClaimed 70 = .ok (.idiv, 1) := by decide +kernel
theorem dX0_canBeClaimed_71 : decode cX0_canBeClaimed 71 = .ok (.invokevirtual 112, 3) := by decide +kernel
theorem dX0_canBeClaimed_74 : decode cX0_canBeClaimed 74 = .ok (.istore 4, 2) := by decide +kernel
theorem dX0_canBeClaimed_76 : decode cX0_canBeClaimed 76 = .ok (.iload 4, 2) := by decide +kernel
theorem dX0_canBeClaimed_78 : decode cX0_canBeClaimed 78 = .ok (.aload_n 0, 1) := by decide +kernel
theorem dX0_canBeClaimed_79 : decode cX0_canBeClaimed 79 = .ok (.getfield 27, 3) := by decide +kernel
theorem dX0_canBeClaimed_82 : decode cX0_canBeClaimed 82 = .ok (.iload_n 1, 1) := by decide +kernel
theorem dX0_canBeClaimed_83 : decode cX0_canBeClaimed 83 = .ok (.iconst 2, 1) := by decide +kernel
theorem dX0_canBeClaimed_84 : decode cX0_canBeClaimed 84 = .ok (.invokevirtual 58, 3) := by decide +kernel
theorem dX0_canBeClaimed_87 : decode cX0_canBeClaimed 87 = .ok (.iadd, 1) := by decide +kernel
theorem dX0_canBeClaimed_88 : decode cX0_canBeClaimed 88 = .ok (.aload_n 0, 1) := by decide +kernel
theorem dX0_canBeClaimed_89 : decode cX0_canBeClaimed 89 = .ok (.getfield 11, 3) := by decide +kernel
theorem dX0_canBeClaimed_92 : decode cX0_canBeClaimed 92 = .ok (.iconst 2, 1) := by decide +kernel
theorem dX0_canBeClaimed_93 : decode cX0_canBeClaimed 93 = .ok (.iaload, 1) := by decide +kernel
theorem dX0_canBeClaimed_94 : decode cX0_canBeClaimed 94 = .ok (.if_icmp .gt 7, 3) := by decide +kernel
theorem dX0_canBeClaimed_97 : decode cX0_canBeClaimed 97 = .ok (.iconst 1, 1) := by decide +kernel
theorem dX0_canBeClaimed_98 : decode cX0_canBeClaimed 98 = .ok (.goto 4, 3) := by decide +kernel
theorem dX0_canBeClaimed_101 : decode cX0_canBeClaimed 101 = .ok (.iconst 0, 1) := by decide +kernel
theorem dX0_canBeClaimed_102 : decode cX0_canBeClaimed 102 = .ok (.ireturn, 1) := by decide +kernel
theorem dX0_claimedInYear_0 : decode cX0_claimedInYear 0 = .ok (.iconst 0, 1) := by decide +kernel
theorem dX0_claimedInYear_1 : decode cX0_claimedInYear 1 = .ok (.istore_n 3, 1) := by decide +kernel
theorem dX0_claimedInYear_2 : decode cX0_claimedInYear 2 = .ok (.iconst 0, 1) := by decide +kernel
theorem dX0_claimedInYear_3 : decode cX0_claimedInYear 3 = .ok (.istore 4, 2) := by decide +kernel
theorem dX0_claimedInYear_5 : decode cX0_claimedInYear 5 = .ok (.iload 4, 2) := by decide +kernel
theorem dX0_claimedInYear_7 : decode cX0_claimedInYear 7 = .ok (.aload_n 0, 1) := by decide +kernel
theorem dX0_claimedInYear_8 : decode cX0_claimedInYear 8 = .ok (.getfield 27, 3) := by decide +kernel
theorem dX0_claimedInYear_11 : decode cX0_claimedInYear 11 = .ok (.invokevirtual 86, 3) := by decide +kernel
theorem dX0_claimedInYear_14 : decode cX0_claimedInYear 14 = .ok (.if_icmp .ge 80, 3) := by decide +kernel
theorem dX0_claimedInYear_17 : decode cX0_claimedInYear 17 = .ok (.aload_n 0, 1) := by decide +kernel
theorem dX0_claimedInYear_18 : decode cX0_claimedInYear 18 = .ok (.getfield 27, 3) := by decide +kernel
theorem dX0_claimedInYear_21 : decode cX0_claimedInYear 21 = .ok (.iload 4, 2) := by decide +kernel
theorem dX0_claimedInYear_23 : decode cX0_claimedInYear 23 = .ok (.iconst 0, 1) := by decide +kernel
theorem dX0_claimedInYear_24 : decode cX0_claimedInYear 24 = .ok (.invokevirtual 58, 3) := by decide +kernel
theorem dX0_claimedInYear_27 : decode cX0_claimedInYear 27 = .ok (.iload_n 1, 1) := by decide +kernel
theorem dX0_claimedInYear_28 : decode cX0_claimedInYear 28 = .ok (.if_icmp .ne 60, 3) := by decide +kernel
theorem dX0_claimedInYear_31 : decode cX0_claimedInYear 31 = .ok (.aload_n 0, 1) := by decide +kernel
theorem dX0_claimedInYear_32 : decode cX0_claimedInYear 32 = .ok (.getfield 27, 3) := by decide +kernel
theorem dX0_claimedInYear_35 : decode cX0_claimedInYear 35 = .ok (.iload 4, 2) := by decide +kernel
theorem dX0_claimedInYear_37 : decode cX0_claimedInYear 37 = .ok (.iconst 3, 1) := by decide +kernel
theorem dX0_claimedInYear_38 : decode cX0_claimedInYear 38 = .ok (.invokevirtual 58, 3) := by decide +kernel
theorem dX0_claimedInYear_41 : decode cX0_claimedInYear 41 = .ok (.bipush 12, 2) := by decide +kernel
theorem dX0_claimedInYear_43 : decode cX0_claimedInYear 43 = .ok (.idiv, 1) := by decide +kernel
theorem dX0_claimedInYear_44 : decode cX0_claimedInYear 44 = .ok (.iload_n 2, 1) := by decide +kernel
theorem dX0_claimedInYear_45 : decode cX0_claimedInYear 45 = .ok (.if_icmp .ne 43, 3) := by decide +kernel
theorem dX0_claimedInYear_48 : decode cX0_claimedInYear 48 = .ok (.aload_n 0, 1) := by decide +kernel
theorem dX0_claimedInYear_49 : decode cX0_claimedInYear 49 = .ok (.getfield 27, 3) := by decide +kernel
theorem dX0_claimedInYear_52 : decode cX0_claimedInYear 52 = .ok (.iload 4, 2) := by decide +kernel
theorem dX0_claimedInYear_54 : decode cX0_claimedInYear 54 = .ok (.iconst 4, 1) := by decide +kernel
theorem dX0_claimedInYear_55 : decode cX0_claimedInYear 55 = .ok (.invokevirtual 58, 3) := by decide +kernel
theorem dX0_claimedInYear_58 : decode cX0_claimedInYear 58 = .ok (.iconst 1, 1) := by decide +kernel
theorem dX0_claimedInYear_59 : decode cX0_claimedInYear 59 = .ok (.if_icmp .ne 29, 3) := by decide +kernel
theorem dX0_claimedInYear_62 : decode cX0_claimedInYear 62 = .ok (.aload_n 0, 1) := by decide +kernel
theorem dX0_claimedInYear_63 : decode cX0_claimedInYear 63 = .ok (.getfield 27, 3) := by decide +kernel
theorem dX0_claimedInYear_66 : decode cX0_claimedInYear 66 = .ok (.iload 4, 2) := by decide +kernel
theorem dX0_claimedInYear_68 : decode cX0_claimedInYear 68 = .ok (.iconst 5, 1) := by decide +kernel
theorem dX0_claimedInYear_69 : decode cX0_claimedInYear 69 = .ok (.invokevirtual 58, 3) := by decide +kernel
theorem dX0_claimedInYear_72 : decode cX0_claimedInYear 72 = .ok (.ifCond .ne 16, 3) := by decide +kernel
theorem dX0_claimedInYear_75 : decode cX0_claimedInYear 75 = .ok (.iload_n 3, 1) := by decide +kernel
theorem dX0_claimedInYear_76 : decode cX0_claimedInYear 76 = .ok (.aload_n 0, 1) := by decide +kernel
theorem dX0_claimedInYear_77 : decode cX0_claimedInYear 77 = .ok (.getfield 27, 3) := by decide +kernel
theorem dX0_claimedInYear_80 : decode cX0_claimedInYear 80 = .ok (.iload 4, 2) := by decide +kernel
theorem dX0_claimedInYear_82 : decode cX0_claimedInYear 82 = .ok (.iconst 2, 1) := by decide +kernel
theorem dX0_claimedInYear_83 : decode cX0_claimedInYear 83 = .ok (.invokevirtual 58, 3) := by decide +kernel
theorem dX0_claimedInYear_86 : decode cX0_claimedInYear 86 = .ok (.iadd, 1) := by decide +kernel
theorem dX0_claimedInYear_87 : decode cX0_claimedInYear 87 = .ok (.istore_n 3, 1) := by decide +kernel
theorem dX0_claimedInYear_88 : decode cX0_claimedInYear 88 = .ok (.iinc 4 1, 3) := by decide +kernel
theorem dX0_claimedInYear_91 : decode cX0_claimedInYear 91 = .ok (.goto (-86), 3) := by decide +kernel
theorem dX0_claimedInYear_94 : decode cX0_claimedInYear 94 = .ok (.iload_n 3, 1) := by decide +kernel
theorem dX0_claimedInYear_95 : decode cX0_claimedInYear 95 = .ok (.ireturn, 1) := by decide +kernel
theorem dX0_spendOn_0 : decode cX0_spendOn 0 = .ok (.aload_n 0, 1) := by decide +kernel
theorem dX0_spendOn_1 : decode cX0_spendOn 1 = .ok (.getfield 20, 3) := by decide +kernel
theorem dX0_spendOn_4 : decode cX0_spendOn 4 = .ok (.iload_n 1, 1) := by decide +kernel
theorem dX0_spendOn_5 : decode cX0_spendOn 5 = .ok (.invokevirtual 50, 3) := by decide +kernel
theorem dX0_spendOn_8 : decode cX0_spendOn 8 = .ok (.ifCond .eq 14, 3) := by decide +kernel
theorem dX0_spendOn_11 : decode cX0_spendOn 11 = .ok (.iload_n 2, 1) := by decide +kernel
theorem dX0_spendOn_12 : decode cX0_spendOn 12 = .ok (.iconst 1, 1) := by decide +kernel
theorem dX0_spendOn_13 : decode cX0_spendOn 13 = .ok (.sipush 9999, 3) := by decide +kernel
theorem dX0_spendOn_16 : decode cX0_spendOn 16 = .ok (.invokestatic 54, 3) := by decide +kernel
theorem dX0_spendOn_19 : decode cX0_spendOn 19 = .ok (.ifCond .ne 5, 3) := by decide +kernel
theorem dX0_spendOn_22 : decode cX0_spendOn 22 = .ok (.iconst (-1), 1) := by decide +kernel
theorem dX0_spendOn_23 : decode cX0_spendOn 23 = .ok (.ireturn, 1) := by decide +kernel
theorem dX0_spendOn_24 : decode cX0_spendOn 24 = .ok (.aload_n 0, 1) := by decide +kernel
theorem dX0_spendOn_25 : decode cX0_spendOn 25 = .ok (.iload_n 1, 1) := by decide +kernel
theorem dX0_spendOn_26 : decode cX0_spendOn 26 = .ok (.invokevirtual 62, 3) := by decide +kernel
theorem dX0_spendOn_29 : decode cX0_spendOn 29 = .ok (.ifCond .eq 6, 3) := by decide +kernel
theorem dX0_spendOn_32 : decode cX0_spendOn 32 = .ok (.bipush (-2), 2) := by decide +kernel
theorem dX0_spendOn_34 : decode cX0_spendOn 34 = .ok (.ireturn, 1) := by decide +kernel
theorem dX0_spendOn_35 : decode cX0_spendOn 35 = .ok (.iconst 0, 1) := by decide +kernel
theorem dX0_spendOn_36 : decode cX0_spendOn 36 = .ok (.iload_n 2, 1) := by decide +kernel
theorem dX0_spendOn_37 : decode cX0_spendOn 37 = .ok (.aload_n 0, 1) := by decide +kernel
theorem dX0_spendOn_38 : decode cX0_spendOn 38 = .ok (.iload_n 1, 1) := by decide +kernel
theorem dX0_spendOn_39 : decode cX0_spendOn 39 = .ok (.invokevirtual 115, 3) := by decide +kernel
theorem dX0_spendOn_42 : decode cX0_spendOn 42 = .ok (.isub, 1) := by decide +kernel
theorem dX0_spendOn_43 : decode cX0_spendOn 43 = .ok (.invokestatic 118, 3) := by decide +kernel
theorem dX0_spendOn_46 : decode cX0_spendOn 46 = .ok (.istore_n 3, 1) := by decide +kernel
theorem dX0_spendOn_47 : decode cX0_spendOn 47 = .ok (.iload_n 3, 1) := by decide +kernel
theorem dX0_spendOn_48 : decode cX0_spendOn 48 = .ok (.ifCond .le 19, 3) := by decide +kernel
theorem dX0_spendOn_51 : decode cX0_spendOn 51 = .ok (.iload_n 1, 1) := by decide +kernel
theorem dX0_spendOn_52 : decode cX0_spendOn 52 = .ok (.ifCond .eq 12, 3) := by decide +kernel
theorem dX0_spendOn_55 : decode cX0_spendOn 55 = .ok (.aload_n 0, 1) := by decide +kernel
theorem dX0_spendOn_56 : decode cX0_spendOn 56 = .ok (.iconst 0, 1) := by decide +kernel
theorem dX0_spendOn_57 : decode cX0_spendOn 57 = .ok (.invokevirtual 115, 3) := by decide +kernel
theorem dX0_spendOn_60 : decode cX0_spendOn 60 = .ok (.iload_n 3, 1) := by decide +kernel
theorem dX0_spendOn_61 : decode cX0_spendOn 61 = .ok (.if_icmp .ge 6, 3) := by decide +kernel
theorem dX0_spendOn_64 : decode cX0_spendOn 64 = .ok (.bipush (-2), 2) := by decide +kernel
theorem dX0_spendOn_66 : decode cX0_spendOn 66 = .ok (.ireturn, 1) := by decide +kernel
theorem dX0_spendOn_67 : decode cX0_spendOn 67 = .ok (.aload_n 0, 1) := by decide +kernel
theorem dX0_spendOn_68 : decode cX0_spendOn 68 = .ok (.getfield 20, 3) := by decide +kernel
theorem dX0_spendOn_71 : decode cX0_spendOn 71 = .ok (.iload_n 1, 1) := by decide +kernel
theorem dX0_spendOn_72 : decode cX0_spendOn 72 = .ok (.iconst 0, 1) := by decide +kernel
theorem dX0_spendOn_73 : decode cX0_spendOn 73 = .ok (.iload_n 3, 1) := by decide +kernel
theorem dX0_spendOn_74 : decode cX0_spendOn 74 = .ok (.iload_n 2, 1) := by decide +kernel
theorem dX0_spendOn_75 : decode cX0_spendOn 75 = .ok (.isub, 1) := by decide +kernel
theorem dX0_spendOn_76 : decode cX0_spendOn 76 = .ok (.invokevirtual 73, 3) := by decide +kernel
theorem dX0_spendOn_79 : decode cX0_spendOn 79 = .ok (.aload_n 0, 1) := by decide +kernel
theorem dX0_spendOn_80 : decode cX0_spendOn 80 = .ok (.getfield 20, 3) := by decide +kernel
theorem dX0_spendOn_83 : decode cX0_spendOn 83 = .ok (.iload_n 1, 1) := by decide +kernel
theorem dX0_spendOn_84 : decode cX0_spendOn 84 = .ok (.iconst 3, 1) := by decide +kernel
theorem dX0_spendOn_85 : decode cX0_spendOn 85 = .ok (.iload_n 2, 1) := by decide +kernel
theorem dX0_spendOn_86 : decode cX0_spendOn 86 = .ok (.invokevirtual 73, 3) := by decide +kernel
theorem dX0_spendOn_89 : decode cX0_spendOn 89 = .ok (.aload_n 0, 1) := by decide +kernel
theorem dX0_spendOn_90 : decode cX0_spendOn 90 = .ok (.getfield 20, 3) := by decide +kernel
theorem dX0_spendOn_93 : decode cX0_spendOn 93 = .ok (.iload_n 1, 1) := by decide +kernel
theorem dX0_spendOn_94 : decode cX0_spendOn 94 = .ok (.iconst 4, 1) := by decide +kernel
theorem dX0_spendOn_95 : decode cX0_spendOn 95 = .ok (.iload_n 3, 1) := by decide +kernel
theorem dX0_spendOn_96 : decode cX0_spendOn 96 = .ok (.invokevirtual 73, 3) := by decide +kernel
theorem dX0_spendOn_99 : decode cX0_spendOn 99 = .ok (.aload_n 0, 1) := by decide +kernel
theorem dX0_spendOn_100 : decode cX0_spendOn 100 = .ok (.getfield 20, 3) := by decide +kernel
theorem dX0_spendOn_103 : decode cX0_spendOn 103 = .ok (.iconst 0, 1) := by decide +kernel
theorem dX0_spendOn_104 : decode cX0_spendOn 104 = .ok (.iconst 0, 1) := by decide +kernel
theorem dX0_spendOn_105 : decode cX0_spendOn 105 = .ok (.iload_n 3, 1) := by decide +kernel
theorem dX0_spendOn_106 : decode cX0_spendOn 106 = .ok (.ineg, 1) := by decide +kernel
theorem dX0_spendOn_107 : decode cX0_spendOn 107 = .ok (.invokevirtual 73, 3) := by decide +kernel
theorem dX0_spendOn_110 : decode cX0_spendOn 110 = .ok (.aload_n 0, 1) := by decide +kernel
theorem dX0_spendOn_111 : decode cX0_spendOn 111 = .ok (.getfield 20, 3) := by decide +kernel
theorem dX0_spendOn_114 : decode cX0_spendOn 114 = .ok (.iconst 0, 1) := by decide +kernel
theorem dX0_spendOn_115 : decode cX0_spendOn 115 = .ok (.bipush 11, 2) := by decide +kernel
theorem dX0_spendOn_117 : decode cX0_spendOn 117 = .ok (.iload_n 3, 1) := by decide +kernel
theorem dX0_spendOn_118 : decode cX0_spendOn 118 = .ok (.invokevirtual 73, 3) := by decide +kernel
theorem dX0_spendOn_121 : decode cX0_spendOn 121 = .ok (.iload_n 3, 1) := by decide +kernel
theorem dX0_spendOn_122 : decode cX0_spendOn 122 = .ok (.ireturn, 1) := by decide +kernel
theorem dX0_refundGift_0 : decode cX0_refundGift 0 = .ok (.aload_n 0, 1) := by decide +kernel
theorem dX0_refundGift_1 : decode cX0_refundGift 1 = .ok (.getfield 27, 3) := by decide +kernel
theorem dX0_refundGift_4 : decode cX0_refundGift 4 = .ok (.iload_n 1, 1) := by decide +kernel
theorem dX0_refundGift_5 : decode cX0_refundGift 5 = .ok (.invokevirtual 50, 3) := by decide +kernel
theorem dX0_refundGift_8 : decode cX0_refundGift 8 = .ok (.ifCond .ne 5, 3) := by decide +kernel
theorem dX0_refundGift_11 : decode cX0_refundGift 11 = .ok (.iconst (-1), 1) := by decide +kernel
theorem dX0_refundGift_12 : decode cX0_refundGift 12 = .ok (.ireturn, 1) := by decide +kernel
theorem dX0_refundGift_13 : decode cX0_refundGift 13 = .ok (.aload_n 0, 1) := by decide +kernel
theorem dX0_refundGift_14 : decode cX0_refundGift 14 = .ok (.getfield 27, 3) := by decide +kernel
theorem dX0_refundGift_17 : decode cX0_refundGift 17 = .ok (.iload_n 1, 1) := by decide +kernel
theorem dX0_refundGift_18 : decode cX0_refundGift 18 = .ok (.iconst 2, 1) := by decide +kernel
theorem dX0_refundGift_19 : decode cX0_refundGift 19 = .ok (.invokevirtual 58, 3) := by decide +kernel
theorem dX0_refundGift_22 : decode cX0_refundGift 22 = .ok (.istore_n 2, 1) := by decide +kernel
theorem dX0_refundGift_23 : decode cX0_refundGift 23 = .ok (.aload_n 0, 1) := by decide +kernel
theorem dX0_refundGift_24 : decode cX0_refundGift 24 = .ok (.iload_n 1, 1) := by decide +kernel
theorem dX0_refundGift_25 : decode cX0_refundGift 25 = .ok (.invokevirtual 106, 3) := by decide +kernel
theorem dX0_refundGift_28 : decode cX0_refundGift 28 = .ok (.ifCond .eq 11, 3) := by decide +kernel
theorem dX0_refundGift_31 : decode cX0_refundGift 31 = .ok (.aload_n 0, 1) := by decide +kernel
theorem dX0_refundGift_32 : decode cX0_refundGift 32 = .ok (.iload_n 1, 1) := by decide +kernel
theorem dX0_refundGift_33 : decode cX0_refundGift 33 = .ok (.invokevirtual 103, 3) := by decide +kernel
theorem dX0_refundGift_36 : decode cX0_refundGift 36 = .ok (.goto 4, 3) := by decide +kernel
theorem dX0_refundGift_39 : decode cX0_refundGift 39 = .ok (.iconst 0, 1) := by decide +kernel
theorem dX0_refundGift_40 : decode cX0_refundGift 40 = .ok (.istore_n 3, 1) := by decide +kernel
theorem dX0_refundGift_41 : decode cX0_refundGift 41 = .ok (.aload_n 0, 1) := by decide +kernel
theorem dX0_refundGift_42 : decode cX0_refundGift 42 = .ok (.iload_n 1, 1) := by decide +kernel
theorem dX0_refundGift_43 : decode cX0_refundGift 43 = .ok (.invokevirtual 99, 3) := by decide +kernel
theorem dX0_refundGift_46 : decode cX0_refundGift 46 = .ok (.istore 4, 2) := by decide +kernel
theorem dX0_refundGift_48 : decode cX0_refundGift 48 = .ok (.aload_n 0, 1) := by decide +kernel
theorem dX0_refundGift_49 : decode cX0_refundGift 49 = .ok (.iload_n 1, 1) := by decide +kernel
theorem dX0_refundGift_50 : decode cX0_refundGift 50 = .ok (.invokevirtual 109, 3) := by decide +kernel
theorem dX0_refundGift_53 : decode cX0_refundGift 53 = .ok (.ifCond .ne 15, 3) := by decide +kernel
theorem dX0_refundGift_56 : decode cX0_refundGift 56 = .ok (.aload_n 0, 1) := by decide +kernel
theorem dX0_refundGift_57 : decode cX0_refundGift 57 = .ok (.iload 4, 2) := by decide +kernel
theorem dX0_refundGift_59 : decode cX0_refundGift 59 = .ok (.invokevirtual 115, 3) := by decide +kernel
theorem dX0_refundGift_62 : decode cX0_refundGift 62 = .ok (.iload_n 2, 1) := by decide +kernel
theorem dX0_refundGift_63 : decode cX0_refundGift 63 = .ok (.iload_n 3, 1) := by decide +kernel
theorem dX0_refundGift_64 : decode cX0_refundGift 64 = .ok (.iadd, 1) := by decide +kernel
theorem dX0_refundGift_65 : decode cX0_refundGift 65 = .ok (.if_icmp .ge 6, 3) := by decide +kernel
theorem dX0_refundGift_68 : decode cX0_refundGift 68 = .ok (.bipush (-2), 2) := by decide +kernel
theorem dX0_refundGift_70 : decode cX0_refundGift 70 = .ok (.ireturn, 1) := by decide +kernel
theorem dX0_refundGift_71 : decode cX0_refundGift 71 = .ok (.aload_n 0, 1) := by decide +kernel
theorem dX0_refundGift_72 : decode cX0_refundGift 72 = .ok (.getfield 27, 3) := by decide +kernel
theorem dX0_refundGift_75 : decode cX0_refundGift 75 = .ok (.iload_n 1, 1) := by decide +kernel
theorem dX0_refundGift_76 : decode cX0_refundGift 76 = .ok (.iconst 5, 1) := by decide +kernel
theorem dX0_refundGift_77 : decode cX0_refundGift 77 = .ok (.iconst 1, 1) := by decide +kernel
theorem dX0_refundGift_78 : decode cX0_refundGift 78 = .ok (.invokevirtual 46, 3) := by decide +kernel
theorem dX0_refundGift_81 : decode cX0_refundGift 81 = .ok (.aload_n 0, 1) := by decide +kernel
theorem dX0_refundGift_82 : decode cX0_refundGift 82 = .ok (.getfield 20, 3) := by decide +kernel
theorem dX0_refundGift_85 : decode cX0_refundGift 85 = .ok (.iload 4, 2) := by decide +kernel
theorem dX0_refundGift_87 : decode cX0_refundGift 87 = .ok (.iconst 0, 1) := by decide +kernel
theorem dX0_refundGift_88 : decode cX0_refundGift 88 = .ok (.iload_n 2, 1) := by decide +kernel
theorem dX0_refundGift_89 : decode cX0_refundGift 89 = .ok (.ineg, 1) := by decide +kernel
theorem dX0_refundGift_90 : decode cX0_refundGift 90 = .ok (.iload_n 3, 1) := by decide +kernel
theorem dX0_refundGift_91 : decode cX0_refundGift 91 = .ok (.isub, 1) := by decide +kernel
theorem dX0_refundGift_92 : decode cX0_refundGift 92 = .ok (.invokevirtual 73, 3) := by decide +kernel
theorem dX0_refundGift_95 : decode cX0_refundGift 95 = .ok (.aload_n 0, 1) := by decide +kernel
theorem dX0_refundGift_96 : decode cX0_refundGift 96 = .ok (.getfield 20, 3) := by decide +kernel
theorem dX0_refundGift_99 : decode cX0_refundGift 99 = .ok (.iload 4, 2) := by decide +kernel
theorem dX0_refundGift_101 : decode cX0_refundGift 101 = .ok (.iconst 5, 1) := by decide +kernel
theorem dX0_refundGift_102 : decode cX0_refundGift 102 = .ok (.iload_n 2, 1) := by decide +kernel
theorem dX0_refundGift_103 : decode cX0_refundGift 103 = .ok (.invokevirtual 73, 3) := by decide +kernel
theorem dX0_refundGift_106 : decode cX0_refundGift 106 = .ok (.aload_n 0, 1) := by decide +kernel
theorem dX0_refundGift_107 : decode cX0_refundGift 107 = .ok (.getfield 20, 3) := by decide +kernel
theorem dX0_refundGift_110 : decode cX0_refundGift 110 = .ok (.iload 4, 2) := by decide +kernel
theorem dX0_refundGift_112 : decode cX0_refundGift 112 = .ok (.bipush 6, 2) := by decide +kernel
theorem dX0_refundGift_114 : decode cX0_refundGift 114 = .ok (.iload_n 3, 1) := by decide +kernel
theorem dX0_refundGift_115 : decode cX0_refundGift 115 = .ok (.invokevirtual 73, 3) := by decide +kernel
theorem dX0_refundGift_118 : decode cX0_refundGift 118 = .ok (.iload_n 3, 1) := by decide +kernel
theorem dX0_refundGift_119 : decode cX0_refundGift 119 = .ok (.ireturn, 1) := by decide +kernel
theorem dX0_consentTo_0 : decode cX0_consentTo 0 = .ok (.aload_n 0, 1) := by decide +kernel
theorem dX0_consentTo_1 : decode cX0_consentTo 1 = .ok (.getfield 24, 3) := by decide +kernel
theorem dX0_consentTo_4 : decode cX0_consentTo 4 = .ok (.iload_n 1, 1) := by decide +kernel
theorem dX0_consentTo_5 : decode cX0_consentTo 5 = .ok (.invokevirtual 50, 3) := by decide +kernel
theorem dX0_consentTo_8 : decode cX0_consentTo 8 = .ok (.ifCond .eq 12, 3) := by decide +kernel
theorem dX0_consentTo_11 : decode cX0_consentTo 11 = .ok (.aload_n 0, 1) := by decide +kernel
theorem dX0_consentTo_12 : decode cX0_consentTo 12 = .ok (.iload_n 2, 1) := by decide +kernel
theorem dX0_consentTo_13 : decode cX0_consentTo 13 = .ok (.iload_n 3, 1) := by decide +kernel
theorem dX0_consentTo_14 : decode cX0_consentTo 14 = .ok (.invokevirtual 123, 3) := by decide +kernel
theorem dX0_consentTo_17 : decode cX0_consentTo 17 = .ok (.ifCond .ne 5, 3) := by decide +kernel
theorem dX0_consentTo_20 : decode cX0_consentTo 20 = .ok (.iconst (-1), 1) := by decide +kernel
theorem dX0_consentTo_21 : decode cX0_consentTo 21 = .ok (.ireturn, 1) := by decide +kernel
theorem dX0_consentTo_22 : decode cX0_consentTo 22 = .ok (.aload_n 0, 1) := by decide +kernel
theorem dX0_consentTo_23 : decode cX0_consentTo 23 = .ok (.iload_n 2, 1) := by decide +kernel
theorem dX0_consentTo_24 : decode cX0_consentTo 24 = .ok (.iload_n 3, 1) := by decide +kernel
theorem dX0_consentTo_25 : decode cX0_consentTo 25 = .ok (.invokevirtual 126, 3) := by decide +kernel
theorem dX0_consentTo_28 : decode cX0_consentTo 28 = .ok (.ifCond .ne 6, 3) := by decide +kernel
theorem dX0_consentTo_31 : decode cX0_consentTo 31 = .ok (.bipush (-2), 2) := by decide +kernel
theorem dX0_consentTo_33 : decode cX0_consentTo 33 = .ok (.ireturn, 1) := by decide +kernel
theorem dX0_consentTo_34 : decode cX0_consentTo 34 = .ok (.aload_n 0, 1) := by decide +kernel
theorem dX0_consentTo_35 : decode cX0_consentTo 35 = .ok (.getfield 24, 3) := by decide +kernel
theorem dX0_consentTo_38 : decode cX0_consentTo 38 = .ok (.iload_n 1, 1) := by decide +kernel
theorem dX0_consentTo_39 : decode cX0_consentTo 39 = .ok (.iconst 1, 1) := by decide +kernel
theorem dX0_consentTo_40 : decode cX0_consentTo 40 = .ok (.iload_n 2, 1) := by decide +kernel
theorem dX0_consentTo_41 : decode cX0_consentTo 41 = .ok (.iadd, 1) := by decide +kernel
theorem dX0_consentTo_42 : decode cX0_consentTo 42 = .ok (.iload_n 3, 1) := by decide +kernel
theorem dX0_consentTo_43 : decode cX0_consentTo 43 = .ok (.invokevirtual 46, 3) := by decide +kernel
theorem dX0_consentTo_46 : decode cX0_consentTo 46 = .ok (.aload_n 0, 1) := by decide +kernel
theorem dX0_consentTo_47 : decode cX0_consentTo 47 = .ok (.iload_n 1, 1) := by decide +kernel
theorem dX0_consentTo_48 : decode cX0_consentTo 48 = .ok (.iload_n 2, 1) := by decide +kernel
theorem dX0_consentTo_49 : decode cX0_consentTo 49 = .ok (.invokevirtual 129, 3) := by decide +kernel
theorem dX0_consentTo_52 : decode cX0_consentTo 52 = .ok (.ireturn, 1) := by decide +kernel
theorem dX0_mergePurpose_0 : decode cX0_mergePurpose 0 = .ok (.aload_n 0, 1) := by decide +kernel
theorem dX0_mergePurpose_1 : decode cX0_mergePurpose 1 = .ok (.iload_n 1, 1) := by decide +kernel
theorem dX0_mergePurpose_2 : decode cX0_mergePurpose 2 = .ok (.iload_n 2, 1) := by decide +kernel
theorem dX0_mergePurpose_3 : decode cX0_mergePurpose 3 = .ok (.invokevirtual 123, 3) := by decide +kernel
theorem dX0_mergePurpose_6 : decode cX0_mergePurpose 6 = .ok (.ifCond .ne 5, 3) := by decide +kernel
theorem dX0_mergePurpose_9 : decode cX0_mergePurpose 9 = .ok (.iconst (-1), 1) := by decide +kernel
theorem dX0_mergePurpose_10 : decode cX0_mergePurpose 10 = .ok (.ireturn, 1) := by decide +kernel
theorem dX0_mergePurpose_11 : decode cX0_mergePurpose 11 = .ok (.aload_n 0, 1) := by decide +kernel
theorem dX0_mergePurpose_12 : decode cX0_mergePurpose 12 = .ok (.iload_n 1, 1) := by decide +kernel
theorem dX0_mergePurpose_13 : decode cX0_mergePurpose 13 = .ok (.invokevirtual 132, 3) := by decide +kernel
theorem dX0_mergePurpose_16 : decode cX0_mergePurpose 16 = .ok (.istore_n 3, 1) := by decide +kernel
theorem dX0_mergePurpose_17 : decode cX0_mergePurpose 17 = .ok (.aload_n 0, 1) := by decide +kernel
theorem dX0_mergePurpose_18 : decode cX0_mergePurpose 18 = .ok (.iload_n 1, 1) := by decide +kernel
theorem dX0_mergePurpose_19 : decode cX0_mergePurpose 19 = .ok (.iload_n 2, 1) := by decide +kernel
theorem dX0_mergePurpose_20 : decode cX0_mergePurpose 20 = .ok (.invokevirtual 135, 3) := by decide +kernel
theorem dX0_mergePurpose_23 : decode cX0_mergePurpose 23 = .ok (.bipush 100, 2) := by decide +kernel
theorem dX0_mergePurpose_25 : decode cX0_mergePurpose 25 = .ok (.imul, 1) := by decide +kernel
theorem dX0_mergePurpose_26 : decode cX0_mergePurpose 26 = .ok (.aload_n 0, 1) := by decide +kernel
theorem dX0_mergePurpose_27 : decode cX0_mergePurpose 27 = .ok (.getfield 11, 3) := by decide +kernel
theorem dX0_mergePurpose_30 : decode cX0_mergePurpose 30 = .ok (.iconst 1, 1) := by decide +kernel
theorem dX0_mergePurpose_31 : decode cX0_mergePurpose 31 = .ok (.iaload, 1) := by decide +kernel
theorem dX0_mergePurpose_32 : decode cX0_mergePurpose 32 = .ok (.iload_n 3, 1) := by decide +kernel
theorem dX0_mergePurpose_33 : decode cX0_mergePurpose 33 = .ok (.imul, 1) := by decide +kernel
theorem dX0_mergePurpose_34 : decode cX0_mergePurpose 34 = .ok (.if_icmp .lt 7, 3) := by decide +kernel
theorem dX0_mergePurpose_37 : decode cX0_mergePurpose 37 = .ok (.iconst 1, 1) := by decide +kernel
theorem dX0_mergePurpose_38 : decode cX0_mergePurpose 38 = .ok (.goto 4, 3) := by decide +kernel
theorem dX0_mergePurpose_41 : decode cX0_mergePurpose 41 = .ok (.iconst 0, 1) := by decide +kernel
theorem dX0_mergePurpose_42 : decode cX0_mergePurpose 42 = .ok (.istore 4, 2) := by decide +kernel
theorem dX0_mergePurpose_44 : decode cX0_mergePurpose 44 = .ok (.aload_n 0, 1) := by decide +kernel
theorem dX0_mergePurpose_45 : decode cX0_mergePurpose 45 = .ok (.iload_n 1, 1) := by decide +kernel
theorem dX0_mergePurpose_46 : decode cX0_mergePurpose 46 = .ok (.iload_n 2, 1) := by decide +kernel
theorem dX0_mergePurpose_47 : decode cX0_mergePurpose 47 = .ok (.invokevirtual 126, 3) := by decide +kernel
theorem dX0_mergePurpose_50 : decode cX0_mergePurpose 50 = .ok (.ifCond .eq 12, 3) := by decide +kernel
theorem dX0_mergePurpose_53 : decode cX0_mergePurpose 53 = .ok (.iload_n 3, 1) := by decide +kernel
theorem dX0_mergePurpose_54 : decode cX0_mergePurpose 54 = .ok (.ifCond .eq 8, 3) := by decide +kernel
theorem dX0_mergePurpose_57 : decode cX0_mergePurpose 57 = .ok (.iload 4, 2) := by decide +kernel
theorem dX0_mergePurpose_59 : decode cX0_mergePurpose 59 = .ok (.ifCond .ne 6, 3) := by decide +kernel
theorem dX0_mergePurpose_62 : decode cX0_mergePurpose 62 = .ok (.bipush (-2), 2) := by decide +kernel
theorem dX0_mergePurpose_64 : decode cX0_mergePurpose 64 = .ok (.ireturn, 1) := by decide +kernel
theorem dX0_mergePurpose_65 : decode cX0_mergePurpose 65 = .ok (.aload_n 0, 1) := by decide +kernel
theorem dX0_mergePurpose_66 : decode cX0_mergePurpose 66 = .ok (.iload_n 1, 1) := by decide +kernel
theorem dX0_mergePurpose_67 : decode cX0_mergePurpose 67 = .ok (.iload_n 2, 1) := by decide +kernel
theorem dX0_mergePurpose_68 : decode cX0_mergePurpose 68 = .ok (.invokevirtual 138, 3) := by decide +kernel
theorem dX0_mergePurpose_71 : decode cX0_mergePurpose 71 = .ok (.aload_n 0, 1) := by decide +kernel
theorem dX0_mergePurpose_72 : decode cX0_mergePurpose 72 = .ok (.iload_n 1, 1) := by decide +kernel
theorem dX0_mergePurpose_73 : decode cX0_mergePurpose 73 = .ok (.invokevirtual 142, 3) := by decide +kernel
theorem dX0_mergePurpose_76 : decode cX0_mergePurpose 76 = .ok (.aload_n 0, 1) := by decide +kernel
theorem dX0_mergePurpose_77 : decode cX0_mergePurpose 77 = .ok (.iload_n 1, 1) := by decide +kernel
theorem dX0_mergePurpose_78 : decode cX0_mergePurpose 78 = .ok (.iload_n 2, 1) := by decide +kernel
theorem dX0_mergePurpose_79 : decode cX0_mergePurpose 79 = .ok (.invokevirtual 145, 3) := by decide +kernel
theorem dX0_mergePurpose_82 : decode cX0_mergePurpose 82 = .ok (.aload_n 0, 1) := by decide +kernel
theorem dX0_mergePurpose_83 : decode cX0_mergePurpose 83 = .ok (.iload_n 1, 1) := by decide +kernel
theorem dX0_mergePurpose_84 : decode cX0_mergePurpose 84 = .ok (.iload_n 2, 1) := by decide +kernel
theorem dX0_mergePurpose_85 : decode cX0_mergePurpose 85 = .ok (.invokevirtual 148, 3) := by decide +kernel
theorem dX0_mergePurpose_88 : decode cX0_mergePurpose 88 = .ok (.ireturn, 1) := by decide +kernel
theorem dX0_tellConsents_0 : decode cX0_tellConsents 0 = .ok (.aload_n 0, 1) := by decide +kernel
theorem dX0_tellConsents_1 : decode cX0_tellConsents 1 = .ok (.iload_n 1, 1) := by decide +kernel
theorem dX0_tellConsents_2 : decode cX0_tellConsents 2 = .ok (.iload_n 2, 1) := by decide +kernel
theorem dX0_tellConsents_3 : decode cX0_tellConsents 3 = .ok (.invokevirtual 123, 3) := by decide +kernel
theorem dX0_tellConsents_6 : decode cX0_tellConsents 6 = .ok (.ifCond .ne 5, 3) := by decide +kernel
theorem dX0_tellConsents_9 : decode cX0_tellConsents 9 = .ok (.iconst (-1), 1) := by decide +kernel
theorem dX0_tellConsents_10 : decode cX0_tellConsents 10 = .ok (.ireturn, 1) := by decide +kernel
theorem dX0_tellConsents_11 : decode cX0_tellConsents 11 = .ok (.aload_n 0, 1) := by decide +kernel
theorem dX0_tellConsents_12 : decode cX0_tellConsents 12 = .ok (.iload_n 1, 1) := by decide +kernel
theorem dX0_tellConsents_13 : decode cX0_tellConsents 13 = .ok (.invokevirtual 132, 3) := by decide +kernel
theorem dX0_tellConsents_16 : decode cX0_tellConsents 16 = .ok (.istore_n 3, 1) := by decide +kernel
theorem dX0_tellConsents_17 : decode cX0_tellConsents 17 = .ok (.iload_n 3, 1) := by decide +kernel
theorem dX0_tellConsents_18 : decode cX0_tellConsents 18 = .ok (.ifCond .le 17, 3) := by decide +kernel
theorem dX0_tellConsents_21 : decode cX0_tellConsents 21 = .ok (.aload_n 0, 1) := by decide +kernel
theorem dX0_tellConsents_22 : decode cX0_tellConsents 22 = .ok (.iload_n 1, 1) := by decide +kernel
theorem dX0_tellConsents_23 : decode cX0_tellConsents 23 = .ok (.iload_n 2, 1) := by decide +kernel
theorem dX0_tellConsents_24 : decode cX0_tellConsents 24 = .ok (.invokevirtual 135, 3) := by decide +kernel
theorem dX0_tellConsents_27 : decode cX0_tellConsents 27 = .ok (.bipush 100, 2) := by decide +kernel
theorem dX0_tellConsents_29 : decode cX0_tellConsents 29 = .ok (.imul, 1) := by decide +kernel
theorem dX0_tellConsents_30 : decode cX0_tellConsents 30 = .ok (.iload_n 3, 1) := by decide +kernel
theorem dX0_tellConsents_31 : decode cX0_tellConsents 31 = .ok (.idiv, 1) := by decide +kernel
theorem dX0_tellConsents_32 : decode cX0_tellConsents 32 = .ok (.goto 5, 3) := by decide +kernel
theorem dX0_tellConsents_35 : decode cX0_tellConsents 35 = .ok (.bipush (-4), 2) := by decide +kernel
theorem dX0_tellConsents_37 : decode cX0_tellConsents 37 = .ok (.ireturn, 1) := by decide +kernel
theorem dX0_areTwoPurposes_0 : decode cX0_areTwoPurposes 0 = .ok (.aload_n 0, 1) := by decide +kernel
theorem dX0_areTwoPurposes_1 : decode cX0_areTwoPurposes 1 = .ok (.getfield 20, 3) := by decide +kernel
theorem dX0_areTwoPurposes_4 : decode cX0_areTwoPurposes 4 = .ok (.iload_n 1, 1) := by decide +kernel
theorem dX0_areTwoPurposes_5 : decode cX0_areTwoPurposes 5 = .ok (.invokevirtual 50, 3) := by decide +kernel
theorem dX0_areTwoPurposes_8 : decode cX0_areTwoPurposes 8 = .ok (.ifCond .eq 23, 3) := by decide +kernel
theorem dX0_areTwoPurposes_11 : decode cX0_areTwoPurposes 11 = .ok (.aload_n 0, 1) := by decide +kernel
theorem dX0_areTwoPurposes_12 : decode cX0_areTwoPurposes 12 = .ok (.getfield 20, 3) := by decide +kernel
theorem dX0_areTwoPurposes_15 : decode cX0_areTwoPurposes 15 = .ok (.iload_n 2, 1) := by decide +kernel
theorem dX0_areTwoPurposes_16 : decode cX0_areTwoPurposes 16 = .ok (.invokevirtual 50, 3) := by decide +kernel
theorem dX0_areTwoPurposes_19 : decode cX0_areTwoPurposes 19 = .ok (.ifCond .eq 12, 3) := by decide +kernel
theorem dX0_areTwoPurposes_22 : decode cX0_areTwoPurposes 22 = .ok (.iload_n 1, 1) := by decide +kernel
theorem dX0_areTwoPurposes_23 : decode cX0_areTwoPurposes 23 = .ok (.iload_n 2, 1) := by decide +kernel
theorem dX0_areTwoPurposes_24 : decode cX0_areTwoPurposes 24 = .ok (.if_icmp .eq 7, 3) := by decide +kernel
theorem dX0_areTwoPurposes_27 : decode cX0_areTwoPurposes 27 = .ok (.iconst 1, 1) := by decide +kernel
theorem dX0_areTwoPurposes_28 : decode cX0_areTwoPurposes 28 = .ok (.goto 4, 3) := by decide +kernel
theorem dX0_areTwoPurposes_31 : decode cX0_areTwoPurposes 31 = .ok (.iconst 0, 1) := by decide +kernel
theorem dX0_areTwoPurposes_32 : decode cX0_areTwoPurposes 32 = .ok (.ireturn, 1) := by decide +kernel
theorem dX0_areMergeable_0 : decode cX0_areMergeable 0 = .ok (.iload_n 1, 1) := by decide +kernel
theorem dX0_areMergeable_1 : decode cX0_areMergeable 1 = .ok (.ifCond .eq 23, 3) := by decide +kernel
theorem dX0_areMergeable_4 : decode cX0_areMergeable 4 = .ok (.aload_n 0, 1) := by decide +kernel
theorem dX0_areMergeable_5 : decode cX0_areMergeable 5 = .ok (.iload_n 1, 1) := by decide +kernel
theorem dX0_areMergeable_6 : decode cX0_areMergeable 6 = .ok (.invokevirtual 62, 3) := by decide +kernel
theorem dX0_areMergeable_9 : decode cX0_areMergeable 9 = .ok (.ifCond .ne 15, 3) := by decide +kernel
theorem dX0_areMergeable_12 : decode cX0_areMergeable 12 = .ok (.aload_n 0, 1) := by decide +kernel
theorem dX0_areMergeable_13 : decode cX0_areMergeable 13 = .ok (.iload_n 2, 1) := by decide +kernel
theorem dX0_areMergeable_14 : decode cX0_areMergeable 14 = .ok (.invokevirtual 62, 3) := by decide +kernel
theorem dX0_areMergeable_17 : decode cX0_areMergeable 17 = .ok (.ifCond .ne 7, 3) := by decide +kernel
theorem dX0_areMergeable_20 : decode cX0_areMergeable 20 = .ok (.iconst 1, 1) := by decide +kernel
theorem dX0_areMergeable_21 : decode cX0_areMergeable 21 = .ok (.goto 4, 3) := by decide +kernel
theorem dX0_areMergeable_24 : decode cX0_areMergeable 24 = .ok (.iconst 0, 1) := by decide +kernel
theorem dX0_areMergeable_25 : decode cX0_areMergeable 25 = .ok (.ireturn, 1) := by decide +kernel
theorem dX0_agreesTo_0 : decode cX0_agreesTo 0 = .ok (.aload_n 0, 1) := by decide +kernel
theorem dX0_agreesTo_1 : decode cX0_agreesTo 1 = .ok (.getfield 24, 3) := by decide +kernel
theorem dX0_agreesTo_4 : decode cX0_agreesTo 4 = .ok (.iload_n 1, 1) := by decide +kernel
theorem dX0_agreesTo_5 : decode cX0_agreesTo 5 = .ok (.iconst 1, 1) := by decide +kernel
theorem dX0_agreesTo_6 : decode cX0_agreesTo 6 = .ok (.iload_n 2, 1) := by decide +kernel
theorem dX0_agreesTo_7 : decode cX0_agreesTo 7 = .ok (.iadd, 1) := by decide +kernel
theorem dX0_agreesTo_8 : decode cX0_agreesTo 8 = .ok (.invokevirtual 58, 3) := by decide +kernel
theorem dX0_agreesTo_11 : decode cX0_agreesTo 11 = .ok (.iload_n 3, 1) := by decide +kernel
theorem dX0_agreesTo_12 : decode cX0_agreesTo 12 = .ok (.if_icmp .ne 7, 3) := by decide +kernel
theorem dX0_agreesTo_15 : decode cX0_agreesTo 15 = .ok (.iconst 1, 1) := by decide +kernel
theorem dX0_agreesTo_16 : decode cX0_agreesTo 16 = .ok (.goto 4, 3) := by decide +kernel
theorem dX0_agreesTo_19 : decode cX0_agreesTo 19 = .ok (.iconst 0, 1) := by decide +kernel
theorem dX0_agreesTo_20 : decode cX0_agreesTo 20 = .ok (.ireturn, 1) := by decide +kernel
theorem dX0_weightOf_0 : decode cX0_weightOf 0 = .ok (.aload_n 0, 1) := by decide +kernel
theorem dX0_weightOf_1 : decode cX0_weightOf 1 = .ok (.getfield 27, 3) := by decide +kernel
theorem dX0_weightOf_4 : decode cX0_weightOf 4 = .ok (.iload_n 1, 1) := by decide +kernel
theorem dX0_weightOf_5 : decode cX0_weightOf 5 = .ok (.iconst 1, 1) := by decide +kernel
theorem dX0_weightOf_6 : decode cX0_weightOf 6 = .ok (.invokevirtual 58, 3) := by decide +kernel
theorem dX0_weightOf_9 : decode cX0_weightOf 9 = .ok (.iload_n 2, 1) := by decide +kernel
theorem dX0_weightOf_10 : decode cX0_weightOf 10 = .ok (.if_icmp .ne 19, 3) := by decide +kernel
theorem dX0_weightOf_13 : decode cX0_weightOf 13 = .ok (.aload_n 0, 1) := by decide +kernel
theorem dX0_weightOf_14 : decode cX0_weightOf 14 = .ok (.getfield 27, 3) := by decide +kernel
theorem dX0_weightOf_17 : decode cX0_weightOf 17 = .ok (.iload_n 1, 1) := by decide +kernel
theorem dX0_weightOf_18 : decode cX0_weightOf 18 = .ok (.iconst 5, 1) := by decide +kernel
theorem dX0_weightOf_19 : decode cX0_weightOf 19 = .ok (.invokevirtual 58, 3) := by decide +kernel
theorem dX0_weightOf_22 : decode cX0_weightOf 22 = .ok (.ifCond .ne 7, 3) := by decide +kernel
theorem dX0_weightOf_25 : decode cX0_weightOf 25 = .ok (.iconst 1, 1) := by decide +kernel
theorem dX0_weightOf_26 : decode cX0_weightOf 26 = .ok (.goto 4, 3) := by decide +kernel
theorem dX0_weightOf_29 : decode cX0_weightOf 29 = .ok (.iconst 0, 1) := by decide +kernel
theorem dX0_weightOf_30 : decode cX0_weightOf 30 = .ok (.istore_n 3, 1) := by decide +kernel
theorem dX0_weightOf_31 : decode cX0_weightOf 31 = .ok (.iload_n 3, 1) := by decide +kernel
theorem dX0_weightOf_32 : decode cX0_weightOf 32 = .ok (.ifCond .eq 15, 3) := by decide +kernel
theorem dX0_weightOf_35 : decode cX0_weightOf 35 = .ok (.aload_n 0, 1) := by decide +kernel
theorem dX0_weightOf_36 : decode cX0_weightOf 36 = .ok (.getfield 27, 3) := by decide +kernel
theorem dX0_weightOf_39 : decode cX0_weightOf 39 = .ok (.iload_n 1, 1) := by decide +kernel
theorem dX0_weightOf_40 : decode cX0_weightOf 40 = .ok (.iconst 2, 1) := by decide +kernel
theorem dX0_weightOf_41 : decode cX0_weightOf 41 = .ok (.invokevirtual 58, 3) := by decide +kernel
theorem dX0_weightOf_44 : decode cX0_weightOf 44 = .ok (.goto 4, 3) := by decide +kernel
theorem dX0_weightOf_47 : decode cX0_weightOf 47 = .ok (.iconst 0, 1) := by decide +kernel
theorem dX0_weightOf_48 : decode cX0_weightOf 48 = .ok (.ireturn, 1) := by decide +kernel
theorem dX0_weightOfDonor_0 : decode cX0_weightOfDonor 0 = .ok (.iconst 0, 1) := by decide +kernel
theorem dX0_weightOfDonor_1 : decode cX0_weightOfDonor 1 = .ok (.istore_n 3, 1) := by decide +kernel
theorem dX0_weightOfDonor_2 : decode cX0_weightOfDonor 2 = .ok (.iconst 0, 1) := by decide +kernel
theorem dX0_weightOfDonor_3 : decode cX0_weightOfDonor 3 = .ok (.istore 4, 2) := by decide +kernel
theorem dX0_weightOfDonor_5 : decode cX0_weightOfDonor 5 = .ok (.iload 4, 2) := by decide +kernel
theorem dX0_weightOfDonor_7 : decode cX0_weightOfDonor 7 = .ok (.aload_n 0, 1) := by decide +kernel
theorem dX0_weightOfDonor_8 : decode cX0_weightOfDonor 8 = .ok (.getfield 27, 3) := by decide +kernel
theorem dX0_weightOfDonor_11 : decode cX0_weightOfDonor 11 = .ok (.invokevirtual 86, 3) := by decide +kernel
theorem dX0_weightOfDonor_14 : decode cX0_weightOfDonor 14 = .ok (.if_icmp .ge 29, 3) := by decide +kernel
theorem dX0_weightOfDonor_17 : decode cX0_weightOfDonor 17 = .ok (.aload_n 0, 1) := by decide +kernel
theorem dX0_weightOfDonor_18 : decode cX0_weightOfDonor 18 = .ok (.iload 4, 2) := by decide +kernel
theorem dX0_weightOfDonor_20 : decode cX0_weightOfDonor 20 = .ok (.iload_n 1, 1) := by decide +kernel
theorem dX0_weightOfDonor_21 : decode cX0_weightOfDonor 21 = .ok (.invokevirtual 92, 3) := by decide +kernel
theorem dX0_weightOfDonor_24 : decode cX0_weightOfDonor 24 = .ok (.ifCond .eq 13, 3) := by decide +kernel
theorem dX0_weightOfDonor_27 : decode cX0_weightOfDonor 27 = .ok (.iload_n 3, 1) := by decide +kernel
theorem dX0_weightOfDonor_28 : decode cX0_weightOfDonor 28 = .ok (.aload_n 0, 1) := by decide +kernel
theorem dX0_weightOfDonor_29 : decode cX0_weightOfDonor 29 = .ok (.iload 4, 2) := by decide +kernel
theorem dX0_weightOfDonor_31 : decode cX0_weightOfDonor 31 = .ok (.iload_n 2, 1) := by decide +kernel
theorem dX0_weightOfDonor_32 : decode cX0_weightOfDonor 32 = .ok (.invokevirtual 151, 3) := by decide +kernel
theorem dX0_weightOfDonor_35 : decode cX0_weightOfDonor 35 = .ok (.iadd, 1) := by decide +kernel
theorem dX0_weightOfDonor_36 : decode cX0_weightOfDonor 36 = .ok (.istore_n 3, 1) := by decide +kernel
theorem dX0_weightOfDonor_37 : decode cX0_weightOfDonor 37 = .ok (.iinc 4 1, 3) := by decide +kernel
theorem dX0_weightOfDonor_40 : decode cX0_weightOfDonor 40 = .ok (.goto (-35), 3) := by decide +kernel
theorem dX0_weightOfDonor_43 : decode cX0_weightOfDonor 43 = .ok (.iload_n 3, 1) := by decide +kernel
theorem dX0_weightOfDonor_44 : decode cX0_weightOfDonor 44 = .ok (.ireturn, 1) := by decide +kernel
theorem dX0_weightOfAll_0 : decode cX0_weightOfAll 0 = .ok (.iconst 0, 1) := by decide +kernel
theorem dX0_weightOfAll_1 : decode cX0_weightOfAll 1 = .ok (.istore_n 2, 1) := by decide +kernel
theorem dX0_weightOfAll_2 : decode cX0_weightOfAll 2 = .ok (.iconst 0, 1) := by decide +kernel
theorem dX0_weightOfAll_3 : decode cX0_weightOfAll 3 = .ok (.istore_n 3, 1) := by decide +kernel
theorem dX0_weightOfAll_4 : decode cX0_weightOfAll 4 = .ok (.iload_n 3, 1) := by decide +kernel
theorem dX0_weightOfAll_5 : decode cX0_weightOfAll 5 = .ok (.aload_n 0, 1) := by decide +kernel
theorem dX0_weightOfAll_6 : decode cX0_weightOfAll 6 = .ok (.getfield 27, 3) := by decide +kernel
theorem dX0_weightOfAll_9 : decode cX0_weightOfAll 9 = .ok (.invokevirtual 86, 3) := by decide +kernel
theorem dX0_weightOfAll_12 : decode cX0_weightOfAll 12 = .ok (.if_icmp .ge 18, 3) := by decide +kernel
theorem dX0_weightOfAll_15 : decode cX0_weightOfAll 15 = .ok (.iload_n 2, 1) := by decide +kernel
theorem dX0_weightOfAll_16 : decode cX0_weightOfAll 16 = .ok (.aload_n 0, 1) := by decide +kernel
theorem dX0_weightOfAll_17 : decode cX0_weightOfAll 17 = .ok (.iload_n 3, 1) := by decide +kernel
theorem dX0_weightOfAll_18 : decode cX0_weightOfAll 18 = .ok (.iload_n 1, 1) := by decide +kernel
theorem dX0_weightOfAll_19 : decode cX0_weightOfAll 19 = .ok (.invokevirtual 151, 3) := by decide +kernel
theorem dX0_weightOfAll_22 : decode cX0_weightOfAll 22 = .ok (.iadd, 1) := by decide +kernel
theorem dX0_weightOfAll_23 : decode cX0_weightOfAll 23 = .ok (.istore_n 2, 1) := by decide +kernel
theorem dX0_weightOfAll_24 : decode cX0_weightOfAll 24 = .ok (.iinc 3 1, 3) := by decide +kernel
theorem dX0_weightOfAll_27 : decode cX0_weightOfAll 27 = .ok (.goto (-23), 3) := by decide +kernel
theorem dX0_weightOfAll_30 : decode cX0_weightOfAll 30 = .ok (.iload_n 2, 1) := by decide +kernel
theorem dX0_weightOfAll_31 : decode cX0_weightOfAll 31 = .ok (.ireturn, 1) := by decide +kernel
theorem dX0_weightOfConsents_0 : decode cX0_weightOfConsents 0 = .ok (.iconst 0, 1) := by decide +kernel
theorem dX0_weightOfConsents_1 : decode cX0_weightOfConsents 1 = .ok (.istore_n 3, 1) := by decide +kernel
theorem dX0_weightOfConsents_2 : decode cX0_weightOfConsents 2 = .ok (.iconst 0, 1) := by decide +kernel
theorem dX0_weightOfConsents_3 : decode cX0_weightOfConsents 3 = .ok (.istore 4, 2) := by decide +kernel
theorem dX0_weightOfConsents_5 : decode cX0_weightOfConsents 5 = .ok (.iload 4, 2) := by decide +kernel
theorem dX0_weightOfConsents_7 : decode cX0_weightOfConsents 7 = .ok (.aload_n 0, 1) := by decide +kernel
theorem dX0_weightOfConsents_8 : decode cX0_weightOfConsents 8 = .ok (.getfield 27, 3) := by decide +kernel
theorem dX0_weightOfConsents_11 : decode cX0_weightOfConsents 11 = .ok (.invokevirtual 86, 3) := by decide +kernel
theorem dX0_weightOfConsents_14 : decode cX0_weightOfConsents 14 = .ok (.if_icmp .ge 38, 3) := by decide +kernel
theorem dX0_weightOfConsents_17 : decode cX0_weightOfConsents 17 = .ok (.aload_n 0, 1) := by decide +kernel
theorem dX0_weightOfConsents_18 : decode cX0_weightOfConsents 18 = .ok (.aload_n 0, 1) := by decide +kernel
theorem dX0_weightOfConsents_19 : decode cX0_weightOfConsents 19 = .ok (.getfield 27, 3) := by decide +kernel
theorem dX0_weightOfConsents_22 : decode cX0_weightOfConsents 22 = .ok (.iload 4, 2) := by decide +kernel
theorem dX0_weightOfConsents_24 : decode cX0_weightOfConsents 24 = .ok (.iconst 0, 1) := by decide +kernel
theorem dX0_weightOfConsents_25 : decode cX0_weightOfConsents 25 = .ok (.invokevirtual 58, 3) := by decide +kernel
theorem dX0_weightOfConsents_28 : decode cX0_weightOfConsents 28 = .ok (.iload_n 1, 1) := by decide +kernel
theorem dX0_weightOfConsents_29 : decode cX0_weightOfConsents 29 = .ok (.iload_n 2, 1) := by decide +kernel
theorem dX0_weightOfConsents_30 : decode cX0_weightOfConsents 30 = .ok (.invokevirtual 154, 3) := by decide +kernel
theorem dX0_weightOfConsents_33 : decode cX0_weightOfConsents 33 = .ok (.ifCond .eq 13, 3) := by decide +kernel
theorem dX0_weightOfConsents_36 : decode cX0_weightOfConsents 36 = .ok (.iload_n 3, 1) := by decide +kernel
theorem dX0_weightOfConsents_37 : decode cX0_weightOfConsents 37 = .ok (.aload_n 0, 1) := by decide +kernel
theorem dX0_weightOfConsents_38 : decode cX0_weightOfConsents 38 = .ok (.iload 4, 2) := by decide +kernel
theorem dX0_weightOfConsents_40 : decode cX0_weightOfConsents 40 = .ok (.iload_n 1, 1) := by decide +kernel
theorem dX0_weightOfConsents_41 : decode cX0_weightOfConsents 41 = .ok (.invokevirtual 151, 3) := by decide +kernel
theorem dX0_weightOfConsents_44 : decode cX0_weightOfConsents 44 = .ok (.iadd, 1) := by decide +kernel
theorem dX0_weightOfConsents_45 : decode cX0_weightOfConsents 45 = .ok (.istore_n 3, 1) := by decide +kernel
theorem dX0_weightOfConsents_46 : decode cX0_weightOfConsents 46 = .ok (.iinc 4 1, 3) := by decide +kernel
theorem dX0_weightOfConsents_49 : decode cX0_weightOfConsents 49 = .ok (.goto (-44), 3) := by decide +kernel
theorem dX0_weightOfConsents_52 : decode cX0_weightOfConsents 52 = .ok (.iload_n 3, 1) := by decide +kernel
theorem dX0_weightOfConsents_53 : decode cX0_weightOfConsents 53 = .ok (.ireturn, 1) := by decide +kernel
theorem dX0_handOnPledges_0 : decode cX0_handOnPledges 0 = .ok (.iconst 0, 1) := by decide +kernel
theorem dX0_handOnPledges_1 : decode cX0_handOnPledges 1 = .ok (.istore_n 3, 1) := by decide +kernel
theorem dX0_handOnPledges_2 : decode cX0_handOnPledges 2 = .ok (.iload_n 3, 1) := by decide +kernel
theorem dX0_handOnPledges_3 : decode cX0_handOnPledges 3 = .ok (.aload_n 0, 1) := by decide +kernel
theorem dX0_handOnPledges_4 : decode cX0_handOnPledges 4 = .ok (.getfield 30, 3) := by decide +kernel
theorem dX0_handOnPledges_7 : decode cX0_handOnPledges 7 = .ok (.invokevirtual 86, 3) := by decide +kernel
theorem dX0_handOnPledges_10 : decode cX0_handOnPledges 10 = .ok (.if_icmp .ge 66, 3) := by decide +kernel
theorem dX0_handOnPledges_13 : decode cX0_handOnPledges 13 = .ok (.aload_n 0, 1) := by decide +kernel
theorem dX0_handOnPledges_14 : decode cX0_handOnPledges 14 = .ok (.iload_n 3, 1) := by decide +kernel
theorem dX0_handOnPledges_15 : decode cX0_handOnPledges 15 = .ok (.invokevirtual 79, 3) := by decide +kernel
theorem dX0_handOnPledges_18 : decode cX0_handOnPledges 18 = .ok (.ifCond .eq 52, 3) := by decide +kernel
theorem dX0_handOnPledges_21 : decode cX0_handOnPledges 21 = .ok (.aload_n 0, 1) := by decide +kernel
theorem dX0_handOnPledges_22 : decode cX0_handOnPledges 22 = .ok (.getfield 30, 3) := by decide +kernel
theorem dX0_handOnPledges_25 : decode cX0_handOnPledges 25 = .ok (.iload_n 3, 1) := by decide +kernel
theorem dX0_handOnPledges_26 : decode cX0_handOnPledges 26 = .ok (.iconst 1, 1) := by decide +kernel
theorem dX0_handOnPledges_27 : decode cX0_handOnPledges 27 = .ok (.invokevirtual 58, 3) := by decide +kernel
theorem dX0_handOnPledges_30 : decode cX0_handOnPledges 30 = .ok (.iload_n 1, 1) := by decide +kernel
theorem dX0_handOnPledges_31 : decode cX0_handOnPledges 31 = .ok (.if_icmp .ne 39, 3) := by decide +kernel
theorem dX0_handOnPledges_34 : decode cX0_handOnPledges 34 = .ok (.aload_n 0, 1) := by decide +kernel
theorem dX0_handOnPledges_35 : decode cX0_handOnPledges 35 = .ok (.aload_n 0, 1) := by decide +kernel
theorem dX0_handOnPledges_36 : decode cX0_handOnPledges 36 = .ok (.getfield 30, 3) := by decide +kernel
theorem dX0_handOnPledges_39 : decode cX0_handOnPledges 39 = .ok (.iload_n 3, 1) := by decide +kernel
theorem dX0_handOnPledges_40 : decode cX0_handOnPledges 40 = .ok (.iconst 0, 1) := by decide +kernel
theorem dX0_handOnPledges_41 : decode cX0_handOnPledges 41 = .ok (.invokevirtual 58, 3) := by decide +kernel
theorem dX0_handOnPledges_44 : decode cX0_handOnPledges 44 = .ok (.iload_n 1, 1) := by decide +kernel
theorem dX0_handOnPledges_45 : decode cX0_handOnPledges 45 = .ok (.iload_n 2, 1) := by decide +kernel
theorem dX0_handOnPledges_46 : decode cX0_handOnPledges 46 = .ok (.invokevirtual 154, 3) := by decide +kernel
theorem dX0_handOnPledges_49 : decode cX0_handOnPledges 49 = .ok (.ifCond .eq 16, 3) := by decide +kernel
theorem dX0_handOnPledges_52 : decode cX0_handOnPledges 52 = .ok (.aload_n 0, 1) := by decide +kernel
theorem dX0_handOnPledges_53 : decode cX0_handOnPledges 53 = .ok (.getfield 30, 3) := by decide +kernel
theorem dX0_handOnPledges_56 : decode cX0_handOnPledges 56 = .ok (.iload_n 3, 1) := by decide +kernel
theorem dX0_handOnPledges_57 : decode cX0_handOnPledges 57 = .ok (.iconst 1, 1) := by decide +kernel
theorem dX0_handOnPledges_58 : decode cX0_handOnPledges 58 = .ok (.iload_n 2, 1) := by decide +kernel
theorem dX0_handOnPledges_59 : decode cX0_handOnPledges 59 = .ok (.invokevirtual 46, 3) := by decide +kernel
theorem dX0_handOnPledges_62 : decode cX0_handOnPledges 62 = .ok (.goto 8, 3) := by decide +kernel
theorem dX0_handOnPledges_65 : decode cX0_handOnPledges 65 = .ok (.aload_n 0, 1) := by decide +kernel
theorem dX0_handOnPledges_66 : decode cX0_handOnPledges 66 = .ok (.iload_n 3, 1) := by decide +kernel
theorem dX0_handOnPledges_67 : decode cX0_handOnPledges 67 = .ok (.invokevirtual 82, 3) := by decide +kernel
theorem dX0_handOnPledges_70 : decode cX0_handOnPledges 70 = .ok (.iinc 3 1, 3) := by decide +kernel
theorem dX0_handOnPledges_73 : decode cX0_handOnPledges 73 = .ok (.goto (-71), 3) := by decide +kernel
theorem dX0_handOnPledges_76 : decode cX0_handOnPledges 76 = .ok (.return_, 1) := by decide +kernel
theorem dX0_forgetConsents_0 : decode cX0_forgetConsents 0 = .ok (.iconst 0, 1) := by decide +kernel
theorem dX0_forgetConsents_1 : decode cX0_forgetConsents 1 = .ok (.istore_n 2, 1) := by decide +kernel
theorem dX0_forgetConsents_2 : decode cX0_forgetConsents 2 = .ok (.iload_n 2, 1) := by decide +kernel
theorem dX0_forgetConsents_3 : decode cX0_forgetConsents 3 = .ok (.aload_n 0, 1) := by decide +kernel
theorem dX0_forgetConsents_4 : decode cX0_forgetConsents 4 = .ok (.getfield 24, 3) := by decide +kernel
theorem dX0_forgetConsents_7 : decode cX0_forgetConsents 7 = .ok (.invokevirtual 86, 3) := by decide +kernel
theorem dX0_forgetConsents_10 : decode cX0_forgetConsents 10 = .ok (.if_icmp .ge 21, 3) := by decide +kernel
theorem dX0_forgetConsents_13 : decode cX0_forgetConsents 13 = .ok (.aload_n 0, 1) := by decide +kernel
theorem dX0_forgetConsents_14 : decode cX0_forgetConsents 14 = .ok (.getfield 24, 3) := by decide +kernel
theorem dX0_forgetConsents_17 : decode cX0_forgetConsents 17 = .ok (.iload_n 2, 1) := by decide +kernel
theorem dX0_forgetConsents_18 : decode cX0_forgetConsents 18 = .ok (.iconst 1, 1) := by decide +kernel
theorem dX0_forgetConsents_19 : decode cX0_forgetConsents 19 = .ok (.iload_n 1, 1) := by decide +kernel
theorem dX0_forgetConsents_20 : decode cX0_forgetConsents 20 = .ok (.iadd, 1) := by decide +kernel
theorem dX0_forgetConsents_21 : decode cX0_forgetConsents 21 = .ok (.iconst (-1), 1) := by decide +kernel
theorem dX0_forgetConsents_22 : decode cX0_forgetConsents 22 = .ok (.invokevirtual 46, 3) := by decide +kernel
theorem dX0_forgetConsents_25 : decode cX0_forgetConsents 25 = .ok (.iinc 2 1, 3) := by decide +kernel
theorem dX0_forgetConsents_28 : decode cX0_forgetConsents 28 = .ok (.goto (-26), 3) := by decide +kernel
theorem dX0_forgetConsents_31 : decode cX0_forgetConsents 31 = .ok (.return_, 1) := by decide +kernel
theorem dX0_closePurpose_0 : decode cX0_closePurpose 0 = .ok (.aload_n 0, 1) := by decide +kernel
theorem dX0_closePurpose_1 : decode cX0_closePurpose 1 = .ok (.getfield 20, 3) := by decide +kernel
theorem dX0_closePurpose_4 : decode cX0_closePurpose 4 = .ok (.iload_n 1, 1) := by decide +kernel
theorem dX0_closePurpose_5 : decode cX0_closePurpose 5 = .ok (.bipush 9, 2) := by decide +kernel
theorem dX0_closePurpose_7 : decode cX0_closePurpose 7 = .ok (.iload_n 2, 1) := by decide +kernel
theorem dX0_closePurpose_8 : decode cX0_closePurpose 8 = .ok (.invokevirtual 46, 3) := by decide +kernel
theorem dX0_closePurpose_11 : decode cX0_closePurpose 11 = .ok (.iconst 0, 1) := by decide +kernel
theorem dX0_closePurpose_12 : decode cX0_closePurpose 12 = .ok (.istore_n 3, 1) := by decide +kernel
theorem dX0_closePurpose_13 : decode cX0_closePurpose 13 = .ok (.iload_n 3, 1) := by decide +kernel
theorem dX0_closePurpose_14 : decode cX0_closePurpose 14 = .ok (.aload_n 0, 1) := by decide +kernel
theorem dX0_closePurpose_15 : decode cX0_closePurpose 15 = .ok (.getfield 20, 3) := by decide +kernel
theorem dX0_closePurpose_18 : decode cX0_closePurpose 18 = .ok (.invokevirtual 86, 3) := by decide +kernel
theorem dX0_closePurpose_21 : decode cX0_closePurpose 21 = .ok (.if_icmp .ge 34, 3) := by decide +kernel
theorem dX0_closePurpose_24 : decode cX0_closePurpose 24 = .ok (.aload_n 0, 1) := by decide +kernel
theorem dX0_closePurpose_25 : decode cX0_closePurpose 25 = .ok (.getfield 20, 3) := by decide +kernel
theorem dX0_closePurpose_28 : decode cX0_closePurpose 28 = .ok (.iload_n 3, 1) := by decide +kernel
theorem dX0_closePurpose_29 : decode cX0_closePurpose 29 = .ok (.bipush 10, 2) := by decide +kernel
theorem dX0_closePurpose_31 : decode cX0_closePurpose 31 = .ok (.invokevirtual 58, 3) := by decide +kernel
theorem dX0_closePurpose_34 : decode cX0_closePurpose 34 = .ok (.iload_n 1, 1) := by decide +kernel
theorem dX0_closePurpose_35 : decode cX0_closePurpose 35 = .ok (.if_icmp .ne 14, 3) := by decide +kernel
theorem dX0_closePurpose_38 : decode cX0_closePurpose 38 = .ok (.aload_n 0, 1) := by decide +kernel
theorem dX0_closePurpose_39 : decode cX0_closePurpose 39 = .ok (.getfield 20, 3) := by decide +kernel
theorem dX0_closePurpose_42 : decode cX0_closePurpose 42 = .ok (.iload_n 3, 1) := by decide +kernel
theorem dX0_closePurpose_43 : decode cX0_closePurpose 43 = .ok (.bipush 10, 2) := by decide +kernel
theorem dX0_closePurpose_45 : decode cX0_closePurpose 45 = .ok (.iload_n 2, 1) := by decide +kernel
theorem dX0_closePurpose_46 : decode cX0_closePurpose 46 = .ok (.invokevirtual 46, 3) := by decide +kernel
theorem dX0_closePurpose_49 : decode cX0_closePurpose 49 = .ok (.iinc 3 1, 3) := by decide +kernel
theorem dX0_closePurpose_52 : decode cX0_closePurpose 52 = .ok (.goto (-39), 3) := by decide +kernel
theorem dX0_closePurpose_55 : decode cX0_closePurpose 55 = .ok (.return_, 1) := by decide +kernel
theorem dX0_moveFund_0 : decode cX0_moveFund 0 = .ok (.aload_n 0, 1) := by decide +kernel
theorem dX0_moveFund_1 : decode cX0_moveFund 1 = .ok (.iload_n 1, 1) := by decide +kernel
theorem dX0_moveFund_2 : decode cX0_moveFund 2 = .ok (.invokevirtual 115, 3) := by decide +kernel
theorem dX0_moveFund_5 : decode cX0_moveFund 5 = .ok (.istore_n 3, 1) := by decide +kernel
theorem dX0_moveFund_6 : decode cX0_moveFund 6 = .ok (.aload_n 0, 1) := by decide +kernel
theorem dX0_moveFund_7 : decode cX0_moveFund 7 = .ok (.getfield 20, 3) := by decide +kernel
theorem dX0_moveFund_10 : decode cX0_moveFund 10 = .ok (.iload_n 1, 1) := by decide +kernel
theorem dX0_moveFund_11 : decode cX0_moveFund 11 = .ok (.iconst 0, 1) := by decide +kernel
theorem dX0_moveFund_12 : decode cX0_moveFund 12 = .ok (.iconst 0, 1) := by decide +kernel
theorem dX0_moveFund_13 : decode cX0_moveFund 13 = .ok (.invokevirtual 46, 3) := by decide +kernel
theorem dX0_moveFund_16 : decode cX0_moveFund 16 = .ok (.aload_n 0, 1) := by decide +kernel
theorem dX0_moveFund_17 : decode cX0_moveFund 17 = .ok (.getfield 20, 3) := by decide +kernel
theorem dX0_moveFund_20 : decode cX0_moveFund 20 = .ok (.iload_n 1, 1) := by decide +kernel
theorem dX0_moveFund_21 : decode cX0_moveFund 21 = .ok (.bipush 8, 2) := by decide +kernel
theorem dX0_moveFund_23 : decode cX0_moveFund 23 = .ok (.iload_n 3, 1) := by decide +kernel
theorem dX0_moveFund_24 : decode cX0_moveFund 24 = .ok (.invokevirtual 73, 3) := by decide +kernel
theorem dX0_moveFund_27 : decode cX0_moveFund 27 = .ok (.aload_n 0, 1) := by decide +kernel
theorem dX0_moveFund_28 : decode cX0_moveFund 28 = .ok (.getfield 20, 3) := by decide +kernel
theorem dX0_moveFund_31 : decode cX0_moveFund 31 = .ok (.iload_n 2, 1) := by decide +kernel
theorem dX0_moveFund_32 : decode cX0_moveFund 32 = .ok (.iconst 0, 1) := by decide +kernel
theorem dX0_moveFund_33 : decode cX0_moveFund 33 = .ok (.iload_n 3, 1) := by decide +kernel
theorem dX0_moveFund_34 : decode cX0_moveFund 34 = .ok (.invokevirtual 73, 3) := by decide +kernel
theorem dX0_moveFund_37 : decode cX0_moveFund 37 = .ok (.aload_n 0, 1) := by decide +kernel
theorem dX0_moveFund_38 : decode cX0_moveFund 38 = .ok (.getfield 20, 3) := by decide +kernel
theorem dX0_moveFund_41 : decode cX0_moveFund 41 = .ok (.iload_n 2, 1) := by decide +kernel
theorem dX0_moveFund_42 : decode cX0_moveFund 42 = .ok (.bipush 7, 2) := by decide +kernel
theorem dX0_moveFund_44 : decode cX0_moveFund 44 = .ok (.iload_n 3, 1) := by decide +kernel
theorem dX0_moveFund_45 : decode cX0_moveFund 45 = .ok (.invokevirtual 73, 3) := by decide +kernel
theorem dX0_moveFund_48 : decode cX0_moveFund 48 = .ok (.iload_n 3, 1) := by decide +kernel
theorem dX0_moveFund_49 : decode cX0_moveFund 49 = .ok (.ireturn, 1) := by decide +kernel
theorem dX0_changeSetting_0 : decode cX0_changeSetting 0 = .ok (.iload_n 1, 1) := by decide +kernel
theorem dX0_changeSetting_1 : decode cX0_changeSetting 1 = .ok (.ifCond .ne 13, 3) := by decide +kernel
theorem dX0_changeSetting_4 : decode cX0_changeSetting 4 = .ok (.iload_n 2, 1) := by decide +kernel
theorem dX0_changeSetting_5 : decode cX0_changeSetting 5 = .ok (.iconst 1, 1) := by decide +kernel
theorem dX0_changeSetting_6 : decode cX0_changeSetting 6 = .ok (.bipush 100, 2) := by decide +kernel
theorem dX0_changeSetting_8 : decode cX0_changeSetting 8 = .ok (.invokestatic 54, 3) := by decide +kernel
theorem dX0_changeSetting_11 : decode cX0_changeSetting 11 = .ok (.goto 23, 3) := by decide +kernel
theorem dX0_changeSetting_14 : decode cX0_changeSetting 14 = .ok (.iload_n 1, 1) := by decide +kernel
theorem dX0_changeSetting_15 : decode cX0_changeSetting 15 = .ok (.iconst 1, 1) := by decide +kernel
theorem dX0_changeSetting_16 : decode cX0_changeSetting 16 = .ok (.if_icmp .ne 17, 3) := by decide +kernel
theorem dX0_changeSetting_19 : decode cX0_changeSetting 19 = .ok (.iload_n 2, 1) := by decide +kernel
theorem dX0_changeSetting_20 : decode cX0_changeSetting 20 = .ok (.iconst 0, 1) := by decide +kernel
theorem dX0_changeSetting_21 : decode cX0_changeSetting 21 = .ok (.ldc 157, 2) := by decide +kernel
theorem dX0_changeSetting_23 : decode cX0_changeSetting 23 = .ok (.invokestatic 54, 3) := by decide +kernel
theorem dX0_changeSetting_26 : decode cX0_changeSetting 26 = .ok (.ifCond .eq 7, 3) := by decide +kernel
theorem dX0_changeSetting_29 : decode cX0_changeSetting 29 = .ok (.iconst 1, 1) := by decide +kernel
theorem dX0_changeSetting_30 : decode cX0_changeSetting 30 = .ok (.goto 4, 3) := by decide +kernel
theorem dX0_changeSetting_33 : decode cX0_changeSetting 33 = .ok (.iconst 0, 1) := by decide +kernel
theorem dX0_changeSetting_34 : decode cX0_changeSetting 34 = .ok (.istore_n 3, 1) := by decide +kernel
theorem dX0_changeSetting_35 : decode cX0_changeSetting 35 = .ok (.iload_n 3, 1) := by decide +kernel
theorem dX0_changeSetting_36 : decode cX0_changeSetting 36 = .ok (.ifCond .ne 5, 3) := by decide +kernel
theorem dX0_changeSetting_39 : decode cX0_changeSetting 39 = .ok (.iconst (-1), 1) := by decide +kernel
theorem dX0_changeSetting_40 : decode cX0_changeSetting 40 = .ok (.ireturn, 1) := by decide +kernel
theorem dX0_changeSetting_41 : decode cX0_changeSetting 41 = .ok (.iload_n 1, 1) := by decide +kernel
theorem dX0_changeSetting_42 : decode cX0_changeSetting 42 = .ok (.ifCond .ne 7, 3) := by decide +kernel
theorem dX0_changeSetting_45 : decode cX0_changeSetting 45 = .ok (.iconst 1, 1) := by decide +kernel
theorem dX0_changeSetting_46 : decode cX0_changeSetting 46 = .ok (.goto 4, 3) := by decide +kernel
theorem dX0_changeSetting_49 : decode cX0_changeSetting 49 = .ok (.iconst 2, 1) := by decide +kernel
theorem dX0_changeSetting_50 : decode cX0_changeSetting 50 = .ok (.istore 4, 2) := by decide +kernel
theorem dX0_changeSetting_52 : decode cX0_changeSetting 52 = .ok (.aload_n 0, 1) := by decide +kernel
theorem dX0_changeSetting_53 : decode cX0_changeSetting 53 = .ok (.getfield 11, 3) := by decide +kernel
theorem dX0_changeSetting_56 : decode cX0_changeSetting 56 = .ok (.iload 4, 2) := by decide +kernel
theorem dX0_changeSetting_58 : decode cX0_changeSetting 58 = .ok (.iaload, 1) := by decide +kernel
theorem dX0_changeSetting_59 : decode cX0_changeSetting 59 = .ok (.istore 5, 2) := by decide +kernel
theorem dX0_changeSetting_61 : decode cX0_changeSetting 61 = .ok (.aload_n 0, 1) := by decide +kernel
theorem dX0_changeSetting_62 : decode cX0_changeSetting 62 = .ok (.getfield 11, 3) := by decide +kernel
theorem dX0_changeSetting_65 : decode cX0_changeSetting 65 = .ok (.iload 4, 2) := by decide +kernel
theorem dX0_changeSetting_67 : decode cX0_changeSetting 67 = .ok (.iload_n 2, 1) := by decide +kernel
theorem dX0_changeSetting_68 : decode cX0_changeSetting 68 = .ok (.iastore, 1) := by decide +kernel
theorem dX0_changeSetting_69 : decode cX0_changeSetting 69 = .ok (.iload 5, 2) := by decide +kernel
theorem dX0_changeSetting_71 : decode cX0_changeSetting 71 = .ok (.ireturn, 1) := by decide +kernel
theorem dX0_tellPurpose_0 : decode cX0_tellPurpose 0 = .ok (.aload_n 0, 1) := by decide +kernel
theorem dX0_tellPurpose_1 : decode cX0_tellPurpose 1 = .ok (.getfield 20, 3) := by decide +kernel
theorem dX0_tellPurpose_4 : decode cX0_tellPurpose 4 = .ok (.iload_n 1, 1) := by decide +kernel
theorem dX0_tellPurpose_5 : decode cX0_tellPurpose 5 = .ok (.invokevirtual 50, 3) := by decide +kernel
theorem dX0_tellPurpose_8 : decode cX0_tellPurpose 8 = .ok (.ifCond .eq 13, 3) := by decide +kernel
theorem dX0_tellPurpose_11 : decode cX0_tellPurpose 11 = .ok (.iload_n 2, 1) := by decide +kernel
theorem dX0_tellPurpose_12 : decode cX0_tellPurpose 12 = .ok (.iconst 0, 1) := by decide +kernel
theorem dX0_tellPurpose_13 : decode cX0_tellPurpose 13 = .ok (.bipush 11, 2) := by decide +kernel
theorem dX0_tellPurpose_15 : decode cX0_tellPurpose 15 = .ok (.invokestatic 54, 3) := by decide +kernel
theorem dX0_tellPurpose_18 : decode cX0_tellPurpose 18 = .ok (.ifCond .ne 5, 3) := by decide +kernel
theorem dX0_tellPurpose_21 : decode cX0_tellPurpose 21 = .ok (.iconst (-1), 1) := by decide +kernel
theorem dX0_tellPurpose_22 : decode cX0_tellPurpose 22 = .ok (.ireturn, 1) := by decide +kernel
theorem dX0_tellPurpose_23 : decode cX0_tellPurpose 23 = .ok (.iload_n 2, 1) := by decide +kernel
theorem dX0_tellPurpose_24 : decode cX0_tellPurpose 24 = .ok (.bipush 9, 2) := by decide +kernel
theorem dX0_tellPurpose_26 : decode cX0_tellPurpose 26 = .ok (.if_icmp .ne 14, 3) := by decide +kernel
theorem dX0_tellPurpose_29 : decode cX0_tellPurpose 29 = .ok (.aload_n 0, 1) := by decide +kernel
theorem dX0_tellPurpose_30 : decode cX0_tellPurpose 30 = .ok (.iload_n 1, 1) := by decide +kernel
theorem dX0_tellPurpose_31 : decode cX0_tellPurpose 31 = .ok (.invokevirtual 62, 3) := by decide +kernel
theorem dX0_tellPurpose_34 : decode cX0_tellPurpose 34 = .ok (.ifCond .ne 6, 3) := by decide +kernel
theorem dX0_tellPurpose_37 : decode cX0_tellPurpose 37 = .ok (.bipush (-4), 2) := by decide +kernel
theorem dX0_tellPurpose_39 : decode cX0_tellPurpose 39 = .ok (.ireturn, 1) := by decide +kernel
theorem dX0_tellPurpose_40 : decode cX0_tellPurpose 40 = .ok (.aload_n 0, 1) := by decide +kernel
theorem dX0_tellPurpose_41 : decode cX0_tellPurpose 41 = .ok (.getfield 20, 3) := by decide +kernel
theorem dX0_tellPurpose_44 : decode cX0_tellPurpose 44 = .ok (.iload_n 1, 1) := by decide +kernel
theorem dX0_tellPurpose_45 : decode cX0_tellPurpose 45 = .ok (.iload_n 2, 1) := by decide +kernel
theorem dX0_tellPurpose_46 : decode cX0_tellPurpose 46 = .ok (.invokevirtual 58, 3) := by decide +kernel
theorem dX0_tellPurpose_49 : decode cX0_tellPurpose 49 = .ok (.ireturn, 1) := by decide +kernel
theorem dX0_tellDonor_0 : decode cX0_tellDonor 0 = .ok (.aload_n 0, 1) := by decide +kernel
theorem dX0_tellDonor_1 : decode cX0_tellDonor 1 = .ok (.getfield 24, 3) := by decide +kernel
theorem dX0_tellDonor_4 : decode cX0_tellDonor 4 = .ok (.iload_n 1, 1) := by decide +kernel
theorem dX0_tellDonor_5 : decode cX0_tellDonor 5 = .ok (.invokevirtual 50, 3) := by decide +kernel
theorem dX0_tellDonor_8 : decode cX0_tellDonor 8 = .ok (.ifCond .ne 5, 3) := by decide +kernel
theorem dX0_tellDonor_11 : decode cX0_tellDonor 11 = .ok (.iconst (-1), 1) := by decide +kernel
theorem dX0_tellDonor_12 : decode cX0_tellDonor 12 = .ok (.ireturn, 1) := by decide +kernel
theorem dX0_tellDonor_13 : decode cX0_tellDonor 13 = .ok (.iload_n 2, 1) := by decide +kernel
theorem dX0_tellDonor_14 : decode cX0_tellDonor 14 = .ok (.tableswitch 57 0 4 #[34, 44, 44, 44, 51], 34) := by decide +kernel
theorem dX0_tellDonor_48 : decode cX0_tellDonor 48 = .ok (.aload_n 0, 1) := by decide +kernel
theorem dX0_tellDonor_49 : decode cX0_tellDonor 49 = .ok (.getfield 24, 3) := by decide +kernel
theorem dX0_tellDonor_52 : decode cX0_tellDonor 52 = .ok (.iload_n 1, 1) := by decide +kernel
theorem dX0_tellDonor_53 : decode cX0_tellDonor 53 = .ok (.iconst 0, 1) := by decide +kernel
theorem dX0_tellDonor_54 : decode cX0_tellDonor 54 = .ok (.invokevirtual 58, 3) := by decide +kernel
theorem dX0_tellDonor_57 : decode cX0_tellDonor 57 = .ok (.ireturn, 1) := by decide +kernel
theorem dX0_tellDonor_58 : decode cX0_tellDonor 58 = .ok (.aload_n 0, 1) := by decide +kernel
theorem dX0_tellDonor_59 : decode cX0_tellDonor 59 = .ok (.iload_n 1, 1) := by decide +kernel
theorem dX0_tellDonor_60 : decode cX0_tellDonor 60 = .ok (.iload_n 2, 1) := by decide +kernel
theorem dX0_tellDonor_61 : decode cX0_tellDonor 61 = .ok (.invokevirtual 158, 3) := by decide +kernel
theorem dX0_tellDonor_64 : decode cX0_tellDonor 64 = .ok (.ireturn, 1) := by decide +kernel
theorem dX0_tellDonor_65 : decode cX0_tellDonor 65 = .ok (.aload_n 0, 1) := by decide +kernel
theorem dX0_tellDonor_66 : decode cX0_tellDonor 66 = .ok (.iload_n 1, 1) := by decide +kernel
theorem dX0_tellDonor_67 : decode cX0_tellDonor 67 = .ok (.invokevirtual 161, 3) := by decide +kernel
theorem dX0_tellDonor_70 : decode cX0_tellDonor 70 = .ok (.ireturn, 1) := by decide +kernel
theorem dX0_tellDonor_71 : decode cX0_tellDonor 71 = .ok (.aload_n 0, 1) := by decide +kernel
theorem dX0_tellDonor_72 : decode cX0_tellDonor 72 = .ok (.iload_n 1, 1) := by decide +kernel
theorem dX0_tellDonor_73 : decode cX0_tellDonor 73 = .ok (.iload_n 2, 1) := by decide +kernel
theorem dX0_tellDonor_74 : decode cX0_tellDonor 74 = .ok (.invokevirtual 164, 3) := by decide +kernel
theorem dX0_tellDonor_77 : decode cX0_tellDonor 77 = .ok (.ireturn, 1) := by decide +kernel
theorem dX0_tellConsent_0 : decode cX0_tellConsent 0 = .ok (.iload_n 2, 1) := by decide +kernel
theorem dX0_tellConsent_1 : decode cX0_tellConsent 1 = .ok (.bipush 10, 2) := by decide +kernel
theorem dX0_tellConsent_3 : decode cX0_tellConsent 3 = .ok (.if_icmp .lt 17, 3) := by decide +kernel
theorem dX0_tellConsent_6 : decode cX0_tellConsent 6 = .ok (.aload_n 0, 1) := by decide +kernel
theorem dX0_tellConsent_7 : decode cX0_tellConsent 7 = .ok (.getfield 20, 3) := by decide +kernel
theorem dX0_tellConsent_10 : decode cX0_tellConsent 10 = .ok (.iload_n 2, 1) := by decide +kernel
theorem dX0_tellConsent_11 : decode cX0_tellConsent 11 = .ok (.bipush 10, 2) := by decide +kernel
theorem dX0_tellConsent_13 : decode cX0_tellConsent 13 = .ok (.isub, 1) := by decide +kernel
theorem dX0_tellConsent_14 : decode cX0_tellConsent 14 = .ok (.invokevirtual 50, 3) := by decide +kernel
theorem dX0_tellConsent_17 : decode cX0_tellConsent 17 = .ok (.ifCond .ne 5, 3) := by decide +kernel
theorem dX0_tellConsent_20 : decode cX0_tellConsent 20 = .ok (.iconst (-1), 1) := by decide +kernel
theorem dX0_tellConsent_21 : decode cX0_tellConsent 21 = .ok (.ireturn, 1) := by decide +kernel
theorem dX0_tellConsent_22 : decode cX0_tellConsent 22 = .ok (.aload_n 0, 1) := by decide +kernel
theorem dX0_tellConsent_23 : decode cX0_tellConsent 23 = .ok (.getfield 24, 3) := by decide +kernel
theorem dX0_tellConsent_26 : decode cX0_tellConsent 26 = .ok (.iload_n 1, 1) := by decide +kernel
theorem dX0_tellConsent_27 : decode cX0_tellConsent 27 = .ok (.iconst 1, 1) := by decide +kernel
theorem dX0_tellConsent_28 : decode cX0_tellConsent 28 = .ok (.iload_n 2, 1) := by decide +kernel
theorem dX0_tellConsent_29 : decode cX0_tellConsent 29 = .ok (.iadd, 1) := by decide +kernel
theorem dX0_tellConsent_30 : decode cX0_tellConsent 30 = .ok (.bipush 10, 2) := by decide +kernel
theorem dX0_tellConsent_32 : decode cX0_tellConsent 32 = .ok (.isub, 1) := by decide +kernel
theorem dX0_tellConsent_33 : decode cX0_tellConsent 33 = .ok (.invokevirtual 58, 3) := by decide +kernel
theorem dX0_tellConsent_36 : decode cX0_tellConsent 36 = .ok (.istore_n 3, 1) := by decide +kernel
theorem dX0_tellConsent_37 : decode cX0_tellConsent 37 = .ok (.iload_n 3, 1) := by decide +kernel
theorem dX0_tellConsent_38 : decode cX0_tellConsent 38 = .ok (.iconst (-1), 1) := by decide +kernel
theorem dX0_tellConsent_39 : decode cX0_tellConsent 39 = .ok (.if_icmp .ne 8, 3) := by decide +kernel
theorem dX0_tellConsent_42 : decode cX0_tellConsent 42 = .ok (.bipush (-4), 2) := by decide +kernel
theorem dX0_tellConsent_44 : decode cX0_tellConsent 44 = .ok (.goto 4, 3) := by decide +kernel
theorem dX0_tellConsent_47 : decode cX0_tellConsent 47 = .ok (.iload_n 3, 1) := by decide +kernel
theorem dX0_tellConsent_48 : decode cX0_tellConsent 48 = .ok (.ireturn, 1) := by decide +kernel
theorem dX0_amountsOf_0 : decode cX0_amountsOf 0 = .ok (.iconst 0, 1) := by decide +kernel
theorem dX0_amountsOf_1 : decode cX0_amountsOf 1 = .ok (.istore_n 3, 1) := by decide +kernel
theorem dX0_amountsOf_2 : decode cX0_amountsOf 2 = .ok (.iconst 0, 1) := by decide +kernel
theorem dX0_amountsOf_3 : decode cX0_amountsOf 3 = .ok (.istore 4, 2) := by decide +kernel
theorem dX0_amountsOf_5 : decode cX0_amountsOf 5 = .ok (.iload 4, 2) := by decide +kernel
theorem dX0_amountsOf_7 : decode cX0_amountsOf 7 = .ok (.aload_n 0, 1) := by decide +kernel
theorem dX0_amountsOf_8 : decode cX0_amountsOf 8 = .ok (.getfield 27, 3) := by decide +kernel
theorem dX0_amountsOf_11 : decode cX0_amountsOf 11 = .ok (.invokevirtual 86, 3) := by decide +kernel
theorem dX0_amountsOf_14 : decode cX0_amountsOf 14 = .ok (.if_icmp .ge 86, 3) := by decide +kernel
theorem dX0_amountsOf_17 : decode cX0_amountsOf 17 = .ok (.iload_n 2, 1) := by decide +kernel
theorem dX0_amountsOf_18 : decode cX0_amountsOf 18 = .ok (.iconst 1, 1) := by decide +kernel
theorem dX0_amountsOf_19 : decode cX0_amountsOf 19 = .ok (.if_icmp .eq 40, 3) := by decide +kernel
theorem dX0_amountsOf_22 : decode cX0_amountsOf 22 = .ok (.iload_n 2, 1) := by decide +kernel
theorem dX0_amountsOf_23 : decode cX0_amountsOf 23 = .ok (.iconst 2, 1) := by decide +kernel
theorem dX0_amountsOf_24 : decode cX0_amountsOf 24 = .ok (.if_icmp .ne 12, 3) := by decide +kernel
theorem dX0_amountsOf_27 : decode cX0_amountsOf 27 = .ok (.aload_n 0, 1) := by decide +kernel
theorem dX0_amountsOf_28 : decode cX0_amountsOf 28 = .ok (.iload 4, 2) := by decide +kernel
theorem dX0_amountsOf_30 : decode cX0_amountsOf 30 = .ok (.invokevirtual 109, 3) := by decide +kernel
theorem dX0_amountsOf_33 : decode cX0_amountsOf 33 = .ok (.ifCond .ne 26, 3) := by decide +kernel
theorem dX0_amountsOf_36 : decode cX0_amountsOf 36 = .ok (.iload_n 2, 1) := by decide +kernel
theorem dX0_amountsOf_37 : decode cX0_amountsOf 37 = .ok (.iconst 3, 1) := by decide +kernel
theorem dX0_amountsOf_38 : decode cX0_amountsOf 38 = .ok (.if_icmp .ne 25, 3) := by decide +kernel
theorem dX0_amountsOf_41 : decode cX0_amountsOf 41 = .ok (.aload_n 0, 1) := by decide +kernel
theorem dX0_amountsOf_42 : decode cX0_amountsOf 42 = .ok (.iload 4, 2) := by decide +kernel
theorem dX0_amountsOf_44 : decode cX0_amountsOf 44 = .ok (.invokevirtual 106, 3) := by decide +kernel
theorem dX0_amountsOf_47 : decode cX0_amountsOf 47 = .ok (.ifCond .eq 16, 3) := by decide +kernel
theorem dX0_amountsOf_50 : decode cX0_amountsOf 50 = .ok (.aload_n 0, 1) := by decide +kernel
theorem dX0_amountsOf_51 : decode cX0_amountsOf 51 = .ok (.iload 4, 2) := by decide +kernel
theorem dX0_amountsOf_53 : decode cX0_amountsOf 53 = .ok (.invokevirtual 109, 3) := by decide +kernel
theorem dX0_amountsOf_56 : decode cX0_amountsOf 56 = .ok (.ifCond .ne 7, 3) := by decide +kernel
theorem dX0_amountsOf_59 : decode cX0_amountsOf 59 = .ok (.iconst 1, 1) := by decide +kernel
theorem dX0_amountsOf_60 : decode cX0_amountsOf 60 = .ok (.goto 4, 3) := by decide +kernel
theorem dX0_amountsOf_63 : decode cX0_amountsOf 63 = .ok (.iconst 0, 1) := by decide +kernel
theorem dX0_amountsOf_64 : decode cX0_amountsOf 64 = .ok (.istore 5, 2) := by decide +kernel
theorem dX0_amountsOf_66 : decode cX0_amountsOf 66 = .ok (.iload 5, 2) := by decide +kernel
theorem dX0_amountsOf_68 : decode cX0_amountsOf 68 = .ok (.ifCond .eq 26, 3) := by decide +kernel
theorem dX0_amountsOf_71 : decode cX0_amountsOf 71 = .ok (.aload_n 0, 1) := by decide +kernel
theorem dX0_amountsOf_72 : decode cX0_amountsOf 72 = .ok (.iload 4, 2) := by decide +kernel
theorem dX0_amountsOf_74 : decode cX0_amountsOf 74 = .ok (.iload_n 1, 1) := by decide +kernel
theorem dX0_amountsOf_75 : decode cX0_amountsOf 75 = .ok (.invokevirtual 92, 3) := by decide +kernel
theorem dX0_amountsOf_78 : decode cX0_amountsOf 78 = .ok (.ifCond .eq 16, 3) := by decide +kernel
theorem dX0_amountsOf_81 : decode cX0_amountsOf 81 = .ok (.iload_n 3, 1) := by decide +kernel
theorem dX0_amountsOf_82 : decode cX0_amountsOf 82 = .ok (.aload_n 0, 1) := by decide +kernel
theorem dX0_amountsOf_83 : decode cX0_amountsOf 83 = .ok (.getfield 27, 3) := by decide +kernel
theorem dX0_amountsOf_86 : decode cX0_amountsOf 86 = .ok (.iload 4, 2) := by decide +kernel
theorem dX0_amountsOf_88 : decode cX0_amountsOf 88 = .ok (.iconst 2, 1) := by decide +kernel
theorem dX0_amountsOf_89 : decode cX0_amountsOf 89 = .ok (.invokevirtual 58, 3) := by decide +kernel
theorem dX0_amountsOf_92 : decode cX0_amountsOf 92 = .ok (.iadd, 1) := by decide +kernel
theorem dX0_amountsOf_93 : decode cX0_amountsOf 93 = .ok (.istore_n 3, 1) := by decide +kernel
theorem dX0_amountsOf_94 : decode cX0_amountsOf 94 = .ok (.iinc 4 1, 3) := by decide +kernel
theorem dX0_amountsOf_97 : decode cX0_amountsOf 97 = .ok (.goto (-92), 3) := by decide +kernel
theorem dX0_amountsOf_100 : decode cX0_amountsOf 100 = .ok (.iload_n 3, 1) := by decide +kernel
theorem dX0_amountsOf_101 : decode cX0_amountsOf 101 = .ok (.ireturn, 1) := by decide +kernel
theorem dX0_runningPledgesOf_0 : decode cX0_runningPledgesOf 0 = .ok (.iconst 0, 1) := by decide +kernel
theorem dX0_runningPledgesOf_1 : decode cX0_runningPledgesOf 1 = .ok (.istore_n 2, 1) := by decide +kernel
theorem dX0_runningPledgesOf_2 : decode cX0_runningPledgesOf 2 = .ok (.iconst 0, 1) := by decide +kernel
theorem dX0_runningPledgesOf_3 : decode cX0_runningPledgesOf 3 = .ok (.istore_n 3, 1) := by decide +kernel
theorem dX0_runningPledgesOf_4 : decode cX0_runningPledgesOf 4 = .ok (.iload_n 3, 1) := by decide +kernel
theorem dX0_runningPledgesOf_5 : decode cX0_runningPledgesOf 5 = .ok (.aload_n 0, 1) := by decide +kernel
theorem dX0_runningPledgesOf_6 : decode cX0_runningPledgesOf 6 = .ok (.getfield 30, 3) := by decide +kernel
theorem dX0_runningPledgesOf_9 : decode cX0_runningPledgesOf 9 = .ok (.invokevirtual 86, 3) := by decide +kernel
theorem dX0_runningPledgesOf_12 : decode cX0_runningPledgesOf 12 = .ok (.if_icmp .ge 36, 3) := by decide +kernel
theorem dX0_runningPledgesOf_15 : decode cX0_runningPledgesOf 15 = .ok (.aload_n 0, 1) := by decide +kernel
theorem dX0_runningPledgesOf_16 : decode cX0_runningPledgesOf 16 = .ok (.iload_n 3, 1) := by decide +kernel
theorem dX0_runningPledgesOf_17 : decode cX0_runningPledgesOf 17 = .ok (.invokevirtual 79, 3) := by decide +kernel
theorem dX0_runningPledgesOf_20 : decode cX0_runningPledgesOf 20 = .ok (.ifCond .eq 22, 3) := by decide +kernel
theorem dX0_runningPledgesOf_23 : decode cX0_runningPledgesOf 23 = .ok (.aload_n 0, 1) := by decide +kernel
theorem dX0_runningPledgesOf_24 : decode cX0_runningPledgesOf 24 = .ok (.getfield 30, 3) := by decide +kernel
theorem dX0_runningPledgesOf_27 : decode cX0_runningPledgesOf 27 = .ok (.iload_n 3, 1) := by decide +kernel
theorem dX0_runningPledgesOf_28 : decode cX0_runningPledgesOf 28 = .ok (.iconst 0, 1) := by decide +kernel
theorem dX0_runningPledgesOf_29 : decode cX0_runningPledgesOf 29 = .ok (.invokevirtual 58, 3) := by decide +kernel
theorem dX0_runningPledgesOf_32 : decode cX0_runningPledgesOf 32 = .ok (.iload_n 1, 1) := by decide +kernel
theorem dX0_runningPledgesOf_33 : decode cX0_runningPledgesOf 33 = .ok (.if_icmp .ne 9, 3) := by decide +kernel
theorem dX0_runningPledgesOf_36 : decode cX0_runningPledgesOf 36 = .ok (.iload_n 2, 1) := by decide +kernel
theorem dX0_runningPledgesOf_37 : decode cX0_runningPledgesOf 37 = .ok (.iconst 1, 1) := by decide +kernel
theorem dX0_runningPledgesOf_38 : decode cX0_runningPledgesOf 38 = .ok (.iload_n 3, 1) := by decide +kernel
theorem dX0_runningPledgesOf_39 : decode cX0_runningPledgesOf 39 = .ok (.ishl, 1) := by decide +kernel
theorem dX0_runningPledgesOf_40 : decode cX0_runningPledgesOf 40 = .ok (.ior, 1) := by decide +kernel
theorem dX0_runningPledgesOf_41 : decode cX0_runningPledgesOf 41 = .ok (.istore_n 2, 1) := by decide +kernel
theorem dX0_runningPledgesOf_42 : decode cX0_runningPledgesOf 42 = .ok (.iinc 3 1, 3) := by decide +kernel
theorem dX0_runningPledgesOf_45 : decode cX0_runningPledgesOf 45 = .ok (.goto (-41), 3) := by decide +kernel
theorem dX0_runningPledgesOf_48 : decode cX0_runningPledgesOf 48 = .ok (.iload_n 2, 1) := by decide +kernel
theorem dX0_runningPledgesOf_49 : decode cX0_runningPledgesOf 49 = .ok (.ireturn, 1) := by decide +kernel
theorem dX0_tellGift_0 : decode cX0_tellGift 0 = .ok (.aload_n 0, 1) := by decide +kernel
theorem dX0_tellGift_1 : decode cX0_tellGift 1 = .ok (.getfield 27, 3) := by decide +kernel
theorem dX0_tellGift_4 : decode cX0_tellGift 4 = .ok (.iload_n 1, 1) := by decide +kernel
theorem dX0_tellGift_5 : decode cX0_tellGift 5 = .ok (.invokevirtual 50, 3) := by decide +kernel
theorem dX0_tellGift_8 : decode cX0_tellGift 8 = .ok (.ifCond .eq 13, 3) := by decide +kernel
theorem dX0_tellGift_11 : decode cX0_tellGift 11 = .ok (.iload_n 2, 1) := by decide +kernel
theorem dX0_tellGift_12 : decode cX0_tellGift 12 = .ok (.iconst 0, 1) := by decide +kernel
theorem dX0_tellGift_13 : decode cX0_tellGift 13 = .ok (.bipush 7, 2) := by decide +kernel
theorem dX0_tellGift_15 : decode cX0_tellGift 15 = .ok (.invokestatic 54, 3) := by decide +kernel
theorem dX0_tellGift_18 : decode cX0_tellGift 18 = .ok (.ifCond .ne 5, 3) := by decide +kernel
theorem dX0_tellGift_21 : decode cX0_tellGift 21 = .ok (.iconst (-1), 1) := by decide +kernel
theorem dX0_tellGift_22 : decode cX0_tellGift 22 = .ok (.ireturn, 1) := by decide +kernel
theorem dX0_tellGift_23 : decode cX0_tellGift 23 = .ok (.iload_n 2, 1) := by decide +kernel
theorem dX0_tellGift_24 : decode cX0_tellGift 24 = .ok (.bipush 7, 2) := by decide +kernel
theorem dX0_tellGift_26 : decode cX0_tellGift 26 = .ok (.if_icmp .ne 9, 3) := by decide +kernel
theorem dX0_tellGift_29 : decode cX0_tellGift 29 = .ok (.aload_n 0, 1) := by decide +kernel
theorem dX0_tellGift_30 : decode cX0_tellGift 30 = .ok (.iload_n 1, 1) := by decide +kernel
theorem dX0_tellGift_31 : decode cX0_tellGift 31 = .ok (.invokevirtual 103, 3) := by decide +kernel
theorem dX0_tellGift_34 : decode cX0_tellGift 34 = .ok (.ireturn, 1) := by decide +kernel
theorem dX0_tellGift_35 : decode cX0_tellGift 35 = .ok (.aload_n 0, 1) := by decide +kernel
theorem dX0_tellGift_36 : decode cX0_tellGift 36 = .ok (.getfield 27, 3) := by decide +kernel
theorem dX0_tellGift_39 : decode cX0_tellGift 39 = .ok (.iload_n 1, 1) := by decide +kernel
theorem dX0_tellGift_40 : decode cX0_tellGift 40 = .ok (.iload_n 2, 1) := by decide +kernel
theorem dX0_tellGift_41 : decode cX0_tellGift 41 = .ok (.invokevirtual 58, 3) := by decide +kernel
theorem dX0_tellGift_44 : decode cX0_tellGift 44 = .ok (.istore_n 3, 1) := by decide +kernel
theorem dX0_tellGift_45 : decode cX0_tellGift 45 = .ok (.iload_n 2, 1) := by decide +kernel
theorem dX0_tellGift_46 : decode cX0_tellGift 46 = .ok (.bipush 6, 2) := by decide +kernel
theorem dX0_tellGift_48 : decode cX0_tellGift 48 = .ok (.if_icmp .ne 13, 3) := by decide +kernel
theorem dX0_tellGift_51 : decode cX0_tellGift 51 = .ok (.iload_n 3, 1) := by decide +kernel
theorem dX0_tellGift_52 : decode cX0_tellGift 52 = .ok (.iconst (-1), 1) := by decide +kernel
theorem dX0_tellGift_53 : decode cX0_tellGift 53 = .ok (.if_icmp .ne 8, 3) := by decide +kernel
theorem dX0_tellGift_56 : decode cX0_tellGift 56 = .ok (.bipush (-4), 2) := by decide +kernel
theorem dX0_tellGift_58 : decode cX0_tellGift 58 = .ok (.goto 4, 3) := by decide +kernel
theorem dX0_tellGift_61 : decode cX0_tellGift 61 = .ok (.iload_n 3, 1) := by decide +kernel
theorem dX0_tellGift_62 : decode cX0_tellGift 62 = .ok (.ireturn, 1) := by decide +kernel
theorem dX0_tellPledge_0 : decode cX0_tellPledge 0 = .ok (.aload_n 0, 1) := by decide +kernel
theorem dX0_tellPledge_1 : decode cX0_tellPledge 1 = .ok (.getfield 30, 3) := by decide +kernel
theorem dX0_tellPledge_4 : decode cX0_tellPledge 4 = .ok (.iload_n 1, 1) := by decide +kernel
theorem dX0_tellPledge_5 : decode cX0_tellPledge 5 = .ok (.invokevirtual 50, 3) := by decide +kernel
theorem dX0_tellPledge_8 : decode cX0_tellPledge 8 = .ok (.ifCond .eq 13, 3) := by decide +kernel
theorem dX0_tellPledge_11 : decode cX0_tellPledge 11 = .ok (.iload_n 2, 1) := by decide +kernel
theorem dX0_tellPledge_12 : decode cX0_tellPledge 12 = .ok (.iconst 0, 1) := by decide +kernel
theorem dX0_tellPledge_13 : decode cX0_tellPledge 13 = .ok (.bipush 7, 2) := by decide +kernel
theorem dX0_tellPledge_15 : decode cX0_tellPledge 15 = .ok (.invokestatic 54, 3) := by decide +kernel
theorem dX0_tellPledge_18 : decode cX0_tellPledge 18 = .ok (.ifCond .ne 5, 3) := by decide +kernel
theorem dX0_tellPledge_21 : decode cX0_tellPledge 21 = .ok (.iconst (-1), 1) := by decide +kernel
theorem dX0_tellPledge_22 : decode cX0_tellPledge 22 = .ok (.ireturn, 1) := by decide +kernel
theorem dX0_tellPledge_23 : decode cX0_tellPledge 23 = .ok (.aload_n 0, 1) := by decide +kernel
theorem dX0_tellPledge_24 : decode cX0_tellPledge 24 = .ok (.getfield 30, 3) := by decide +kernel
theorem dX0_tellPledge_27 : decode cX0_tellPledge 27 = .ok (.iload_n 1, 1) := by decide +kernel
theorem dX0_tellPledge_28 : decode cX0_tellPledge 28 = .ok (.iload_n 2, 1) := by decide +kernel
theorem dX0_tellPledge_29 : decode cX0_tellPledge 29 = .ok (.invokevirtual 58, 3) := by decide +kernel
theorem dX0_tellPledge_32 : decode cX0_tellPledge 32 = .ok (.ireturn, 1) := by decide +kernel
theorem dX0_tellNumber_0 : decode cX0_tellNumber 0 = .ok (.iload_n 1, 1) := by decide +kernel
theorem dX0_tellNumber_1 : decode cX0_tellNumber 1 = .ok (.tableswitch 179 0 14 #[75, 83, 91, 99, 107, 114, 123, 132, 141, 151, 160, 179, 179, 165, 172], 75) := by decide +kernel
theorem dX0_tellNumber_76 : decode cX0_tellNumber 76 = .ok (.aload_n 0, 1) := by decide +kernel
theorem dX0_tellNumber_77 : decode cX0_tellNumber 77 = .ok (.getfield 20, 3) := by decide +kernel
theorem dX0_tellNumber_80 : decode cX0_tellNumber 80 = .ok (.invokevirtual 86, 3) := by decide +kernel
theorem dX0_tellNumber_83 : decode cX0_tellNumber 83 = .ok (.ireturn, 1) := by decide +kernel
theorem dX0_tellNumber_84 : decode cX0_tellNumber 84 = .ok (.aload_n 0, 1) := by decide +kernel
theorem dX0_tellNumber_85 : decode cX0_tellNumber 85 = .ok (.getfield 24, 3) := by decide +kernel
theorem dX0_tellNumber_88 : decode cX0_tellNumber 88 = .ok (.invokevirtual 86, 3) := by decide +kernel
theorem dX0_tellNumber_91 : decode cX0_tellNumber 91 = .ok (.ireturn, 1) := by decide +kernel
theorem dX0_tellNumber_92 : decode cX0_tellNumber 92 = .ok (.aload_n 0, 1) := by decide +kernel
theorem dX0_tellNumber_93 : decode cX0_tellNumber 93 = .ok (.getfield 27, 3) := by decide +kernel
theorem dX0_tellNumber_96 : decode cX0_tellNumber 96 = .ok (.invokevirtual 86, 3) := by decide +kernel
theorem dX0_tellNumber_99 : decode cX0_tellNumber 99 = .ok (.ireturn, 1) := by decide +kernel
theorem dX0_tellNumber_100 : decode cX0_tellNumber 100 = .ok (.aload_n 0, 1) := by decide +kernel
theorem dX0_tellNumber_101 : decode cX0_tellNumber 101 = .ok (.getfield 30, 3) := by decide +kernel
theorem dX0_tellNumber_104 : decode cX0_tellNumber 104 = .ok (.invokevirtual 86, 3) := by decide +kernel
theorem dX0_tellNumber_107 : decode cX0_tellNumber 107 = .ok (.ireturn, 1) := by decide +kernel
theorem dX0_tellNumber_108 : decode cX0_tellNumber 108 = .ok (.aload_n 0, 1) := by decide +kernel
theorem dX0_tellNumber_109 : decode cX0_tellNumber 109 = .ok (.getfield 11, 3) := by decide +kernel
theorem dX0_tellNumber_112 : decode cX0_tellNumber 112 = .ok (.iconst 0, 1) := by decide +kernel
theorem dX0_tellNumber_113 : decode cX0_tellNumber 113 = .ok (.iaload, 1) := by decide +kernel
theorem dX0_tellNumber_114 : decode cX0_tellNumber 114 = .ok (.ireturn, 1) := by decide +kernel
theorem dX0_tellNumber_115 : decode cX0_tellNumber 115 = .ok (.aload_n 0, 1) := by decide +kernel
theorem dX0_tellNumber_116 : decode cX0_tellNumber 116 = .ok (.getfield 20, 3) := by decide +kernel
theorem dX0_tellNumber_119 : decode cX0_tellNumber 119 = .ok (.iconst 0, 1) := by decide +kernel
theorem dX0_tellNumber_120 : decode cX0_tellNumber 120 = .ok (.invokevirtual 167, 3) := by decide +kernel
theorem dX0_tellNumber_123 : decode cX0_tellNumber 123 = .ok (.ireturn, 1) := by decide +kernel
theorem dX0_tellNumber_124 : decode cX0_tellNumber 124 = .ok (.aload_n 0, 1) := by decide +kernel
theorem dX0_tellNumber_125 : decode cX0_tellNumber 125 = .ok (.getfield 20, 3) := by decide +kernel
theorem dX0_tellNumber_128 : decode cX0_tellNumber 128 = .ok (.iconst 3, 1) := by decide +kernel
theorem dX0_tellNumber_129 : decode cX0_tellNumber 129 = .ok (.invokevirtual 167, 3) := by decide +kernel
theorem dX0_tellNumber_132 : decode cX0_tellNumber 132 = .ok (.ireturn, 1) := by decide +kernel
theorem dX0_tellNumber_133 : decode cX0_tellNumber 133 = .ok (.aload_n 0, 1) := by decide +kernel
theorem dX0_tellNumber_134 : decode cX0_tellNumber 134 = .ok (.getfield 20, 3) := by decide +kernel
theorem dX0_tellNumber_137 : decode cX0_tellNumber 137 = .ok (.iconst 2, 1) := by decide +kernel
theorem dX0_tellNumber_138 : decode cX0_tellNumber 138 = .ok (.invokevirtual 167, 3) := by decide +kernel
theorem dX0_tellNumber_141 : decode cX0_tellNumber 141 = .ok (.ireturn, 1) := by decide +kernel
theorem dX0_tellNumber_142 : decode cX0_tellNumber 142 = .ok (.aload_n 0, 1) := by decide +kernel
theorem dX0_tellNumber_143 : decode cX0_tellNumber 143 = .ok (.getfield 20, 3) := by decide +kernel
theorem dX0_tellNumber_146 : decode cX0_tellNumber 146 = .ok (.bipush 6, 2) := by decide +kernel
theorem dX0_tellNumber_148 : decode cX0_tellNumber 148 = .ok (.invokevirtual 167, 3) := by decide +kernel
theorem dX0_tellNumber_151 : decode cX0_tellNumber 151 = .ok (.ireturn, 1) := by decide +kernel
theorem dX0_tellNumber_152 : decode cX0_tellNumber 152 = .ok (.aload_n 0, 1) := by decide +kernel
theorem dX0_tellNumber_153 : decode cX0_tellNumber 153 = .ok (.getfield 20, 3) := by decide +kernel
theorem dX0_tellNumber_156 : decode cX0_tellNumber 156 = .ok (.iconst 5, 1) := by decide +kernel
theorem dX0_tellNumber_157 : decode cX0_tellNumber 157 = .ok (.invokevirtual 167, 3) := by decide +kernel
theorem dX0_tellNumber_160 : decode cX0_tellNumber 160 = .ok (.ireturn, 1) := by decide +kernel
theorem dX0_tellNumber_161 : decode cX0_tellNumber 161 = .ok (.aload_n 0, 1) := by decide +kernel
theorem dX0_tellNumber_162 : decode cX0_tellNumber 162 = .ok (.invokevirtual 170, 3) := by decide +kernel
theorem dX0_tellNumber_165 : decode cX0_tellNumber 165 = .ok (.ireturn, 1) := by decide +kernel
theorem dX0_tellNumber_166 : decode cX0_tellNumber 166 = .ok (.aload_n 0, 1) := by decide +kernel
theorem dX0_tellNumber_167 : decode cX0_tellNumber 167 = .ok (.getfield 11, 3) := by decide +kernel
theorem dX0_tellNumber_170 : decode cX0_tellNumber 170 = .ok (.iconst 1, 1) := by decide +kernel
theorem dX0_tellNumber_171 : decode cX0_tellNumber 171 = .ok (.iaload, 1) := by decide +kernel
theorem dX0_tellNumber_172 : decode cX0_tellNumber 172 = .ok (.ireturn, 1) := by decide +kernel
theorem dX0_tellNumber_173 : decode cX0_tellNumber 173 = .ok (.aload_n 0, 1) := by decide +kernel
theorem dX0_tellNumber_174 : decode cX0_tellNumber 174 = .ok (.getfield 11, 3) := by decide +kernel
theorem dX0_tellNumber_177 : decode cX0_tellNumber 177 = .ok (.iconst 2, 1) := by decide +kernel
theorem dX0_tellNumber_178 : decode cX0_tellNumber 178 = .ok (.iaload, 1) := by decide +kernel
theorem dX0_tellNumber_179 : decode cX0_tellNumber 179 = .ok (.ireturn, 1) := by decide +kernel
theorem dX0_tellNumber_180 : decode cX0_tellNumber 180 = .ok (.iconst (-1), 1) := by decide +kernel
theorem dX0_tellNumber_181 : decode cX0_tellNumber 181 = .ok (.ireturn, 1) := by decide +kernel
theorem dX0_closedPurposes_0 : decode cX0_closedPurposes 0 = .ok (.iconst 0, 1) := by decide +kernel
theorem dX0_closedPurposes_1 : decode cX0_closedPurposes 1 = .ok (.istore_n 1, 1) := by decide +kernel
theorem dX0_closedPurposes_2 : decode cX0_closedPurposes 2 = .ok (.iconst 0, 1) := by decide +kernel
theorem dX0_closedPurposes_3 : decode cX0_closedPurposes 3 = .ok (.istore_n 2, 1) := by decide +kernel
theorem dX0_closedPurposes_4 : decode cX0_closedPurposes 4 = .ok (.iload_n 2, 1) := by decide +kernel
theorem dX0_closedPurposes_5 : decode cX0_closedPurposes 5 = .ok (.aload_n 0, 1) := by decide +kernel
theorem dX0_closedPurposes_6 : decode cX0_closedPurposes 6 = .ok (.getfield 20, 3) := by decide +kernel
theorem dX0_closedPurposes_9 : decode cX0_closedPurposes 9 = .ok (.invokevirtual 86, 3) := by decide +kernel
theorem dX0_closedPurposes_12 : decode cX0_closedPurposes 12 = .ok (.if_icmp .ge 20, 3) := by decide +kernel
theorem dX0_closedPurposes_15 : decode cX0_closedPurposes 15 = .ok (.aload_n 0, 1) := by decide +kernel
theorem dX0_closedPurposes_16 : decode cX0_closedPurposes 16 = .ok (.iload_n 2, 1) := by decide +kernel
theorem dX0_closedPurposes_17 : decode cX0_closedPurposes 17 = .ok (.invokevirtual 62, 3) := by decide +kernel
theorem dX0_closedPurposes_20 : decode cX0_closedPurposes 20 = .ok (.ifCond .eq 6, 3) := by decide +kernel
theorem dX0_closedPurposes_23 : decode cX0_closedPurposes 23 = .ok (.iinc 1 1, 3) := by decide +kernel
theorem dX0_closedPurposes_26 : decode cX0_closedPurposes 26 = .ok (.iinc 2 1, 3) := by decide +kernel
theorem dX0_closedPurposes_29 : decode cX0_closedPurposes 29 = .ok (.goto (-25), 3) := by decide +kernel
theorem dX0_closedPurposes_32 : decode cX0_closedPurposes 32 = .ok (.iload_n 1, 1) := by decide +kernel
theorem dX0_closedPurposes_33 : decode cX0_closedPurposes 33 = .ok (.ireturn, 1) := by decide +kernel
theorem dX1_init_0 : decode cX1_init 0 = .ok (.aload_n 0, 1) := by decide +kernel
theorem dX1_init_1 : decode cX1_init 1 = .ok (.invokespecial 5, 3) := by decide +kernel
theorem dX1_init_4 : decode cX1_init 4 = .ok (.aload_n 0, 1) := by decide +kernel
theorem dX1_init_5 : decode cX1_init 5 = .ok (.iconst 5, 1) := by decide +kernel
theorem dX1_init_6 : decode cX1_init 6 = .ok (.sipush 351, 3) := by decide +kernel
theorem dX1_init_9 : decode cX1_init 9 = .ok (.multianewarray 13 2, 4) := by decide +kernel
theorem dX1_init_13 : decode cX1_init 13 = .ok (.putfield 15, 3) := by decide +kernel
theorem dX1_init_16 : decode cX1_init 16 = .ok (.aload_n 0, 1) := by decide +kernel
theorem dX1_init_17 : decode cX1_init 17 = .ok (.iconst 0, 1) := by decide +kernel
theorem dX1_init_18 : decode cX1_init 18 = .ok (.putfield 18, 3) := by decide +kernel
theorem dX1_init_21 : decode cX1_init 21 = .ok (.aload_n 0, 1) := by decide +kernel
theorem dX1_init_22 : decode cX1_init 22 = .ok (.iconst 0, 1) := by decide +kernel
theorem dX1_init_23 : decode cX1_init 23 = .ok (.putfield 22, 3) := by decide +kernel
theorem dX1_init_26 : decode cX1_init 26 = .ok (.return_, 1) := by decide +kernel
theorem dX1_size_0 : decode cX1_size 0 = .ok (.aload_n 0, 1) := by decide +kernel
theorem dX1_size_1 : decode cX1_size 1 = .ok (.getfield 22, 3) := by decide +kernel
theorem dX1_size_4 : decode cX1_size 4 = .ok (.ireturn, 1) := by decide +kernel
theorem dX1_draft_0 : decode cX1_draft 0 = .ok (.aload_n 1, 1) := by decide +kernel
theorem dX1_draft_1 : decode cX1_draft 1 = .ok (.aload_n 0, 1) := by decide +kernel
theorem dX1_draft_2 : decode cX1_draft 2 = .ok (.getfield 15, 3) := by decide +kernel
theorem dX1_draft_5 : decode cX1_draft 5 = .ok (.aload_n 0, 1) := by decide +kernel
theorem dX1_draft_6 : decode cX1_draft 6 = .ok (.getfield 18, 3) := by decide +kernel
theorem dX1_draft_9 : decode cX1_draft 9 = .ok (.aload_n 0, 1) := by decide +kernel
theorem dX1_draft_10 : decode cX1_draft 10 = .ok (.getfield 22, 3) := by decide +kernel
theorem dX1_draft_13 : decode cX1_draft 13 = .ok (.iadd, 1) := by decide +kernel
theorem dX1_draft_14 : decode cX1_draft 14 = .ok (.iconst 5, 1) := by decide +kernel
theorem dX1_draft_15 : decode cX1_draft 15 = .ok (.irem, 1) := by decide +kernel
theorem dX1_draft_16 : decode cX1_draft 16 = .ok (.aaload, 1) := by decide +kernel
theorem dX1_draft_17 : decode cX1_draft 17 = .ok (.invokevirtual 25, 3) := by decide +kernel
theorem dX1_draft_20 : decode cX1_draft 20 = .ok (.return_, 1) := by decide +kernel
theorem dX1_keepUnlessError_0 : decode cX1_keepUnlessError 0 = .ok (.iload_n 1, 1) := by decide +kernel
theorem dX1_keepUnlessError_1 : decode cX1_keepUnlessError 1 = .ok (.ifCond .lt 36, 3) := by decide +kernel
theorem dX1_keepUnlessError_4 : decode cX1_keepUnlessError 4 = .ok (.aload_n 0, 1) := by decide +kernel
theorem dX1_keepUnlessError_5 : decode cX1_keepUnlessError 5 = .ok (.getfield 22, 3) := by decide +kernel
theorem dX1_keepUnlessError_8 : decode cX1_keepUnlessError 8 = .ok (.iconst 4, 1) := by decide +kernel
theorem dX1_keepUnlessError_9 : decode cX1_keepUnlessError 9 = .ok (.if_icmp .ge 16, 3) := by decide +kernel
theorem dX1_keepUnlessError_12 : decode cX1_keepUnlessError 12 = .ok (.aload_n 0, 1) := by decide +kernel
theorem dX1_keepUnlessError_13 : decode cX1_keepUnlessError 13 = .ok (.dup, 1) := by decide +kernel
theorem dX1_keepUnlessError_14 : decode cX1_keepUnlessError 14 = .ok (.getfield 22, 3) := by decide +kernel
theorem dX1_keepUnlessError_17 : decode cX1_keepUnlessError 17 = .ok (.iconst 1, 1) := by decide +kernel
theorem dX1_keepUnlessError_18 : decode cX1_keepUnlessError 18 = .ok (.iadd, 1) := by decide +kernel
theorem dX1_keepUnlessError_19 : decode cX1_keepUnlessError 19 = .ok (.putfield 22, 3) := by decide +kernel
theorem dX1_keepUnlessError_22 : decode cX1_keepUnlessError 22 = .ok (.goto 15, 3) := by decide +kernel
theorem dX1_keepUnlessError_25 : decode cX1_keepUnlessError 25 = .ok (.aload_n 0, 1) := by decide +kernel
theorem dX1_keepUnlessError_26 : decode cX1_keepUnlessError 26 = .ok (.aload_n 0, 1) := by decide +kernel
theorem dX1_keepUnlessError_27 : decode cX1_keepUnlessError 27 = .ok (.getfield 18, 3) := by decide +kernel
theorem dX1_keepUnlessError_30 : decode cX1_keepUnlessError 30 = .ok (.iconst 1, 1) := by decide +kernel
theorem dX1_keepUnlessError_31 : decode cX1_keepUnlessError 31 = .ok (.iadd, 1) := by decide +kernel
theorem dX1_keepUnlessError_32 : decode cX1_keepUnlessError 32 = .ok (.iconst 5, 1) := by decide +kernel
theorem dX1_keepUnlessError_33 : decode cX1_keepUnlessError 33 = .ok (.irem, 1) := by decide +kernel
theorem dX1_keepUnlessError_34 : decode cX1_keepUnlessError 34 = .ok (.putfield 18, 3) := by decide +kernel
theorem dX1_keepUnlessError_37 : decode cX1_keepUnlessError 37 = .ok (.iload_n 1, 1) := by decide +kernel
theorem dX1_keepUnlessError_38 : decode cX1_keepUnlessError 38 = .ok (.ireturn, 1) := by decide +kernel
theorem dX2_init_0 : decode cX2_init 0 = .ok (.aload_n 0, 1) := by decide +kernel
theorem dX2_init_1 : decode cX2_init 1 = .ok (.invokespecial 3, 3) := by decide +kernel
theorem dX2_init_4 : decode cX2_init 4 = .ok (.aload_n 0, 1) := by decide +kernel
theorem dX2_init_5 : decode cX2_init 5 = .ok (.bipush 80, 2) := by decide +kernel
theorem dX2_init_7 : decode cX2_init 7 = .ok (.newarray .char, 2) := by decide +kernel
theorem dX2_init_9 : decode cX2_init 9 = .ok (.putfield 11, 3) := by decide +kernel
theorem dX2_init_12 : decode cX2_init 12 = .ok (.aload_n 0, 1) := by decide +kernel
theorem dX2_init_13 : decode cX2_init 13 = .ok (.iconst 0, 1) := by decide +kernel
theorem dX2_init_14 : decode cX2_init 14 = .ok (.putfield 15, 3) := by decide +kernel
theorem dX2_init_17 : decode cX2_init 17 = .ok (.aload_n 0, 1) := by decide +kernel
theorem dX2_init_18 : decode cX2_init 18 = .ok (.iconst 4, 1) := by decide +kernel
theorem dX2_init_19 : decode cX2_init 19 = .ok (.newarray .int, 2) := by decide +kernel
theorem dX2_init_21 : decode cX2_init 21 = .ok (.putfield 19, 3) := by decide +kernel
theorem dX2_init_24 : decode cX2_init 24 = .ok (.aload_n 0, 1) := by decide +kernel
theorem dX2_init_25 : decode cX2_init 25 = .ok (.iconst 0, 1) := by decide +kernel
theorem dX2_init_26 : decode cX2_init 26 = .ok (.putfield 23, 3) := by decide +kernel
theorem dX2_init_29 : decode cX2_init 29 = .ok (.aload_n 0, 1) := by decide +kernel
theorem dX2_init_30 : decode cX2_init 30 = .ok (.iconst 0, 1) := by decide +kernel
theorem dX2_init_31 : decode cX2_init 31 = .ok (.putfield 26, 3) := by decide +kernel
theorem dX2_init_34 : decode cX2_init 34 = .ok (.aload_n 0, 1) := by decide +kernel
theorem dX2_init_35 : decode cX2_init 35 = .ok (.iconst 0, 1) := by decide +kernel
theorem dX2_init_36 : decode cX2_init 36 = .ok (.putfield 29, 3) := by decide +kernel
theorem dX2_init_39 : decode cX2_init 39 = .ok (.aload_n 0, 1) := by decide +kernel
theorem dX2_init_40 : decode cX2_init 40 = .ok (.iconst 0, 1) := by decide +kernel
theorem dX2_init_41 : decode cX2_init 41 = .ok (.putfield 32, 3) := by decide +kernel
theorem dX2_init_44 : decode cX2_init 44 = .ok (.return_, 1) := by decide +kernel
theorem dX2_size_0 : decode cX2_size 0 = .ok (.aload_n 0, 1) := by decide +kernel
theorem dX2_size_1 : decode cX2_size 1 = .ok (.getfield 15, 3) := by decide +kernel
theorem dX2_size_4 : decode cX2_size 4 = .ok (.ireturn, 1) := by decide +kernel
theorem dX3_init_0 : decode cX3_init 0 = .ok (.aload_n 0, 1) := by decide +kernel
theorem dX3_init_1 : decode cX3_init 1 = .ok (.invokespecial 3, 3) := by decide +kernel
theorem dX3_init_4 : decode cX3_init 4 = .ok (.aload_n 0, 1) := by decide +kernel
theorem dX3_init_5 : decode cX3_init 5 = .ok (.aload_n 1, 1) := by decide +kernel
theorem dX3_init_6 : decode cX3_init 6 = .ok (.putfield 9, 3) := by decide +kernel
theorem dX3_init_9 : decode cX3_init 9 = .ok (.aload_n 0, 1) := by decide +kernel
theorem dX3_init_10 : decode cX3_init 10 = .ok (.iload_n 2, 1) := by decide +kernel
theorem dX3_init_11 : decode cX3_init 11 = .ok (.putfield 15, 3) := by decide +kernel
theorem dX3_init_14 : decode cX3_init 14 = .ok (.aload_n 0, 1) := by decide +kernel
theorem dX3_init_15 : decode cX3_init 15 = .ok (.iload_n 3, 1) := by decide +kernel
theorem dX3_init_16 : decode cX3_init 16 = .ok (.putfield 19, 3) := by decide +kernel
theorem dX3_init_19 : decode cX3_init 19 = .ok (.aload_n 0, 1) := by decide +kernel
theorem dX3_init_20 : decode cX3_init 20 = .ok (.iload 4, 2) := by decide +kernel
theorem dX3_init_22 : decode cX3_init 22 = .ok (.putfield 22, 3) := by decide +kernel
theorem dX3_init_25 : decode cX3_init 25 = .ok (.return_, 1) := by decide +kernel
theorem dX3_size_0 : decode cX3_size 0 = .ok (.aload_n 0, 1) := by decide +kernel
theorem dX3_size_1 : decode cX3_size 1 = .ok (.getfield 9, 3) := by decide +kernel
theorem dX3_size_4 : decode cX3_size 4 = .ok (.aload_n 0, 1) := by decide +kernel
theorem dX3_size_5 : decode cX3_size 5 = .ok (.getfield 15, 3) := by decide +kernel
theorem dX3_size_8 : decode cX3_size 8 = .ok (.iaload, 1) := by decide +kernel
theorem dX3_size_9 : decode cX3_size 9 = .ok (.ireturn, 1) := by decide +kernel
theorem dX3_has_0 : decode cX3_has 0 = .ok (.iload_n 1, 1) := by decide +kernel
theorem dX3_has_1 : decode cX3_has 1 = .ok (.ifCond .lt 20, 3) := by decide +kernel
theorem dX3_has_4 : decode cX3_has 4 = .ok (.iload_n 1, 1) := by decide +kernel
theorem dX3_has_5 : decode cX3_has 5 = .ok (.aload_n 0, 1) := by decide +kernel
theorem dX3_has_6 : decode cX3_has 6 = .ok (.getfield 9, 3) := by decide +kernel
theorem dX3_has_9 : decode cX3_has 9 = .ok (.aload_n 0, 1) := by decide +kernel
theorem dX3_has_10 : decode cX3_has 10 = .ok (.getfield 15, 3) := by decide +kernel
theorem dX3_has_13 : decode cX3_has 13 = .ok (.iaload, 1) := by decide +kernel
theorem dX3_has_14 : decode cX3_has 14 = .ok (.if_icmp .ge 7, 3) := by decide +kernel
theorem dX3_has_17 : decode cX3_has 17 = .ok (.iconst 1, 1) := by decide +kernel
theorem dX3_has_18 : decode cX3_has 18 = .ok (.goto 4, 3) := by decide +kernel
theorem dX3_has_21 : decode cX3_has 21 = .ok (.iconst 0, 1) := by decide +kernel
theorem dX3_has_22 : decode cX3_has 22 = .ok (.ireturn, 1) := by decide +kernel
theorem dX3_isFull_0 : decode cX3_isFull 0 = .ok (.aload_n 0, 1) := by decide +kernel
theorem dX3_isFull_1 : decode cX3_isFull 1 = .ok (.getfield 9, 3) := by decide +kernel
theorem dX3_isFull_4 : decode cX3_isFull 4 = .ok (.aload_n 0, 1) := by decide +kernel
theorem dX3_isFull_5 : decode cX3_isFull 5 = .ok (.getfield 15, 3) := by decide +kernel
theorem dX3_isFull_8 : decode cX3_isFull 8 = .ok (.iaload, 1) := by decide +kernel
theorem dX3_isFull_9 : decode cX3_isFull 9 = .ok (.aload_n 0, 1) := by decide +kernel
theorem dX3_isFull_10 : decode cX3_isFull 10 = .ok (.getfield 19, 3) := by decide +kernel
theorem dX3_isFull_13 : decode cX3_isFull 13 = .ok (.if_icmp .lt 7, 3) := by decide +kernel
theorem dX3_isFull_16 : decode cX3_isFull 16 = .ok (.iconst 1, 1) := by decide +kernel
theorem dX3_isFull_17 : decode cX3_isFull 17 = .ok (.goto 4, 3) := by decide +kernel
theorem dX3_isFull_20 : decode cX3_isFull 20 = .ok (.iconst 0, 1) := by decide +kernel
theorem dX3_isFull_21 : decode cX3_isFull 21 = .ok (.ireturn, 1) := by decide +kernel
theorem dX3_addRow_0 : decode cX3_addRow 0 = .ok (.aload_n 0, 1) := by decide +kernel
theorem dX3_addRow_1 : decode cX3_addRow 1 = .ok (.getfield 9, 3) := by decide +kernel
theorem dX3_addRow_4 : decode cX3_addRow 4 = .ok (.aload_n 0, 1) := by decide +kernel
theorem dX3_addRow_5 : decode cX3_addRow 5 = .ok (.getfield 15, 3) := by decide +kernel
theorem dX3_addRow_8 : decode cX3_addRow 8 = .ok (.iaload, 1) := by decide +kernel
theorem dX3_addRow_9 : decode cX3_addRow 9 = .ok (.istore_n 1, 1) := by decide +kernel
theorem dX3_addRow_10 : decode cX3_addRow 10 = .ok (.iload_n 1, 1) := by decide +kernel
theorem dX3_addRow_11 : decode cX3_addRow 11 = .ok (.aload_n 0, 1) := by decide +kernel
theorem dX3_addRow_12 : decode cX3_addRow 12 = .ok (.getfield 19, 3) := by decide +kernel
theorem dX3_addRow_15 : decode cX3_addRow 15 = .ok (.if_icmp .lt 5, 3) := by decide +kernel
theorem dX3_addRow_18 : decode cX3_addRow 18 = .ok (.iconst (-1), 1) := by decide +kernel
theorem dX3_addRow_19 : decode cX3_addRow 19 = .ok (.ireturn, 1) := by decide +kernel
theorem dX3_addRow_20 : decode cX3_addRow 20 = .ok (.aload_n 0, 1) := by decide +kernel
theorem dX3_addRow_21 : decode cX3_addRow 21 = .ok (.getfield 9, 3) := by decide +kernel
theorem dX3_addRow_24 : decode cX3_addRow 24 = .ok (.aload_n 0, 1) := by decide +kernel
theorem dX3_addRow_25 : decode cX3_addRow 25 = .ok (.getfield 15, 3) := by decide +kernel
theorem dX3_addRow_28 : decode cX3_addRow 28 = .ok (.iload_n 1, 1) := by decide +kernel
theorem dX3_addRow_29 : decode cX3_addRow 29 = .ok (.iconst 1, 1) := by decide +kernel
theorem dX3_addRow_30 : decode cX3_addRow 30 = .ok (.iadd, 1) := by decide +kernel
theorem dX3_addRow_31 : decode cX3_addRow 31 = .ok (.iastore, 1) := by decide +kernel
theorem dX3_addRow_32 : decode cX3_addRow 32 = .ok (.iload_n 1, 1) := by decide +kernel
theorem dX3_addRow_33 : decode cX3_addRow 33 = .ok (.ireturn, 1) := by decide +kernel
theorem dX3_at_0 : decode cX3_at 0 = .ok (.iload_n 1, 1) := by decide +kernel
theorem dX3_at_1 : decode cX3_at 1 = .ok (.ifCond .lt 23, 3) := by decide +kernel
theorem dX3_at_4 : decode cX3_at 4 = .ok (.iload_n 1, 1) := by decide +kernel
theorem dX3_at_5 : decode cX3_at 5 = .ok (.aload_n 0, 1) := by decide +kernel
theorem dX3_at_6 : decode cX3_at 6 = .ok (.getfield 19, 3) := by decide +kernel
theorem dX3_at_9 : decode cX3_at 9 = .ok (.if_icmp .ge 15, 3) := by decide +kernel
theorem dX3_at_12 : decode cX3_at 12 = .ok (.iload_n 2, 1) := by decide +kernel
theorem dX3_at_13 : decode cX3_at 13 = .ok (.ifCond .lt 11, 3) := by decide +kernel
theorem dX3_at_16 : decode cX3_at 16 = .ok (.iload_n 2, 1) := by decide +kernel
theorem dX3_at_17 : decode cX3_at 17 = .ok (.aload_n 0, 1) := by decide +kernel
theorem dX3_at_18 : decode cX3_at 18 = .ok (.getfield 22, 3) := by decide +kernel
theorem dX3_at_21 : decode cX3_at 21 = .ok (.if_icmp .lt 5, 3) := by decide +kernel
theorem dX3_at_24 : decode cX3_at 24 = .ok (.iconst 0, 1) := by decide +kernel
theorem dX3_at_25 : decode cX3_at 25 = .ok (.ireturn, 1) := by decide +kernel
theorem dX3_at_26 : decode cX3_at 26 = .ok (.aload_n 0, 1) := by decide +kernel
theorem dX3_at_27 : decode cX3_at 27 = .ok (.getfield 9, 3) := by decide +kernel
theorem dX3_at_30 : decode cX3_at 30 = .ok (.aload_n 0, 1) := by decide +kernel
theorem dX3_at_31 : decode cX3_at 31 = .ok (.getfield 15, 3) := by decide +kernel
theorem dX3_at_34 : decode cX3_at 34 = .ok (.iconst 1, 1) := by decide +kernel
theorem dX3_at_35 : decode cX3_at 35 = .ok (.iadd, 1) := by decide +kernel
theorem dX3_at_36 : decode cX3_at 36 = .ok (.iload_n 1, 1) := by decide +kernel
theorem dX3_at_37 : decode cX3_at 37 = .ok (.aload_n 0, 1) := by decide +kernel
theorem dX3_at_38 : decode cX3_at 38 = .ok (.getfield 22, 3) := by decide +kernel
theorem dX3_at_41 : decode cX3_at 41 = .ok (.imul, 1) := by decide +kernel
theorem dX3_at_42 : decode cX3_at 42 = .ok (.iadd, 1) := by decide +kernel
theorem dX3_at_43 : decode cX3_at 43 = .ok (.iload_n 2, 1) := by decide +kernel
theorem dX3_at_44 : decode cX3_at 44 = .ok (.iadd, 1) := by decide +kernel
theorem dX3_at_45 : decode cX3_at 45 = .ok (.iaload, 1) := by decide +kernel
theorem dX3_at_46 : decode cX3_at 46 = .ok (.ireturn, 1) := by decide +kernel
theorem dX3_put_0 : decode cX3_put 0 = .ok (.iload_n 1, 1) := by decide +kernel
theorem dX3_put_1 : decode cX3_put 1 = .ok (.ifCond .lt 44, 3) := by decide +kernel
theorem dX3_put_4 : decode cX3_put 4 = .ok (.iload_n 1, 1) := by decide +kernel
theorem dX3_put_5 : decode cX3_put 5 = .ok (.aload_n 0, 1) := by decide +kernel
theorem dX3_put_6 : decode cX3_put 6 = .ok (.getfield 19, 3) := by decide +kernel
theorem dX3_put_9 : decode cX3_put 9 = .ok (.if_icmp .ge 36, 3) := by decide +kernel
theorem dX3_put_12 : decode cX3_put 12 = .ok (.iload_n 2, 1) := by decide +kernel
theorem dX3_put_13 : decode cX3_put 13 = .ok (.ifCond .lt 32, 3) := by decide +kernel
theorem dX3_put_16 : decode cX3_put 16 = .ok (.iload_n 2, 1) := by decide +kernel
theorem dX3_put_17 : decode cX3_put 17 = .ok (.aload_n 0, 1) := by decide +kernel
theorem dX3_put_18 : decode cX3_put 18 = .ok (.getfield 22, 3) := by decide +kernel
theorem dX3_put_21 : decode cX3_put 21 = .ok (.if_icmp .ge 24, 3) := by decide +kernel
theorem dX3_put_24 : decode cX3_put 24 = .ok (.aload_n 0, 1) := by decide +kernel
theorem dX3_put_25 : decode cX3_put 25 = .ok (.getfield 9, 3) := by decide +kernel
theorem dX3_put_28 : decode cX3_put 28 = .ok (.aload_n 0, 1) := by decide +kernel
theorem dX3_put_29 : decode cX3_put 29 = .ok (.getfield 15, 3) := by decide +kernel
theorem dX3_put_32 : decode cX3_put 32 = .ok (.iconst 1, 1) := by decide +kernel
theorem dX3_put_33 : decode cX3_put 33 = .ok (.iadd, 1) := by decide +kernel
theorem dX3_put_34 : decode cX3_put 34 = .ok (.iload_n 1, 1) := by decide +kernel
theorem dX3_put_35 : decode cX3_put 35 = .ok (.aload_n 0, 1) := by decide +kernel
theorem dX3_put_36 : decode cX3_put 36 = .ok (.getfield 22, 3) := by decide +kernel
theorem dX3_put_39 : decode cX3_put 39 = .ok (.imul, 1) := by decide +kernel
theorem dX3_put_40 : decode cX3_put 40 = .ok (.iadd, 1) := by decide +kernel
theorem dX3_put_41 : decode cX3_put 41 = .ok (.iload_n 2, 1) := by decide +kernel
theorem dX3_put_42 : decode cX3_put 42 = .ok (.iadd, 1) := by decide +kernel
theorem dX3_put_43 : decode cX3_put 43 = .ok (.iload_n 3, 1) := by decide +kernel
theorem dX3_put_44 : decode cX3_put 44 = .ok (.iastore, 1) := by decide +kernel
theorem dX3_put_45 : decode cX3_put 45 = .ok (.return_, 1) := by decide +kernel
theorem dX3_add_0 : decode cX3_add 0 = .ok (.iload_n 1, 1) := by decide +kernel
theorem dX3_add_1 : decode cX3_add 1 = .ok (.ifCond .lt 47, 3) := by decide +kernel
theorem dX3_add_4 : decode cX3_add 4 = .ok (.iload_n 1, 1) := by decide +kernel
theorem dX3_add_5 : decode cX3_add 5 = .ok (.aload_n 0, 1) := by decide +kernel
theorem dX3_add_6 : decode cX3_add 6 = .ok (.getfield 19, 3) := by decide +kernel
theorem dX3_add_9 : decode cX3_add 9 = .ok (.if_icmp .ge 39, 3) := by decide +kernel
theorem dX3_add_12 : decode cX3_add 12 = .ok (.iload_n 2, 1) := by decide +kernel
theorem dX3_add_13 : decode cX3_add 13 = .ok (.ifCond .lt 35, 3) := by decide +kernel
theorem dX3_add_16 : decode cX3_add 16 = .ok (.iload_n 2, 1) := by decide +kernel
theorem dX3_add_17 : decode cX3_add 17 = .ok (.aload_n 0, 1) := by decide +kernel
theorem dX3_add_18 : decode cX3_add 18 = .ok (.getfield 22, 3) := by decide +kernel
theorem dX3_add_21 : decode cX3_add 21 = .ok (.if_icmp .ge 27, 3) := by decide +kernel
theorem dX3_add_24 : decode cX3_add 24 = .ok (.aload_n 0, 1) := by decide +kernel
theorem dX3_add_25 : decode cX3_add 25 = .ok (.getfield 9, 3) := by decide +kernel
theorem dX3_add_28 : decode cX3_add 28 = .ok (.aload_n 0, 1) := by decide +kernel
theorem dX3_add_29 : decode cX3_add 29 = .ok (.getfield 15, 3) := by decide +kernel
theorem dX3_add_32 : decode cX3_add 32 = .ok (.iconst 1, 1) := by decide +kernel
theorem dX3_add_33 : decode cX3_add 33 = .ok (.iadd, 1) := by decide +kernel
theorem dX3_add_34 : decode cX3_add 34 = .ok (.iload_n 1, 1) := by decide +kernel
theorem dX3_add_35 : decode cX3_add 35 = .ok (.aload_n 0, 1) := by decide +kernel
theorem dX3_add_36 : decode cX3_add 36 = .ok (.getfield 22, 3) := by decide +kernel
theorem dX3_add_39 : decode cX3_add 39 = .ok (.imul, 1) := by decide +kernel
theorem dX3_add_40 : decode cX3_add 40 = .ok (.iadd, 1) := by decide +kernel
theorem dX3_add_41 : decode cX3_add 41 = .ok (.iload_n 2, 1) := by decide +kernel
theorem dX3_add_42 : decode cX3_add 42 = .ok (.iadd, 1) := by decide +kernel
theorem dX3_add_43 : decode cX3_add 43 = .ok (.dup2, 1) := by decide +kernel
theorem dX3_add_44 : decode cX3_add 44 = .ok (.iaload, 1) := by decide +kernel
theorem dX3_add_45 : decode cX3_add 45 = .ok (.iload_n 3, 1) := by decide +kernel
theorem dX3_add_46 : decode cX3_add 46 = .ok (.iadd, 1) := by decide +kernel
theorem dX3_add_47 : decode cX3_add 47 = .ok (.iastore, 1) := by decide +kernel
theorem dX3_add_48 : decode cX3_add 48 = .ok (.return_, 1) := by decide +kernel
theorem dX3_sumOf_0 : decode cX3_sumOf 0 = .ok (.iconst 0, 1) := by decide +kernel
theorem dX3_sumOf_1 : decode cX3_sumOf 1 = .ok (.istore_n 2, 1) := by decide +kernel
theorem dX3_sumOf_2 : decode cX3_sumOf 2 = .ok (.iconst 0, 1) := by decide +kernel
theorem dX3_sumOf_3 : decode cX3_sumOf 3 = .ok (.istore_n 3, 1) := by decide +kernel
theorem dX3_sumOf_4 : decode cX3_sumOf 4 = .ok (.iload_n 3, 1) := by decide +kernel
theorem dX3_sumOf_5 : decode cX3_sumOf 5 = .ok (.aload_n 0, 1) := by decide +kernel
theorem dX3_sumOf_6 : decode cX3_sumOf 6 = .ok (.getfield 9, 3) := by decide +kernel
theorem dX3_sumOf_9 : decode cX3_sumOf 9 = .ok (.aload_n 0, 1) := by decide +kernel
theorem dX3_sumOf_10 : decode cX3_sumOf 10 = .ok (.getfield 15, 3) := by decide +kernel
theorem dX3_sumOf_13 : decode cX3_sumOf 13 = .ok (.iaload, 1) := by decide +kernel
theorem dX3_sumOf_14 : decode cX3_sumOf 14 = .ok (.if_icmp .ge 18, 3) := by decide +kernel
theorem dX3_sumOf_17 : decode cX3_sumOf 17 = .ok (.iload_n 2, 1) := by decide +kernel
theorem dX3_sumOf_18 : decode cX3_sumOf 18 = .ok (.aload_n 0, 1) := by decide +kernel
theorem dX3_sumOf_19 : decode cX3_sumOf 19 = .ok (.iload_n 3, 1) := by decide +kernel
theorem dX3_sumOf_20 : decode cX3_sumOf 20 = .ok (.iload_n 1, 1) := by decide +kernel
theorem dX3_sumOf_21 : decode cX3_sumOf 21 = .ok (.invokevirtual 25, 3) := by decide +kernel
theorem dX3_sumOf_24 : decode cX3_sumOf 24 = .ok (.iadd, 1) := by decide +kernel
theorem dX3_sumOf_25 : decode cX3_sumOf 25 = .ok (.istore_n 2, 1) := by decide +kernel
theorem dX3_sumOf_26 : decode cX3_sumOf 26 = .ok (.iinc 3 1, 3) := by decide +kernel
theorem dX3_sumOf_29 : decode cX3_sumOf 29 = .ok (.goto (-25), 3) := by decide +kernel
theorem dX3_sumOf_32 : decode cX3_sumOf 32 = .ok (.iload_n 2, 1) := by decide +kernel
theorem dX3_sumOf_33 : decode cX3_sumOf 33 = .ok (.ireturn, 1) := by decide +kernel
theorem dX4_init_0 : decode cX4_init 0 = .ok (.aload_n 0, 1) := by decide +kernel
theorem dX4_init_1 : decode cX4_init 1 = .ok (.invokespecial 1, 3) := by decide +kernel
theorem dX4_init_4 : decode cX4_init 4 = .ok (.aload_n 0, 1) := by decide +kernel
theorem dX4_init_5 : decode cX4_init 5 = .ok (.new 7, 3) := by decide +kernel
theorem dX4_init_8 : decode cX4_init 8 = .ok (.dup, 1) := by decide +kernel
theorem dX4_init_9 : decode cX4_init 9 = .ok (.sipush 351, 3) := by decide +kernel
theorem dX4_init_12 : decode cX4_init 12 = .ok (.newarray .int, 2) := by decide +kernel
theorem dX4_init_14 : decode cX4_init 14 = .ok (.invokespecial 9, 3) := by decide +kernel
theorem dX4_init_17 : decode cX4_init 17 = .ok (.putfield 12, 3) := by decide +kernel
theorem dX4_init_20 : decode cX4_init 20 = .ok (.aload_n 0, 1) := by decide +kernel
theorem dX4_init_21 : decode cX4_init 21 = .ok (.new 7, 3) := by decide +kernel
theorem dX4_init_24 : decode cX4_init 24 = .ok (.dup, 1) := by decide +kernel
theorem dX4_init_25 : decode cX4_init 25 = .ok (.sipush 351, 3) := by decide +kernel
theorem dX4_init_28 : decode cX4_init 28 = .ok (.newarray .int, 2) := by decide +kernel
theorem dX4_init_30 : decode cX4_init 30 = .ok (.invokespecial 9, 3) := by decide +kernel
theorem dX4_init_33 : decode cX4_init 33 = .ok (.putfield 18, 3) := by decide +kernel
theorem dX4_init_36 : decode cX4_init 36 = .ok (.aload_n 0, 1) := by decide +kernel
theorem dX4_init_37 : decode cX4_init 37 = .ok (.new 21, 3) := by decide +kernel
theorem dX4_init_40 : decode cX4_init 40 = .ok (.dup, 1) := by decide +kernel
theorem dX4_init_41 : decode cX4_init 41 = .ok (.invokespecial 23, 3) := by decide +kernel
theorem dX4_init_44 : decode cX4_init 44 = .ok (.putfield 24, 3) := by decide +kernel
theorem dX4_init_47 : decode cX4_init 47 = .ok (.aload_n 0, 1) := by decide +kernel
theorem dX4_init_48 : decode cX4_init 48 = .ok (.new 28, 3) := by decide +kernel
theorem dX4_init_51 : decode cX4_init 51 = .ok (.dup, 1) := by decide +kernel
theorem dX4_init_52 : decode cX4_init 52 = .ok (.invokespecial 30, 3) := by decide +kernel
theorem dX4_init_55 : decode cX4_init 55 = .ok (.putfield 31, 3) := by decide +kernel
theorem dX4_init_58 : decode cX4_init 58 = .ok (.return_, 1) := by decide +kernel
theorem dX4_purpose_0 : decode cX4_purpose 0 = .ok (.aload_n 0, 1) := by decide +kernel
theorem dX4_purpose_1 : decode cX4_purpose 1 = .ok (.getfield 24, 3) := by decide +kernel
theorem dX4_purpose_4 : decode cX4_purpose 4 = .ok (.aload_n 0, 1) := by decide +kernel
theorem dX4_purpose_5 : decode cX4_purpose 5 = .ok (.getfield 12, 3) := by decide +kernel
theorem dX4_purpose_8 : decode cX4_purpose 8 = .ok (.invokevirtual 35, 3) := by decide +kernel
theorem dX4_purpose_11 : decode cX4_purpose 11 = .ok (.aload_n 0, 1) := by decide +kernel
theorem dX4_purpose_12 : decode cX4_purpose 12 = .ok (.getfield 24, 3) := by decide +kernel
theorem dX4_purpose_15 : decode cX4_purpose 15 = .ok (.aload_n 0, 1) := by decide +kernel
theorem dX4_purpose_16 : decode cX4_purpose 16 = .ok (.getfield 12, 3) := by decide +kernel
theorem dX4_purpose_19 : decode cX4_purpose 19 = .ok (.invokevirtual 39, 3) := by decide +kernel
theorem dX4_purpose_22 : decode cX4_purpose 22 = .ok (.invokevirtual 43, 3) := by decide +kernel
theorem dX4_purpose_25 : decode cX4_purpose 25 = .ok (.ireturn, 1) := by decide +kernel
theorem dX4_donor_0 : decode cX4_donor 0 = .ok (.aload_n 0, 1) := by decide +kernel
theorem dX4_donor_1 : decode cX4_donor 1 = .ok (.getfield 24, 3) := by decide +kernel
theorem dX4_donor_4 : decode cX4_donor 4 = .ok (.aload_n 0, 1) := by decide +kernel
theorem dX4_donor_5 : decode cX4_donor 5 = .ok (.getfield 12, 3) := by decide +kernel
theorem dX4_donor_8 : decode cX4_donor 8 = .ok (.invokevirtual 35, 3) := by decide +kernel
theorem dX4_donor_11 : decode cX4_donor 11 = .ok (.aload_n 0, 1) := by decide +kernel
theorem dX4_donor_12 : decode cX4_donor 12 = .ok (.getfield 24, 3) := by decide +kernel
theorem dX4_donor_15 : decode cX4_donor 15 = .ok (.aload_n 0, 1) := by decide +kernel
theorem dX4_donor_16 : decode cX4_donor 16 = .ok (.getfield 12, 3) := by decide +kernel
theorem dX4_donor_19 : decode cX4_donor 19 = .ok (.invokevirtual 47, 3) := by decide +kernel
theorem dX4_donor_22 : decode cX4_donor 22 = .ok (.invokevirtual 43, 3) := by decide +kernel
theorem dX4_donor_25 : decode cX4_donor 25 = .ok (.ireturn, 1) := by decide +kernel
theorem dX4_declare_0 : decode cX4_declare 0 = .ok (.aload_n 0, 1) := by decide +kernel
theorem dX4_declare_1 : decode cX4_declare 1 = .ok (.getfield 24, 3) := by decide +kernel
theorem dX4_declare_4 : decode cX4_declare 4 = .ok (.aload_n 0, 1) := by decide +kernel
theorem dX4_declare_5 : decode cX4_declare 5 = .ok (.getfield 12, 3) := by decide +kernel
theorem dX4_declare_8 : decode cX4_declare 8 = .ok (.invokevirtual 35, 3) := by decide +kernel
theorem dX4_declare_11 : decode cX4_declare 11 = .ok (.aload_n 0, 1) := by decide +kernel
theorem dX4_declare_12 : decode cX4_declare 12 = .ok (.getfield 24, 3) := by decide +kernel
theorem dX4_declare_15 : decode cX4_declare 15 = .ok (.aload_n 0, 1) := by decide +kernel
theorem dX4_declare_16 : decode cX4_declare 16 = .ok (.getfield 12, 3) := by decide +kernel
theorem dX4_declare_19 : decode cX4_declare 19 = .ok (.iload_n 1, 1) := by decide +kernel
theorem dX4_declare_20 : decode cX4_declare 20 = .ok (.iload_n 2, 1) := by decide +kernel
theorem dX4_declare_21 : decode cX4_declare 21 = .ok (.invokevirtual 50, 3) := by decide +kernel
theorem dX4_declare_24 : decode cX4_declare 24 = .ok (.invokevirtual 43, 3) := by decide +kernel
theorem dX4_declare_27 : decode cX4_declare 27 = .ok (.ireturn, 1) := by decide +kernel
theorem dX4_give_0 : decode cX4_give 0 = .ok (.aload_n 0, 1) := by decide +kernel
theorem dX4_give_1 : decode cX4_give 1 = .ok (.getfield 24, 3) := by decide +kernel
theorem dX4_give_4 : decode cX4_give 4 = .ok (.aload_n 0, 1) := by decide +kernel
theorem dX4_give_5 : decode cX4_give 5 = .ok (.getfield 12, 3) := by decide +kernel
theorem dX4_give_8 : decode cX4_give 8 = .ok (.invokevirtual 35, 3) := by decide +kernel
theorem dX4_give_11 : decode cX4_give 11 = .ok (.aload_n 0, 1) := by decide +kernel
theorem dX4_give_12 : decode cX4_give 12 = .ok (.getfield 24, 3) := by decide +kernel
theorem dX4_give_15 : decode cX4_give 15 = .ok (.aload_n 0, 1) := by decide +kernel
theorem dX4_give_16 : decode cX4_give 16 = .ok (.getfield 12, 3) := by decide +kernel
theorem dX4_give_19 : decode cX4_give 19 = .ok (.iload_n 1, 1) := by decide +kernel
theorem dX4_give_20 : decode cX4_give 20 = .ok (.iload_n 2, 1) := by decide +kernel
theorem dX4_give_21 : decode cX4_give 21 = .ok (.iload_n 3, 1) := by decide +kernel
theorem dX4_give_22 : decode cX4_give 22 = .ok (.invokevirtual 54, 3) := by decide +kernel
theorem dX4_give_25 : decode cX4_give 25 = .ok (.invokevirtual 43, 3) := by decide +kernel
theorem dX4_give_28 : decode cX4_give 28 = .ok (.ireturn, 1) := by decide +kernel
theorem dX4_pledge_0 : decode cX4_pledge 0 = .ok (.aload_n 0, 1) := by decide +kernel
theorem dX4_pledge_1 : decode cX4_pledge 1 = .ok (.getfield 24, 3) := by decide +kernel
theorem dX4_pledge_4 : decode cX4_pledge 4 = .ok (.aload_n 0, 1) := by decide +kernel
theorem dX4_pledge_5 : decode cX4_pledge 5 = .ok (.getfield 12, 3) := by decide +kernel
theorem dX4_pledge_8 : decode cX4_pledge 8 = .ok (.invokevirtual 35, 3) := by decide +kernel
theorem dX4_pledge_11 : decode cX4_pledge 11 = .ok (.aload_n 0, 1) := by decide +kernel
theorem dX4_pledge_12 : decode cX4_pledge 12 = .ok (.getfield 24, 3) := by decide +kernel
theorem dX4_pledge_15 : decode cX4_pledge 15 = .ok (.aload_n 0, 1) := by decide +kernel
theorem dX4_pledge_16 : decode cX4_pledge 16 = .ok (.getfield 12, 3) := by decide +kernel
theorem dX4_pledge_19 : decode cX4_pledge 19 = .ok (.iload_n 1, 1) := by decide +kernel
theorem dX4_pledge_20 : decode cX4_pledge 20 = .ok (.iload_n 2, 1) := by decide +kernel
theorem dX4_pledge_21 : decode cX4_pledge 21 = .ok (.iload_n 3, 1) := by decide +kernel
theorem dX4_pledge_22 : decode cX4_pledge 22 = .ok (.iload 4, 2) := by decide +kernel
theorem dX4_pledge_24 : decode cX4_pledge 24 = .ok (.invokevirtual 58, 3) := by decide +kernel
theorem dX4_pledge_27 : decode cX4_pledge 27 = .ok (.invokevirtual 43, 3) := by decide +kernel
theorem dX4_pledge_30 : decode cX4_pledge 30 = .ok (.ireturn, 1) := by decide +kernel
theorem dX4_miss_0 : decode cX4_miss 0 = .ok (.aload_n 0, 1) := by decide +kernel
theorem dX4_miss_1 : decode cX4_miss 1 = .ok (.getfield 24, 3) := by decide +kernel
theorem dX4_miss_4 : decode cX4_miss 4 = .ok (.aload_n 0, 1) := by decide +kernel
theorem dX4_miss_5 : decode cX4_miss 5 = .ok (.getfield 12, 3) := by decide +kernel
theorem dX4_miss_8 : decode cX4_miss 8 = .ok (.invokevirtual 35, 3) := by decide +kernel
theorem dX4_miss_11 : decode cX4_miss 11 = .ok (.aload_n 0, 1) := by decide +kernel
theorem dX4_miss_12 : decode cX4_miss 12 = .ok (.getfield 24, 3) := by decide +kernel
theorem dX4_miss_15 : decode cX4_miss 15 = .ok (.aload_n 0, 1) := by decide +kernel
theorem dX4_miss_16 : decode cX4_miss 16 = .ok (.getfield 12, 3) := by decide +kernel
theorem dX4_miss_19 : decode cX4_miss 19 = .ok (.iload_n 1, 1) := by decide +kernel
theorem dX4_miss_20 : decode cX4_miss 20 = .ok (.invokevirtual 62, 3) := by decide +kernel
theorem dX4_miss_23 : decode cX4_miss 23 = .ok (.invokevirtual 43, 3) := by decide +kernel
theorem dX4_miss_26 : decode cX4_miss 26 = .ok (.ireturn, 1) := by decide +kernel
theorem dX4_stop_0 : decode cX4_stop 0 = .ok (.aload_n 0, 1) := by decide +kernel
theorem dX4_stop_1 : decode cX4_stop 1 = .ok (.getfield 24, 3) := by decide +kernel
theorem dX4_stop_4 : decode cX4_stop 4 = .ok (.aload_n 0, 1) := by decide +kernel
theorem dX4_stop_5 : decode cX4_stop 5 = .ok (.getfield 12, 3) := by decide +kernel
theorem dX4_stop_8 : decode cX4_stop 8 = .ok (.invokevirtual 35, 3) := by decide +kernel
theorem dX4_stop_11 : decode cX4_stop 11 = .ok (.aload_n 0, 1) := by decide +kernel
theorem dX4_stop_12 : decode cX4_stop 12 = .ok (.getfield 24, 3) := by decide +kernel
theorem dX4_stop_15 : decode cX4_stop 15 = .ok (.aload_n 0, 1) := by decide +kernel
theorem dX4_stop_16 : decode cX4_stop 16 = .ok (.getfield 12, 3) := by decide +kernel
theorem dX4_stop_19 : decode cX4_stop 19 = .ok (.iload_n 1, 1) := by decide +kernel
theorem dX4_stop_20 : decode cX4_stop 20 = .ok (.invokevirtual 65, 3) := by decide +kernel
theorem dX4_stop_23 : decode cX4_stop 23 = .ok (.invokevirtual 43, 3) := by decide +kernel
theorem dX4_stop_26 : decode cX4_stop 26 = .ok (.ireturn, 1) := by decide +kernel
theorem dX4_claim_0 : decode cX4_claim 0 = .ok (.aload_n 0, 1) := by decide +kernel
theorem dX4_claim_1 : decode cX4_claim 1 = .ok (.getfield 24, 3) := by decide +kernel
theorem dX4_claim_4 : decode cX4_claim 4 = .ok (.aload_n 0, 1) := by decide +kernel
theorem dX4_claim_5 : decode cX4_claim 5 = .ok (.getfield 12, 3) := by decide +kernel
theorem dX4_claim_8 : decode cX4_claim 8 = .ok (.invokevirtual 35, 3) := by decide +kernel
theorem dX4_claim_11 : decode cX4_claim 11 = .ok (.aload_n 0, 1) := by decide +kernel
theorem dX4_claim_12 : decode cX4_claim 12 = .ok (.getfield 24, 3) := by decide +kernel
theorem dX4_claim_15 : decode cX4_claim 15 = .ok (.aload_n 0, 1) := by decide +kernel
theorem dX4_claim_16 : decode cX4_claim 16 = .ok (.getfield 12, 3) := by decide +kernel
theorem dX4_claim_19 : decode cX4_claim 19 = .ok (.iconst (-1), 1) := by decide +kernel
theorem dX4_claim_20 : decode cX4_claim 20 = .ok (.invokevirtual 68, 3) := by decide +kernel
theorem dX4_claim_23 : decode cX4_claim 23 = .ok (.invokevirtual 43, 3) := by decide +kernel
theorem dX4_claim_26 : decode cX4_claim 26 = .ok (.ireturn, 1) := by decide +kernel
theorem dX4_spend_0 : decode cX4_spend 0 = .ok (.aload_n 0, 1) := by decide +kernel
theorem dX4_spend_1 : decode cX4_spend 1 = .ok (.getfield 24, 3) := by decide +kernel
theorem dX4_spend_4 : decode cX4_spend 4 = .ok (.aload_n 0, 1) := by decide +kernel
theorem dX4_spend_5 : decode cX4_spend 5 = .ok (.getfield 12, 3) := by decide +kernel
theorem dX4_spend_8 : decode cX4_spend 8 = .ok (.invokevirtual 35, 3) := by decide +kernel
theorem dX4_spend_11 : decode cX4_spend 11 = .ok (.aload_n 0, 1) := by decide +kernel
theorem dX4_spend_12 : decode cX4_spend 12 = .ok (.getfield 24, 3) := by decide +kernel
theorem dX4_spend_15 : decode cX4_spend 15 = .ok (.aload_n 0, 1) := by decide +kernel
theorem dX4_spend_16 : decode cX4_spend 16 = .ok (.getfield 12, 3) := by decide +kernel
theorem dX4_spend_19 : decode cX4_spend 19 = .ok (.iload_n 1, 1) := by decide +kernel
theorem dX4_spend_20 : decode cX4_spend 20 = .ok (.iload_n 2, 1) := by decide +kernel
theorem dX4_spend_21 : decode cX4_spend 21 = .ok (.invokevirtual 71, 3) := by decide +kernel
theorem dX4_spend_24 : decode cX4_spend 24 = .ok (.invokevirtual 43, 3) := by decide +kernel
theorem dX4_spend_27 : decode cX4_spend 27 = .ok (.ireturn, 1) := by decide +kernel
theorem dX4_agree_0 : decode cX4_agree 0 = .ok (.aload_n 0, 1) := by decide +kernel
theorem dX4_agree_1 : decode cX4_agree 1 = .ok (.getfield 24, 3) := by decide +kernel
theorem dX4_agree_4 : decode cX4_agree 4 = .ok (.aload_n 0, 1) := by decide +kernel
theorem dX4_agree_5 : decode cX4_agree 5 = .ok (.getfield 12, 3) := by decide +kernel
theorem dX4_agree_8 : decode cX4_agree 8 = .ok (.invokevirtual 35, 3) := by decide +kernel
theorem dX4_agree_11 : decode cX4_agree 11 = .ok (.aload_n 0, 1) := by decide +kernel
theorem dX4_agree_12 : decode cX4_agree 12 = .ok (.getfield 24, 3) := by decide +kernel
theorem dX4_agree_15 : decode cX4_agree 15 = .ok (.aload_n 0, 1) := by decide +kernel
theorem dX4_agree_16 : decode cX4_agree 16 = .ok (.getfield 12, 3) := by decide +kernel
theorem dX4_agree_19 : decode cX4_agree 19 = .ok (.iload_n 1, 1) := by decide +kernel
theorem dX4_agree_20 : decode cX4_agree 20 = .ok (.iload_n 2, 1) := by decide +kernel
theorem dX4_agree_21 : decode cX4_agree 21 = .ok (.iload_n 3, 1) := by decide +kernel
theorem dX4_agree_22 : decode cX4_agree 22 = .ok (.invokevirtual 74, 3) := by decide +kernel
theorem dX4_agree_25 : decode cX4_agree 25 = .ok (.invokevirtual 43, 3) := by decide +kernel
theorem dX4_agree_28 : decode cX4_agree 28 = .ok (.ireturn, 1) := by decide +kernel
theorem dX4_merge_0 : decode cX4_merge 0 = .ok (.aload_n 0, 1) := by decide +kernel
theorem dX4_merge_1 : decode cX4_merge 1 = .ok (.getfield 24, 3) := by decide +kernel
theorem dX4_merge_4 : decode cX4_merge 4 = .ok (.aload_n 0, 1) := by decide +kernel
theorem dX4_merge_5 : decode cX4_merge 5 = .ok (.getfield 12, 3) := by decide +kernel
theorem dX4_merge_8 : decode cX4_merge 8 = .ok (.invokevirtual 35, 3) := by decide +kernel
theorem dX4_merge_11 : decode cX4_merge 11 = .ok (.aload_n 0, 1) := by decide +kernel
theorem dX4_merge_12 : decode cX4_merge 12 = .ok (.getfield 24, 3) := by decide +kernel
theorem dX4_merge_15 : decode cX4_merge 15 = .ok (.aload_n 0, 1) := by decide +kernel
theorem dX4_merge_16 : decode cX4_merge 16 = .ok (.getfield 12, 3) := by decide +kernel
theorem dX4_merge_19 : decode cX4_merge 19 = .ok (.iload_n 1, 1) := by decide +kernel
theorem dX4_merge_20 : decode cX4_merge 20 = .ok (.iload_n 2, 1) := by decide +kernel
theorem dX4_merge_21 : decode cX4_merge 21 = .ok (.invokevirtual 77, 3) := by decide +kernel
theorem dX4_merge_24 : decode cX4_merge 24 = .ok (.invokevirtual 43, 3) := by decide +kernel
theorem dX4_merge_27 : decode cX4_merge 27 = .ok (.ireturn, 1) := by decide +kernel
theorem dX4_refund_0 : decode cX4_refund 0 = .ok (.aload_n 0, 1) := by decide +kernel
theorem dX4_refund_1 : decode cX4_refund 1 = .ok (.getfield 24, 3) := by decide +kernel
theorem dX4_refund_4 : decode cX4_refund 4 = .ok (.aload_n 0, 1) := by decide +kernel
theorem dX4_refund_5 : decode cX4_refund 5 = .ok (.getfield 12, 3) := by decide +kernel
theorem dX4_refund_8 : decode cX4_refund 8 = .ok (.invokevirtual 35, 3) := by decide +kernel
theorem dX4_refund_11 : decode cX4_refund 11 = .ok (.aload_n 0, 1) := by decide +kernel
theorem dX4_refund_12 : decode cX4_refund 12 = .ok (.getfield 24, 3) := by decide +kernel
theorem dX4_refund_15 : decode cX4_refund 15 = .ok (.aload_n 0, 1) := by decide +kernel
theorem dX4_refund_16 : decode cX4_refund 16 = .ok (.getfield 12, 3) := by decide +kernel
theorem dX4_refund_19 : decode cX4_refund 19 = .ok (.iload_n 1, 1) := by decide +kernel
theorem dX4_refund_20 : decode cX4_refund 20 = .ok (.invokevirtual 80, 3) := by decide +kernel
theorem dX4_refund_23 : decode cX4_refund 23 = .ok (.invokevirtual 43, 3) := by decide +kernel
theorem dX4_refund_26 : decode cX4_refund 26 = .ok (.ireturn, 1) := by decide +kernel
theorem dX4_pass_0 : decode cX4_pass 0 = .ok (.aload_n 0, 1) := by decide +kernel
theorem dX4_pass_1 : decode cX4_pass 1 = .ok (.getfield 24, 3) := by decide +kernel
theorem dX4_pass_4 : decode cX4_pass 4 = .ok (.aload_n 0, 1) := by decide +kernel
theorem dX4_pass_5 : decode cX4_pass 5 = .ok (.getfield 12, 3) := by decide +kernel
theorem dX4_pass_8 : decode cX4_pass 8 = .ok (.invokevirtual 35, 3) := by decide +kernel
theorem dX4_pass_11 : decode cX4_pass 11 = .ok (.aload_n 0, 1) := by decide +kernel
theorem dX4_pass_12 : decode cX4_pass 12 = .ok (.getfield 24, 3) := by decide +kernel
theorem dX4_pass_15 : decode cX4_pass 15 = .ok (.aload_n 0, 1) := by decide +kernel
theorem dX4_pass_16 : decode cX4_pass 16 = .ok (.getfield 12, 3) := by decide +kernel
theorem dX4_pass_19 : decode cX4_pass 19 = .ok (.iload_n 1, 1) := by decide +kernel
theorem dX4_pass_20 : decode cX4_pass 20 = .ok (.sipush 999, 3) := by decide +kernel
theorem dX4_pass_23 : decode cX4_pass 23 = .ok (.invokevirtual 83, 3) := by decide +kernel
theorem dX4_pass_26 : decode cX4_pass 26 = .ok (.invokevirtual 43, 3) := by decide +kernel
theorem dX4_pass_29 : decode cX4_pass 29 = .ok (.ireturn, 1) := by decide +kernel
theorem dX4_set_0 : decode cX4_set 0 = .ok (.aload_n 0, 1) := by decide +kernel
theorem dX4_set_1 : decode cX4_set 1 = .ok (.getfield 24, 3) := by decide +kernel
theorem dX4_set_4 : decode cX4_set 4 = .ok (.aload_n 0, 1) := by decide +kernel
theorem dX4_set_5 : decode cX4_set 5 = .ok (.getfield 12, 3) := by decide +kernel
theorem dX4_set_8 : decode cX4_set 8 = .ok (.invokevirtual 35, 3) := by decide +kernel
theorem dX4_set_11 : decode cX4_set 11 = .ok (.aload_n 0, 1) := by decide +kernel
theorem dX4_set_12 : decode cX4_set 12 = .ok (.getfield 24, 3) := by decide +kernel
theorem dX4_set_15 : decode cX4_set 15 = .ok (.aload_n 0, 1) := by decide +kernel
theorem dX4_set_16 : decode cX4_set 16 = .ok (.getfield 12, 3) := by decide +kernel
theorem dX4_set_19 : decode cX4_set 19 = .ok (.iload_n 1, 1) := by decide +kernel
theorem dX4_set_20 : decode cX4_set 20 = .ok (.iload_n 2, 1) := by decide +kernel
theorem dX4_set_21 : decode cX4_set 21 = .ok (.invokevirtual 86, 3) := by decide +kernel
theorem dX4_set_24 : decode cX4_set 24 = .ok (.invokevirtual 43, 3) := by decide +kernel
theorem dX4_set_27 : decode cX4_set 27 = .ok (.ireturn, 1) := by decide +kernel
theorem dX4_purposeOf_0 : decode cX4_purposeOf 0 = .ok (.aload_n 0, 1) := by decide +kernel
theorem dX4_purposeOf_1 : decode cX4_purposeOf 1 = .ok (.getfield 12, 3) := by decide +kernel
theorem dX4_purposeOf_4 : decode cX4_purposeOf 4 = .ok (.iload_n 1, 1) := by decide +kernel
theorem dX4_purposeOf_5 : decode cX4_purposeOf 5 = .ok (.iload_n 2, 1) := by decide +kernel
theorem dX4_purposeOf_6 : decode cX4_purposeOf 6 = .ok (.invokevirtual 89, 3) := by decide +kernel
theorem dX4_purposeOf_9 : decode cX4_purposeOf 9 = .ok (.ireturn, 1) := by decide +kernel
theorem dX4_donorOf_0 : decode cX4_donorOf 0 = .ok (.aload_n 0, 1) := by decide +kernel
theorem dX4_donorOf_1 : decode cX4_donorOf 1 = .ok (.getfield 12, 3) := by decide +kernel
theorem dX4_donorOf_4 : decode cX4_donorOf 4 = .ok (.iload_n 1, 1) := by decide +kernel
theorem dX4_donorOf_5 : decode cX4_donorOf 5 = .ok (.iload_n 2, 1) := by decide +kernel
theorem dX4_donorOf_6 : decode cX4_donorOf 6 = .ok (.invokevirtual 92, 3) := by decide +kernel
theorem dX4_donorOf_9 : decode cX4_donorOf 9 = .ok (.ireturn, 1) := by decide +kernel
theorem dX4_giftOf_0 : decode cX4_giftOf 0 = .ok (.aload_n 0, 1) := by decide +kernel
theorem dX4_giftOf_1 : decode cX4_giftOf 1 = .ok (.getfield 12, 3) := by decide +kernel
theorem dX4_giftOf_4 : decode cX4_giftOf 4 = .ok (.iload_n 1, 1) := by decide +kernel
theorem dX4_giftOf_5 : decode cX4_giftOf 5 = .ok (.iload_n 2, 1) := by decide +kernel
theorem dX4_giftOf_6 : decode cX4_giftOf 6 = .ok (.invokevirtual 95, 3) := by decide +kernel
theorem dX4_giftOf_9 : decode cX4_giftOf 9 = .ok (.ireturn, 1) := by decide +kernel
theorem dX4_pledgeOf_0 : decode cX4_pledgeOf 0 = .ok (.aload_n 0, 1) := by decide +kernel
theorem dX4_pledgeOf_1 : decode cX4_pledgeOf 1 = .ok (.getfield 12, 3) := by decide +kernel
theorem dX4_pledgeOf_4 : decode cX4_pledgeOf 4 = .ok (.iload_n 1, 1) := by decide +kernel
theorem dX4_pledgeOf_5 : decode cX4_pledgeOf 5 = .ok (.iload_n 2, 1) := by decide +kernel
theorem dX4_pledgeOf_6 : decode cX4_pledgeOf 6 = .ok (.invokevirtual 98, 3) := by decide +kernel
theorem dX4_pledgeOf_9 : decode cX4_pledgeOf 9 = .ok (.ireturn, 1) := by decide +kernel
theorem dX4_count_0 : decode cX4_count 0 = .ok (.iload_n 1, 1) := by decide +kernel
theorem dX4_count_1 : decode cX4_count 1 = .ok (.lookupswitch 43 #[(11, 27), (12, 35)], 27) := by decide +kernel
theorem dX4_count_28 : decode cX4_count 28 = .ok (.aload_n 0, 1) := by decide +kernel
theorem dX4_count_29 : decode cX4_count 29 = .ok (.getfield 24, 3) := by decide +kernel
theorem dX4_count_32 : decode cX4_count 32 = .ok (.invokevirtual 101, 3) := by decide +kernel
theorem dX4_count_35 : decode cX4_count 35 = .ok (.ireturn, 1) := by decide +kernel
theorem dX4_count_36 : decode cX4_count 36 = .ok (.aload_n 0, 1) := by decide +kernel
theorem dX4_count_37 : decode cX4_count 37 = .ok (.getfield 31, 3) := by decide +kernel
theorem dX4_count_40 : decode cX4_count 40 = .ok (.invokevirtual 104, 3) := by decide +kernel
theorem dX4_count_43 : decode cX4_count 43 = .ok (.ireturn, 1) := by decide +kernel
theorem dX4_count_44 : decode cX4_count 44 = .ok (.aload_n 0, 1) := by decide +kernel
theorem dX4_count_45 : decode cX4_count 45 = .ok (.getfield 12, 3) := by decide +kernel
theorem dX4_count_48 : decode cX4_count 48 = .ok (.iload_n 1, 1) := by decide +kernel
theorem dX4_count_49 : decode cX4_count 49 = .ok (.invokevirtual 105, 3) := by decide +kernel
theorem dX4_count_52 : decode cX4_count 52 = .ok (.ireturn, 1) := by decide +kernel
theorem dX4_consents_0 : decode cX4_consents 0 = .ok (.aload_n 0, 1) := by decide +kernel
theorem dX4_consents_1 : decode cX4_consents 1 = .ok (.getfield 12, 3) := by decide +kernel
theorem dX4_consents_4 : decode cX4_consents 4 = .ok (.iload_n 1, 1) := by decide +kernel
theorem dX4_consents_5 : decode cX4_consents 5 = .ok (.iload_n 2, 1) := by decide +kernel
theorem dX4_consents_6 : decode cX4_consents 6 = .ok (.invokevirtual 120, 3) := by decide +kernel
theorem dX4_consents_9 : decode cX4_consents 9 = .ok (.ireturn, 1) := by decide +kernel
theorem dX4_within_0 : decode cX4_within 0 = .ok (.iload_n 0, 1) := by decide +kernel
theorem dX4_within_1 : decode cX4_within 1 = .ok (.iload_n 1, 1) := by decide +kernel
theorem dX4_within_2 : decode cX4_within 2 = .ok (.if_icmp .lt 12, 3) := by decide +kernel
theorem dX4_within_5 : decode cX4_within 5 = .ok (.iload_n 0, 1) := by decide +kernel
theorem dX4_within_6 : decode cX4_within 6 = .ok (.iload_n 2, 1) := by decide +kernel
theorem dX4_within_7 : decode cX4_within 7 = .ok (.if_icmp .gt 7, 3) := by decide +kernel
theorem dX4_within_10 : decode cX4_within 10 = .ok (.iconst 1, 1) := by decide +kernel
theorem dX4_within_11 : decode cX4_within 11 = .ok (.goto 4, 3) := by decide +kernel
theorem dX4_within_14 : decode cX4_within 14 = .ok (.iconst 0, 1) := by decide +kernel
theorem dX4_within_15 : decode cX4_within 15 = .ok (.ireturn, 1) := by decide +kernel
theorem dJ9_max_7cf53_0 : decode cJ9_max_7cf53 0 = .ok (.iload_n 0, 1) := by decide +kernel
theorem dJ9_max_7cf53_1 : decode cJ9_max_7cf53 1 = .ok (.iload_n 1, 1) := by decide +kernel
theorem dJ9_max_7cf53_2 : decode cJ9_max_7cf53 2 = .ok (.if_icmp .lt 7, 3) := by decide +kernel
theorem dJ9_max_7cf53_5 : decode cJ9_max_7cf53 5 = .ok (.iload_n 0, 1) := by decide +kernel
theorem dJ9_max_7cf53_6 : decode cJ9_max_7cf53 6 = .ok (.goto 4, 3) := by decide +kernel
theorem dJ9_max_7cf53_9 : decode cJ9_max_7cf53 9 = .ok (.iload_n 1, 1) := by decide +kernel
theorem dJ9_max_7cf53_10 : decode cJ9_max_7cf53 10 = .ok (.ireturn, 1) := by decide +kernel
theorem dL_cell_0 : decode cL_cell 0 = .ok (.iload_n 1, 1) := by decide +kernel
theorem dL_cell_1 : decode cL_cell 1 = .ok (.aload_n 0, 1) := by decide +kernel
theorem dL_cell_2 : decode cL_cell 2 = .ok (.arraylength, 1) := by decide +kernel
theorem dL_cell_3 : decode cL_cell 3 = .ok (.if_icmp .ge 9, 3) := by decide +kernel
theorem dL_cell_6 : decode cL_cell 6 = .ok (.aload_n 0, 1) := by decide +kernel
theorem dL_cell_7 : decode cL_cell 7 = .ok (.iload_n 1, 1) := by decide +kernel
theorem dL_cell_8 : decode cL_cell 8 = .ok (.iaload, 1) := by decide +kernel
theorem dL_cell_9 : decode cL_cell 9 = .ok (.goto 9, 3) := by decide +kernel
theorem dL_cell_12 : decode cL_cell 12 = .ok (.ldc 7, 2) := by decide +kernel
theorem dL_cell_14 : decode cL_cell 14 = .ok (.iload_n 1, 1) := by decide +kernel
theorem dL_cell_15 : decode cL_cell 15 = .ok (.iconst 3, 1) := by decide +kernel
theorem dL_cell_16 : decode cL_cell 16 = .ok (.iadd, 1) := by decide +kernel
theorem dL_cell_17 : decode cL_cell 17 = .ok (.imul, 1) := by decide +kernel
theorem dL_cell_18 : decode cL_cell 18 = .ok (.ireturn, 1) := by decide +kernel
theorem dL_low_0 : decode cL_low 0 = .ok (.iload_n 0, 1) := by decide +kernel
theorem dL_low_1 : decode cL_low 1 = .ok (.ldc 8, 2) := by decide +kernel
theorem dL_low_3 : decode cL_low 3 = .ok (.iand, 1) := by decide +kernel
theorem dL_low_4 : decode cL_low 4 = .ok (.iload_n 1, 1) := by decide +kernel
theorem dL_low_5 : decode cL_low 5 = .ok (.irem, 1) := by decide +kernel
theorem dL_low_6 : decode cL_low 6 = .ok (.ireturn, 1) := by decide +kernel
theorem dL_home_0 : decode cL_home 0 = .ok (.iload_n 1, 1) := by decide +kernel
theorem dL_home_1 : decode cL_home 1 = .ok (.istore_n 2, 1) := by decide +kernel
theorem dL_home_2 : decode cL_home 2 = .ok (.aload_n 0, 1) := by decide +kernel
theorem dL_home_3 : decode cL_home 3 = .ok (.bipush 10, 2) := by decide +kernel
theorem dL_home_5 : decode cL_home 5 = .ok (.iload_n 2, 1) := by decide +kernel
theorem dL_home_6 : decode cL_home 6 = .ok (.imul, 1) := by decide +kernel
theorem dL_home_7 : decode cL_home 7 = .ok (.bipush 9, 2) := by decide +kernel
theorem dL_home_9 : decode cL_home 9 = .ok (.iadd, 1) := by decide +kernel
theorem dL_home_10 : decode cL_home 10 = .ok (.iaload, 1) := by decide +kernel
theorem dL_home_11 : decode cL_home 11 = .ok (.ifCond .lt 16, 3) := by decide +kernel
theorem dL_home_14 : decode cL_home 14 = .ok (.aload_n 0, 1) := by decide +kernel
theorem dL_home_15 : decode cL_home 15 = .ok (.bipush 10, 2) := by decide +kernel
theorem dL_home_17 : decode cL_home 17 = .ok (.iload_n 2, 1) := by decide +kernel
theorem dL_home_18 : decode cL_home 18 = .ok (.imul, 1) := by decide +kernel
theorem dL_home_19 : decode cL_home 19 = .ok (.bipush 9, 2) := by decide +kernel
theorem dL_home_21 : decode cL_home 21 = .ok (.iadd, 1) := by decide +kernel
theorem dL_home_22 : decode cL_home 22 = .ok (.iaload, 1) := by decide +kernel
theorem dL_home_23 : decode cL_home 23 = .ok (.istore_n 2, 1) := by decide +kernel
theorem dL_home_24 : decode cL_home 24 = .ok (.goto (-22), 3) := by decide +kernel
theorem dL_home_27 : decode cL_home 27 = .ok (.iload_n 2, 1) := by decide +kernel
theorem dL_home_28 : decode cL_home 28 = .ok (.ireturn, 1) := by decide +kernel
theorem dL_gift_0 : decode cL_gift 0 = .ok (.iconst 2, 1) := by decide +kernel
theorem dL_gift_1 : decode cL_gift 1 = .ok (.aload_n 0, 1) := by decide +kernel
theorem dL_gift_2 : decode cL_gift 2 = .ok (.iconst 4, 1) := by decide +kernel
theorem dL_gift_3 : decode cL_gift 3 = .ok (.iaload, 1) := by decide +kernel
theorem dL_gift_4 : decode cL_gift 4 = .ok (.imul, 1) := by decide +kernel
theorem dL_gift_5 : decode cL_gift 5 = .ok (.istore 9, 2) := by decide +kernel
theorem dL_gift_7 : decode cL_gift 7 = .ok (.aload_n 2, 1) := by decide +kernel
theorem dL_gift_8 : decode cL_gift 8 = .ok (.iload 9, 2) := by decide +kernel
theorem dL_gift_10 : decode cL_gift 10 = .ok (.iload 5, 2) := by decide +kernel
theorem dL_gift_12 : decode cL_gift 12 = .ok (.iastore, 1) := by decide +kernel
theorem dL_gift_13 : decode cL_gift 13 = .ok (.aload_n 2, 1) := by decide +kernel
theorem dL_gift_14 : decode cL_gift 14 = .ok (.iload 9, 2) := by decide +kernel
theorem dL_gift_16 : decode cL_gift 16 = .ok (.iconst 1, 1) := by decide +kernel
theorem dL_gift_17 : decode cL_gift 17 = .ok (.iadd, 1) := by decide +kernel
theorem dL_gift_18 : decode cL_gift 18 = .ok (.iload 6, 2) := by decide +kernel
theorem dL_gift_20 : decode cL_gift 20 = .ok (.iastore, 1) := by decide +kernel
theorem dL_gift_21 : decode cL_gift 21 = .ok (.aload_n 3, 1) := by decide +kernel
theorem dL_gift_22 : decode cL_gift 22 = .ok (.iload 9, 2) := by decide +kernel
theorem dL_gift_24 : decode cL_gift 24 = .ok (.iload 7, 2) := by decide +kernel
theorem dL_gift_26 : decode cL_gift 26 = .ok (.iastore, 1) := by decide +kernel
theorem dL_gift_27 : decode cL_gift 27 = .ok (.aload_n 3, 1) := by decide +kernel
theorem dL_gift_28 : decode cL_gift 28 = .ok (.iload 9, 2) := by decide +kernel
theorem dL_gift_30 : decode cL_gift 30 = .ok (.iconst 1, 1) := by decide +kernel
theorem dL_gift_31 : decode cL_gift 31 = .ok (.iadd, 1) := by decide +kernel
theorem dL_gift_32 : decode cL_gift 32 = .ok (.aload_n 0, 1) := by decide +kernel
theorem dL_gift_33 : decode cL_gift 33 = .ok (.bipush 6, 2) := by decide +kernel
theorem dL_gift_35 : decode cL_gift 35 = .ok (.iaload, 1) := by decide +kernel
theorem dL_gift_36 : decode cL_gift 36 = .ok (.iastore, 1) := by decide +kernel
theorem dL_gift_37 : decode cL_gift 37 = .ok (.aload 4, 2) := by decide +kernel
theorem dL_gift_39 : decode cL_gift 39 = .ok (.iload 9, 2) := by decide +kernel
theorem dL_gift_41 : decode cL_gift 41 = .ok (.iconst 0, 1) := by decide +kernel
theorem dL_gift_42 : decode cL_gift 42 = .ok (.iastore, 1) := by decide +kernel
theorem dL_gift_43 : decode cL_gift 43 = .ok (.aload 4, 2) := by decide +kernel
theorem dL_gift_45 : decode cL_gift 45 = .ok (.iload 9, 2) := by decide +kernel
theorem dL_gift_47 : decode cL_gift 47 = .ok (.iconst 1, 1) := by decide +kernel
theorem dL_gift_48 : decode cL_gift 48 = .ok (.iadd, 1) := by decide +kernel
theorem dL_gift_49 : decode cL_gift 49 = .ok (.iload 8, 2) := by decide +kernel
theorem dL_gift_51 : decode cL_gift 51 = .ok (.iastore, 1) := by decide +kernel
theorem dL_gift_52 : decode cL_gift 52 = .ok (.aload_n 1, 1) := by decide +kernel
theorem dL_gift_53 : decode cL_gift 53 = .ok (.bipush 10, 2) := by decide +kernel
theorem dL_gift_55 : decode cL_gift 55 = .ok (.iload 6, 2) := by decide +kernel
theorem dL_gift_57 : decode cL_gift 57 = .ok (.imul, 1) := by decide +kernel
theorem dL_gift_58 : decode cL_gift 58 = .ok (.dup2, 1) := by decide +kernel
theorem dL_gift_59 : decode cL_gift 59 = .ok (.iaload, 1) := by decide +kernel
theorem dL_gift_60 : decode cL_gift 60 = .ok (.iload 7, 2) := by decide +kernel
theorem dL_gift_62 : decode cL_gift 62 = .ok (.iadd, 1) := by decide +kernel
theorem dL_gift_63 : decode cL_gift 63 = .ok (.iastore, 1) := by decide +kernel
theorem dL_gift_64 : decode cL_gift 64 = .ok (.aload_n 1, 1) := by decide +kernel
theorem dL_gift_65 : decode cL_gift 65 = .ok (.bipush 10, 2) := by decide +kernel
theorem dL_gift_67 : decode cL_gift 67 = .ok (.iload 6, 2) := by decide +kernel
theorem dL_gift_69 : decode cL_gift 69 = .ok (.imul, 1) := by decide +kernel
theorem dL_gift_70 : decode cL_gift 70 = .ok (.iconst 1, 1) := by decide +kernel
theorem dL_gift_71 : decode cL_gift 71 = .ok (.iadd, 1) := by decide +kernel
theorem dL_gift_72 : decode cL_gift 72 = .ok (.dup2, 1) := by decide +kernel
theorem dL_gift_73 : decode cL_gift 73 = .ok (.iaload, 1) := by decide +kernel
theorem dL_gift_74 : decode cL_gift 74 = .ok (.iload 7, 2) := by decide +kernel
theorem dL_gift_76 : decode cL_gift 76 = .ok (.iadd, 1) := by decide +kernel
theorem dL_gift_77 : decode cL_gift 77 = .ok (.iastore, 1) := by decide +kernel
theorem dL_gift_78 : decode cL_gift 78 = .ok (.aload_n 0, 1) := by decide +kernel
theorem dL_gift_79 : decode cL_gift 79 = .ok (.iconst 4, 1) := by decide +kernel
theorem dL_gift_80 : decode cL_gift 80 = .ok (.dup2, 1) := by decide +kernel
theorem dL_gift_81 : decode cL_gift 81 = .ok (.iaload, 1) := by decide +kernel
theorem dL_gift_82 : decode cL_gift 82 = .ok (.iconst 1, 1) := by decide +kernel
theorem dL_gift_83 : decode cL_gift 83 = .ok (.iadd, 1) := by decide +kernel
theorem dL_gift_84 : decode cL_gift 84 = .ok (.iastore, 1) := by decide +kernel
theorem dL_gift_85 : decode cL_gift 85 = .ok (.aload_n 0, 1) := by decide +kernel
theorem dL_gift_86 : decode cL_gift 86 = .ok (.iconst 4, 1) := by decide +kernel
theorem dL_gift_87 : decode cL_gift 87 = .ok (.iaload, 1) := by decide +kernel
theorem dL_gift_88 : decode cL_gift 88 = .ok (.iconst 1, 1) := by decide +kernel
theorem dL_gift_89 : decode cL_gift 89 = .ok (.isub, 1) := by decide +kernel
theorem dL_gift_90 : decode cL_gift 90 = .ok (.ireturn, 1) := by decide +kernel
theorem dL_year_0 : decode cL_year 0 = .ok (.iconst 0, 1) := by decide +kernel
theorem dL_year_1 : decode cL_year 1 = .ok (.istore 6, 2) := by decide +kernel
theorem dL_year_3 : decode cL_year 3 = .ok (.iconst 0, 1) := by decide +kernel
theorem dL_year_4 : decode cL_year 4 = .ok (.istore 7, 2) := by decide +kernel
theorem dL_year_6 : decode cL_year 6 = .ok (.iload 7, 2) := by decide +kernel
theorem dL_year_8 : decode cL_year 8 = .ok (.aload_n 0, 1) := by decide +kernel
theorem dL_year_9 : decode cL_year 9 = .ok (.iconst 4, 1) := by decide +kernel
theorem dL_year_10 : decode cL_year 10 = .ok (.iaload, 1) := by decide +kernel
theorem dL_year_11 : decode cL_year 11 = .ok (.if_icmp .ge 61, 3) := by decide +kernel
theorem dL_year_14 : decode cL_year 14 = .ok (.iload 6, 2) := by decide +kernel
theorem dL_year_16 : decode cL_year 16 = .ok (.aload_n 1, 1) := by decide +kernel
theorem dL_year_17 : decode cL_year 17 = .ok (.iconst 2, 1) := by decide +kernel
theorem dL_year_18 : decode cL_year 18 = .ok (.iload 7, 2) := by decide +kernel
theorem dL_year_20 : decode cL_year 20 = .ok (.imul, 1) := by decide +kernel
theorem dL_year_21 : decode cL_year 21 = .ok (.iaload, 1) := by decide +kernel
theorem dL_year_22 : decode cL_year 22 = .ok (.iload 4, 2) := by decide +kernel
theorem dL_year_24 : decode cL_year 24 = .ok (.if_icmp .ne 38, 3) := by decide +kernel
theorem dL_year_27 : decode cL_year 27 = .ok (.aload_n 2, 1) := by decide +kernel
theorem dL_year_28 : decode cL_year 28 = .ok (.iconst 2, 1) := by decide +kernel
theorem dL_year_29 : decode cL_year 29 = .ok (.iload 7, 2) := by decide +kernel
theorem dL_year_31 : decode cL_year 31 = .ok (.imul, 1) := by decide +kernel
theorem dL_year_32 : decode cL_year 32 = .ok (.iconst 1, 1) := by decide +kernel
theorem dL_year_33 : decode cL_year 33 = .ok (.iadd, 1) := by decide +kernel
theorem dL_year_34 : decode cL_year 34 = .ok (.iaload, 1) := by decide +kernel
theorem dL_year_35 : decode cL_year 35 = .ok (.bipush 12, 2) := by decide +kernel
theorem dL_year_37 : decode cL_year 37 = .ok (.idiv, 1) := by decide +kernel
theorem dL_year_38 : decode cL_year 38 = .ok (.iload 5, 2) := by decide +kernel
theorem dL_year_40 : decode cL_year 40 = .ok (.if_icmp .ne 22, 3) := by decide +kernel
theorem dL_year_43 : decode cL_year 43 = .ok (.aload_n 3, 1) := by decide +kernel
theorem dL_year_44 : decode cL_year 44 = .ok (.iconst 2, 1) := by decide +kernel
theorem dL_year_45 : decode cL_year 45 = .ok (.iload 7, 2) := by decide +kernel
theorem dL_year_47 : decode cL_year 47 = .ok (.imul, 1) := by decide +kernel
theorem dL_year_48 : decode cL_year 48 = .ok (.iaload, 1) := by decide +kernel
theorem dL_year_49 : decode cL_year 49 = .ok (.iconst 1, 1) := by decide +kernel
theorem dL_year_50 : decode cL_year 50 = .ok (.if_icmp .ne 12, 3) := by decide +kernel
theorem dL_year_53 : decode cL_year 53 = .ok (.aload_n 2, 1) := by decide +kernel
theorem dL_year_54 : decode cL_year 54 = .ok (.iconst 2, 1) := by decide +kernel
theorem dL_year_55 : decode cL_year 55 = .ok (.iload 7, 2) := by decide +kernel
theorem dL_year_57 : decode cL_year 57 = .ok (.imul, 1) := by decide +kernel
theorem dL_year_58 : decode cL_year 58 = .ok (.iaload, 1) := by decide +kernel
theorem dL_year_59 : decode cL_year 59 = .ok (.goto 4, 3) := by decide +kernel
theorem dL_year_62 : decode cL_year 62 = .ok (.iconst 0, 1) := by decide +kernel
theorem dL_year_63 : decode cL_year 63 = .ok (.iadd, 1) := by decide +kernel
theorem dL_year_64 : decode cL_year 64 = .ok (.istore 6, 2) := by decide +kernel
theorem dL_year_66 : decode cL_year 66 = .ok (.iinc 7 1, 3) := by decide +kernel
theorem dL_year_69 : decode cL_year 69 = .ok (.goto (-63), 3) := by decide +kernel
theorem dL_year_72 : decode cL_year 72 = .ok (.iload 6, 2) := by decide +kernel
theorem dL_year_74 : decode cL_year 74 = .ok (.ireturn, 1) := by decide +kernel
theorem dL_claim_0 : decode cL_claim 0 = .ok (.iconst 0, 1) := by decide +kernel
theorem dL_claim_1 : decode cL_claim 1 = .ok (.istore 8, 2) := by decide +kernel
theorem dL_claim_3 : decode cL_claim 3 = .ok (.iconst 0, 1) := by decide +kernel
theorem dL_claim_4 : decode cL_claim 4 = .ok (.istore 9, 2) := by decide +kernel
theorem dL_claim_6 : decode cL_claim 6 = .ok (.iload 9, 2) := by decide +kernel
theorem dL_claim_8 : decode cL_claim 8 = .ok (.aload_n 0, 1) := by decide +kernel
theorem dL_claim_9 : decode cL_claim 9 = .ok (.iconst 4, 1) := by decide +kernel
theorem dL_claim_10 : decode cL_claim 10 = .ok (.iaload, 1) := by decide +kernel
theorem dL_claim_11 : decode cL_claim 11 = .ok (.if_icmp .ge 202, 3) := by decide +kernel
theorem dL_claim_14 : decode cL_claim 14 = .ok (.aload_n 3, 1) := by decide +kernel
theorem dL_claim_15 : decode cL_claim 15 = .ok (.iconst 2, 1) := by decide +kernel
theorem dL_claim_16 : decode cL_claim 16 = .ok (.iload 9, 2) := by decide +kernel
theorem dL_claim_18 : decode cL_claim 18 = .ok (.imul, 1) := by decide +kernel
theorem dL_claim_19 : decode cL_claim 19 = .ok (.iaload, 1) := by decide +kernel
theorem dL_claim_20 : decode cL_claim 20 = .ok (.istore 10, 2) := by decide +kernel
theorem dL_claim_22 : decode cL_claim 22 = .ok (.iload 6, 2) := by decide +kernel
theorem dL_claim_24 : decode cL_claim 24 = .ok (.ifCond .lt 10, 3) := by decide +kernel
theorem dL_claim_27 : decode cL_claim 27 = .ok (.iload 10, 2) := by decide +kernel
theorem dL_claim_29 : decode cL_claim 29 = .ok (.iload 6, 2) := by decide +kernel
theorem dL_claim_31 : decode cL_claim 31 = .ok (.if_icmp .ne 47, 3) := by decide +kernel
theorem dL_claim_34 : decode cL_claim 34 = .ok (.aload 5, 2) := by decide +kernel
theorem dL_claim_36 : decode cL_claim 36 = .ok (.iconst 2, 1) := by decide +kernel
theorem dL_claim_37 : decode cL_claim 37 = .ok (.iload 9, 2) := by decide +kernel
theorem dL_claim_39 : decode cL_claim 39 = .ok (.imul, 1) := by decide +kernel
theorem dL_claim_40 : decode cL_claim 40 = .ok (.iaload, 1) := by decide +kernel
theorem dL_claim_41 : decode cL_claim 41 = .ok (.ifCond .ne 37, 3) := by decide +kernel
theorem dL_claim_44 : decode cL_claim 44 = .ok (.aload_n 2, 1) := by decide +kernel
theorem dL_claim_45 : decode cL_claim 45 = .ok (.bipush 7, 2) := by decide +kernel
theorem dL_claim_47 : decode cL_claim 47 = .ok (.iload 10, 2) := by decide +kernel
theorem dL_claim_49 : decode cL_claim 49 = .ok (.imul, 1) := by decide +kernel
theorem dL_claim_50 : decode cL_claim 50 = .ok (.iaload, 1) := by decide +kernel
theorem dL_claim_51 : decode cL_claim 51 = .ok (.iconst 1, 1) := by decide +kernel
theorem dL_claim_52 : decode cL_claim 52 = .ok (.if_icmp .ne 26, 3) := by decide +kernel
theorem dL_claim_55 : decode cL_claim 55 = .ok (.aload 4, 2) := by decide +kernel
theorem dL_claim_57 : decode cL_claim 57 = .ok (.iconst 2, 1) := by decide +kernel
theorem dL_claim_58 : decode cL_claim 58 = .ok (.iload 9, 2) := by decide +kernel
theorem dL_claim_60 : decode cL_claim 60 = .ok (.imul, 1) := by decide +kernel
theorem dL_claim_61 : decode cL_claim 61 = .ok (.iconst 1, 1) := by decide +kernel
theorem dL_claim_62 : decode cL_claim 62 = .ok (.iadd, 1) := by decide +kernel
theorem dL_claim_63 : decode cL_claim 63 = .ok (.iaload, 1) := by decide +kernel
theorem dL_claim_64 : decode cL_claim 64 = .ok (.aload_n 0, 1) := by decide +kernel
theorem dL_claim_65 : decode cL_claim 65 = .ok (.bipush 6, 2) := by decide +kernel
theorem dL_claim_67 : decode cL_claim 67 = .ok (.iaload, 1) := by decide +kernel
theorem dL_claim_68 : decode cL_claim 68 = .ok (.bipush 47, 2) := by decide +kernel
theorem dL_claim_70 : decode cL_claim 70 = .ok (.isub, 1) := by decide +kernel
theorem dL_claim_71 : decode cL_claim 71 = .ok (.if_icmp .lt 7, 3) := by decide +kernel
theorem dL_claim_74 : decode cL_claim 74 = .ok (.iconst 1, 1) := by decide +kernel
theorem dL_claim_75 : decode cL_claim 75 = .ok (.goto 4, 3) := by decide +kernel
theorem dL_claim_78 : decode cL_claim 78 = .ok (.iconst 0, 1) := by decide +kernel
theorem dL_claim_79 : decode cL_claim 79 = .ok (.istore 11, 2) := by decide +kernel
theorem dL_claim_81 : decode cL_claim 81 = .ok (.iload 11, 2) := by decide +kernel
theorem dL_claim_83 : decode cL_claim 83 = .ok (.ifCond .eq 124, 3) := by decide +kernel
theorem dL_claim_86 : decode cL_claim 86 = .ok (.aload_n 0, 1) := by decide +kernel
theorem dL_claim_87 : decode cL_claim 87 = .ok (.aload_n 3, 1) := by decide +kernel
theorem dL_claim_88 : decode cL_claim 88 = .ok (.aload 4, 2) := by decide +kernel
theorem dL_claim_90 : decode cL_claim 90 = .ok (.aload 5, 2) := by decide +kernel
theorem dL_claim_92 : decode cL_claim 92 = .ok (.iload 10, 2) := by decide +kernel
theorem dL_claim_94 : decode cL_claim 94 = .ok (.aload 4, 2) := by decide +kernel
theorem dL_claim_96 : decode cL_claim 96 = .ok (.iconst 2, 1) := by decide +kernel
theorem dL_claim_97 : decode cL_claim 97 = .ok (.iload 9, 2) := by decide +kernel
theorem dL_claim_99 : decode cL_claim 99 = .ok (.imul, 1) := by decide +kernel
theorem dL_claim_100 : decode cL_claim 100 = .ok (.iconst 1, 1) := by decide +kernel
theorem dL_claim_101 : decode cL_claim 101 = .ok (.iadd, 1) := by decide +kernel
theorem dL_claim_102 : decode cL_claim 102 = .ok (.iaload, 1) := by decide +kernel
theorem dL_claim_103 : decode cL_claim 103 = .ok (.bipush 12, 2) := by decide +kernel
theorem dL_claim_105 : decode cL_claim 105 = .ok (.idiv, 1) := by decide +kernel
theorem dL_claim_106 : decode cL_claim 106 = .ok (.invokestatic 9, 3) := by decide +kernel
theorem dL_claim_109 : decode cL_claim 109 = .ok (.aload 4, 2) := by decide +kernel
theorem dL_claim_111 : decode cL_claim 111 = .ok (.iconst 2, 1) := by decide +kernel
theorem dL_claim_112 : decode cL_claim 112 = .ok (.iload 9, 2) := by decide +kernel
theorem dL_claim_114 : decode cL_claim 114 = .ok (.imul, 1) := by decide +kernel
theorem dL_claim_115 : decode cL_claim 115 = .ok (.iaload, 1) := by decide +kernel
theorem dL_claim_116 : decode cL_claim 116 = .ok (.iadd, 1) := by decide +kernel
theorem dL_claim_117 : decode cL_claim 117 = .ok (.aload_n 0, 1) := by decide +kernel
theorem dL_claim_118 : decode cL_claim 118 = .ok (.iconst 1, 1) := by decide +kernel
theorem dL_claim_119 : decode cL_claim 119 = .ok (.iaload, 1) := by decide +kernel
theorem dL_claim_120 : decode cL_claim 120 = .ok (.if_icmp .gt 87, 3) := by decide +kernel
theorem dL_claim_123 : decode cL_claim 123 = .ok (.aload_n 1, 1) := by decide +kernel
theorem dL_claim_124 : decode cL_claim 124 = .ok (.aload_n 3, 1) := by decide +kernel
theorem dL_claim_125 : decode cL_claim 125 = .ok (.iconst 2, 1) := by decide +kernel
theorem dL_claim_126 : decode cL_claim 126 = .ok (.iload 9, 2) := by decide +kernel
theorem dL_claim_128 : decode cL_claim 128 = .ok (.imul, 1) := by decide +kernel
theorem dL_claim_129 : decode cL_claim 129 = .ok (.iconst 1, 1) := by decide +kernel
theorem dL_claim_130 : decode cL_claim 130 = .ok (.iadd, 1) := by decide +kernel
theorem dL_claim_131 : decode cL_claim 131 = .ok (.iaload, 1) := by decide +kernel
theorem dL_claim_132 : decode cL_claim 132 = .ok (.invokestatic 15, 3) := by decide +kernel
theorem dL_claim_135 : decode cL_claim 135 = .ok (.istore 12, 2) := by decide +kernel
theorem dL_claim_137 : decode cL_claim 137 = .ok (.aload 5, 2) := by decide +kernel
theorem dL_claim_139 : decode cL_claim 139 = .ok (.iconst 2, 1) := by decide +kernel
theorem dL_claim_140 : decode cL_claim 140 = .ok (.iload 9, 2) := by decide +kernel
theorem dL_claim_142 : decode cL_claim 142 = .ok (.imul, 1) := by decide +kernel
theorem dL_claim_143 : decode cL_claim 143 = .ok (.iconst 1, 1) := by decide +kernel
theorem dL_claim_144 : decode cL_claim 144 = .ok (.iastore, 1) := by decide +kernel
theorem dL_claim_145 : decode cL_claim 145 = .ok (.aload_n 1, 1) := by decide +kernel
theorem dL_claim_146 : decode cL_claim 146 = .ok (.bipush 10, 2) := by decide +kernel
theorem dL_claim_148 : decode cL_claim 148 = .ok (.iload 12, 2) := by decide +kernel
theorem dL_claim_150 : decode cL_claim 150 = .ok (.imul, 1) := by decide +kernel
theorem dL_claim_151 : decode cL_claim 151 = .ok (.dup2, 1) := by decide +kernel
theorem dL_claim_152 : decode cL_claim 152 = .ok (.iaload, 1) := by decide +kernel
theorem dL_claim_153 : decode cL_claim 153 = .ok (.aload 4, 2) := by decide +kernel
theorem dL_claim_155 : decode cL_claim 155 = .ok (.iconst 2, 1) := by decide +kernel
theorem dL_claim_156 : decode cL_claim 156 = .ok (.iload 9, 2) := by decide +kernel
theorem dL_claim_158 : decode cL_claim 158 = .ok (.imul, 1) := by decide +kernel
theorem dL_claim_159 : decode cL_claim 159 = .ok (.iaload, 1) := by decide +kernel
theorem dL_claim_160 : decode cL_claim 160 = .ok (.iconst 4, 1) := by decide +kernel
theorem dL_claim_161 : decode cL_claim 161 = .ok (.idiv, 1) := by decide +kernel
theorem dL_claim_162 : decode cL_claim 162 = .ok (.iadd, 1) := by decide +kernel
theorem dL_claim_163 : decode cL_claim 163 = .ok (.iastore, 1) := by decide +kernel
theorem dL_claim_164 : decode cL_claim 164 = .ok (.aload_n 1, 1) := by decide +kernel
theorem dL_claim_165 : decode cL_claim 165 = .ok (.bipush 10, 2) := by decide +kernel
theorem dL_claim_167 : decode cL_claim 167 = .ok (.iload 12, 2) := by decide +kernel
theorem dL_claim_169 : decode cL_claim 169 = .ok (.imul, 1) := by decide +kernel
theorem dL_claim_170 : decode cL_claim 170 = .ok (.iconst 2, 1) := by decide +kernel
theorem dL_claim_171 : decode cL_claim 171 = .ok (.iadd, 1) := by decide +kernel
theorem dL_claim_172 : decode cL_claim 172 = .ok (.dup2, 1) := by decide +kernel
theorem dL_claim_173 : decode cL_claim 173 = .ok (.iaload, 1) := by decide +kernel
theorem dL_claim_174 : decode cL_claim 174 = .ok (.aload 4, 2) := by decide +kernel
theorem dL_claim_176 : decode cL_claim 176 = .ok (.iconst 2, 1) := by decide +kernel
theorem dL_claim_177 : decode cL_claim 177 = .ok (.iload 9, 2) := by decide +kernel
theorem dL_claim_179 : decode cL_claim 179 = .ok (.imul, 1) := by decide +kernel
theorem dL_claim_180 : decode cL_claim 180 = .ok (.iaload, 1) := by decide +kernel
theorem dL_claim_181 : decode cL_claim 181 = .ok (.iconst 4, 1) := by decide +kernel
theorem dL_claim_182 : decode cL_claim 182 = .ok (.idiv, 1) := by decide +kernel
theorem dL_claim_183 : decode cL_claim 183 = .ok (.iadd, 1) := by decide +kernel
theorem dL_claim_184 : decode cL_claim 184 = .ok (.iastore, 1) := by decide +kernel
theorem dL_claim_185 : decode cL_claim 185 = .ok (.iload 8, 2) := by decide +kernel
theorem dL_claim_187 : decode cL_claim 187 = .ok (.aload 4, 2) := by decide +kernel
theorem dL_claim_189 : decode cL_claim 189 = .ok (.iconst 2, 1) := by decide +kernel
theorem dL_claim_190 : decode cL_claim 190 = .ok (.iload 9, 2) := by decide +kernel
theorem dL_claim_192 : decode cL_claim 192 = .ok (.imul, 1) := by decide +kernel
theorem dL_claim_193 : decode cL_claim 193 = .ok (.iaload, 1) := by decide +kernel
theorem dL_claim_194 : decode cL_claim 194 = .ok (.iconst 4, 1) := by decide +kernel
theorem dL_claim_195 : decode cL_claim 195 = .ok (.idiv, 1) := by decide +kernel
theorem dL_claim_196 : decode cL_claim 196 = .ok (.iadd, 1) := by decide +kernel
theorem dL_claim_197 : decode cL_claim 197 = .ok (.istore 8, 2) := by decide +kernel
theorem dL_claim_199 : decode cL_claim 199 = .ok (.aload 7, 2) := by decide +kernel
theorem dL_claim_201 : decode cL_claim 201 = .ok (.iconst 0, 1) := by decide +kernel
theorem dL_claim_202 : decode cL_claim 202 = .ok (.dup2, 1) := by decide +kernel
theorem dL_claim_203 : decode cL_claim 203 = .ok (.iaload, 1) := by decide +kernel
theorem dL_claim_204 : decode cL_claim 204 = .ok (.iconst 1, 1) := by decide +kernel
theorem dL_claim_205 : decode cL_claim 205 = .ok (.iadd, 1) := by decide +kernel
theorem dL_claim_206 : decode cL_claim 206 = .ok (.iastore, 1) := by decide +kernel
theorem dL_claim_207 : decode cL_claim 207 = .ok (.iinc 9 1, 3) := by decide +kernel
theorem dL_claim_210 : decode cL_claim 210 = .ok (.goto (-204), 3) := by decide +kernel
theorem dL_claim_213 : decode cL_claim 213 = .ok (.iload 8, 2) := by decide +kernel
theorem dL_claim_215 : decode cL_claim 215 = .ok (.ireturn, 1) := by decide +kernel
theorem dL_weight_0 : decode cL_weight 0 = .ok (.iconst 0, 1) := by decide +kernel
theorem dL_weight_1 : decode cL_weight 1 = .ok (.istore 6, 2) := by decide +kernel
theorem dL_weight_3 : decode cL_weight 3 = .ok (.iconst 0, 1) := by decide +kernel
theorem dL_weight_4 : decode cL_weight 4 = .ok (.istore 7, 2) := by decide +kernel
theorem dL_weight_6 : decode cL_weight 6 = .ok (.iload 7, 2) := by decide +kernel
theorem dL_weight_8 : decode cL_weight 8 = .ok (.aload_n 0, 1) := by decide +kernel
theorem dL_weight_9 : decode cL_weight 9 = .ok (.iconst 4, 1) := by decide +kernel
theorem dL_weight_10 : decode cL_weight 10 = .ok (.iaload, 1) := by decide +kernel
theorem dL_weight_11 : decode cL_weight 11 = .ok (.if_icmp .ge 58, 3) := by decide +kernel
theorem dL_weight_14 : decode cL_weight 14 = .ok (.iload 6, 2) := by decide +kernel
theorem dL_weight_16 : decode cL_weight 16 = .ok (.aload_n 1, 1) := by decide +kernel
theorem dL_weight_17 : decode cL_weight 17 = .ok (.iconst 2, 1) := by decide +kernel
theorem dL_weight_18 : decode cL_weight 18 = .ok (.iload 7, 2) := by decide +kernel
theorem dL_weight_20 : decode cL_weight 20 = .ok (.imul, 1) := by decide +kernel
theorem dL_weight_21 : decode cL_weight 21 = .ok (.iaload, 1) := by decide +kernel
theorem dL_weight_22 : decode cL_weight 22 = .ok (.iload 4, 2) := by decide +kernel
theorem dL_weight_24 : decode cL_weight 24 = .ok (.if_icmp .ne 35, 3) := by decide +kernel
theorem dL_weight_27 : decode cL_weight 27 = .ok (.aload_n 1, 1) := by decide +kernel
theorem dL_weight_28 : decode cL_weight 28 = .ok (.iconst 2, 1) := by decide +kernel
theorem dL_weight_29 : decode cL_weight 29 = .ok (.iload 7, 2) := by decide +kernel
theorem dL_weight_31 : decode cL_weight 31 = .ok (.imul, 1) := by decide +kernel
theorem dL_weight_32 : decode cL_weight 32 = .ok (.iconst 1, 1) := by decide +kernel
theorem dL_weight_33 : decode cL_weight 33 = .ok (.iadd, 1) := by decide +kernel
theorem dL_weight_34 : decode cL_weight 34 = .ok (.iaload, 1) := by decide +kernel
theorem dL_weight_35 : decode cL_weight 35 = .ok (.iload 5, 2) := by decide +kernel
theorem dL_weight_37 : decode cL_weight 37 = .ok (.if_icmp .ne 22, 3) := by decide +kernel
theorem dL_weight_40 : decode cL_weight 40 = .ok (.aload_n 3, 1) := by decide +kernel
theorem dL_weight_41 : decode cL_weight 41 = .ok (.iconst 2, 1) := by decide +kernel
theorem dL_weight_42 : decode cL_weight 42 = .ok (.iload 7, 2) := by decide +kernel
theorem dL_weight_44 : decode cL_weight 44 = .ok (.imul, 1) := by decide +kernel
theorem dL_weight_45 : decode cL_weight 45 = .ok (.iaload, 1) := by decide +kernel
theorem dL_weight_46 : decode cL_weight 46 = .ok (.iconst 2, 1) := by decide +kernel
theorem dL_weight_47 : decode cL_weight 47 = .ok (.if_icmp .ge 12, 3) := by decide +kernel
theorem dL_weight_50 : decode cL_weight 50 = .ok (.aload_n 2, 1) := by decide +kernel
theorem dL_weight_51 : decode cL_weight 51 = .ok (.iconst 2, 1) := by decide +kernel
theorem dL_weight_52 : decode cL_weight 52 = .ok (.iload 7, 2) := by decide +kernel
theorem dL_weight_54 : decode cL_weight 54 = .ok (.imul, 1) := by decide +kernel
theorem dL_weight_55 : decode cL_weight 55 = .ok (.iaload, 1) := by decide +kernel
theorem dL_weight_56 : decode cL_weight 56 = .ok (.goto 4, 3) := by decide +kernel
theorem dL_weight_59 : decode cL_weight 59 = .ok (.iconst 0, 1) := by decide +kernel
theorem dL_weight_60 : decode cL_weight 60 = .ok (.iadd, 1) := by decide +kernel
theorem dL_weight_61 : decode cL_weight 61 = .ok (.istore 6, 2) := by decide +kernel
theorem dL_weight_63 : decode cL_weight 63 = .ok (.iinc 7 1, 3) := by decide +kernel
theorem dL_weight_66 : decode cL_weight 66 = .ok (.goto (-60), 3) := by decide +kernel
theorem dL_weight_69 : decode cL_weight 69 = .ok (.iload 6, 2) := by decide +kernel
theorem dL_weight_71 : decode cL_weight 71 = .ok (.ireturn, 1) := by decide +kernel
theorem dL_weights_0 : decode cL_weights 0 = .ok (.iconst 0, 1) := by decide +kernel
theorem dL_weights_1 : decode cL_weights 1 = .ok (.istore 7, 2) := by decide +kernel
theorem dL_weights_3 : decode cL_weights 3 = .ok (.iconst 0, 1) := by decide +kernel
theorem dL_weights_4 : decode cL_weights 4 = .ok (.istore 8, 2) := by decide +kernel
theorem dL_weights_6 : decode cL_weights 6 = .ok (.iload 8, 2) := by decide +kernel
theorem dL_weights_8 : decode cL_weights 8 = .ok (.aload_n 0, 1) := by decide +kernel
theorem dL_weights_9 : decode cL_weights 9 = .ok (.iconst 3, 1) := by decide +kernel
theorem dL_weights_10 : decode cL_weights 10 = .ok (.iaload, 1) := by decide +kernel
theorem dL_weights_11 : decode cL_weights 11 = .ok (.if_icmp .ge 53, 3) := by decide +kernel
theorem dL_weights_14 : decode cL_weights 14 = .ok (.iload 7, 2) := by decide +kernel
theorem dL_weights_16 : decode cL_weights 16 = .ok (.iload 6, 2) := by decide +kernel
theorem dL_weights_18 : decode cL_weights 18 = .ok (.iconst (-1), 1) := by decide +kernel
theorem dL_weights_19 : decode cL_weights 19 = .ok (.if_icmp .eq 20, 3) := by decide +kernel
theorem dL_weights_22 : decode cL_weights 22 = .ok (.aload_n 1, 1) := by decide +kernel
theorem dL_weights_23 : decode cL_weights 23 = .ok (.bipush 7, 2) := by decide +kernel
theorem dL_weights_25 : decode cL_weights 25 = .ok (.iload 8, 2) := by decide +kernel
theorem dL_weights_27 : decode cL_weights 27 = .ok (.imul, 1) := by decide +kernel
theorem dL_weights_28 : decode cL_weights 28 = .ok (.iconst 1, 1) := by decide +kernel
theorem dL_weights_29 : decode cL_weights 29 = .ok (.iadd, 1) := by decide +kernel
theorem dL_weights_30 : decode cL_weights 30 = .ok (.iload 5, 2) := by decide +kernel
theorem dL_weights_32 : decode cL_weights 32 = .ok (.iadd, 1) := by decide +kernel
theorem dL_weights_33 : decode cL_weights 33 = .ok (.iaload, 1) := by decide +kernel
theorem dL_weights_34 : decode cL_weights 34 = .ok (.iload 6, 2) := by decide +kernel
theorem dL_weights_36 : decode cL_weights 36 = .ok (.if_icmp .ne 18, 3) := by decide +kernel
theorem dL_weights_39 : decode cL_weights 39 = .ok (.aload_n 0, 1) := by decide +kernel
theorem dL_weights_40 : decode cL_weights 40 = .ok (.aload_n 2, 1) := by decide +kernel
theorem dL_weights_41 : decode cL_weights 41 = .ok (.aload_n 3, 1) := by decide +kernel
theorem dL_weights_42 : decode cL_weights 42 = .ok (.aload 4, 2) := by decide +kernel
theorem dL_weights_44 : decode cL_weights 44 = .ok (.iload 8, 2) := by decide +kernel
theorem dL_weights_46 : decode cL_weights 46 = .ok (.iload 5, 2) := by decide +kernel
theorem dL_weights_48 : decode cL_weights 48 = .ok (.invokestatic 19, 3) := by decide +kernel
theorem dL_weights_51 : decode cL_weights 51 = .ok (.goto 4, 3) := by decide +kernel
theorem dL_weights_54 : decode cL_weights 54 = .ok (.iconst 0, 1) := by decide +kernel
theorem dL_weights_55 : decode cL_weights 55 = .ok (.iadd, 1) := by decide +kernel
theorem dL_weights_56 : decode cL_weights 56 = .ok (.istore 7, 2) := by decide +kernel
theorem dL_weights_58 : decode cL_weights 58 = .ok (.iinc 8 1, 3) := by decide +kernel
theorem dL_weights_61 : decode cL_weights 61 = .ok (.goto (-55), 3) := by decide +kernel
theorem dL_weights_64 : decode cL_weights 64 = .ok (.iload 7, 2) := by decide +kernel
theorem dL_weights_66 : decode cL_weights 66 = .ok (.ireturn, 1) := by decide +kernel
theorem dL_month_0 : decode cL_month 0 = .ok (.iconst 0, 1) := by decide +kernel
theorem dL_month_1 : decode cL_month 1 = .ok (.istore 6, 2) := by decide +kernel
theorem dL_month_3 : decode cL_month 3 = .ok (.aload_n 0, 1) := by decide +kernel
theorem dL_month_4 : decode cL_month 4 = .ok (.bipush 6, 2) := by decide +kernel
theorem dL_month_6 : decode cL_month 6 = .ok (.dup2, 1) := by decide +kernel
theorem dL_month_7 : decode cL_month 7 = .ok (.iaload, 1) := by decide +kernel
theorem dL_month_8 : decode cL_month 8 = .ok (.iconst 1, 1) := by decide +kernel
theorem dL_month_9 : decode cL_month 9 = .ok (.iadd, 1) := by decide +kernel
theorem dL_month_10 : decode cL_month 10 = .ok (.iastore, 1) := by decide +kernel
theorem dL_month_11 : decode cL_month 11 = .ok (.iconst 0, 1) := by decide +kernel
theorem dL_month_12 : decode cL_month 12 = .ok (.istore 7, 2) := by decide +kernel
theorem dL_month_14 : decode cL_month 14 = .ok (.iload 7, 2) := by decide +kernel
theorem dL_month_16 : decode cL_month 16 = .ok (.aload_n 0, 1) := by decide +kernel
theorem dL_month_17 : decode cL_month 17 = .ok (.iconst 5, 1) := by decide +kernel
theorem dL_month_18 : decode cL_month 18 = .ok (.iaload, 1) := by decide +kernel
theorem dL_month_19 : decode cL_month 19 = .ok (.if_icmp .ge 233, 3) := by decide +kernel
theorem dL_month_22 : decode cL_month 22 = .ok (.bipush 8, 2) := by decide +kernel
theorem dL_month_24 : decode cL_month 24 = .ok (.iload 7, 2) := by decide +kernel
theorem dL_month_26 : decode cL_month 26 = .ok (.imul, 1) := by decide +kernel
theorem dL_month_27 : decode cL_month 27 = .ok (.istore 8, 2) := by decide +kernel
theorem dL_month_29 : decode cL_month 29 = .ok (.aload 5, 2) := by decide +kernel
theorem dL_month_31 : decode cL_month 31 = .ok (.iload 8, 2) := by decide +kernel
theorem dL_month_33 : decode cL_month 33 = .ok (.iconst 5, 1) := by decide +kernel
theorem dL_month_34 : decode cL_month 34 = .ok (.iadd, 1) := by decide +kernel
theorem dL_month_35 : decode cL_month 35 = .ok (.iaload, 1) := by decide +kernel
theorem dL_month_36 : decode cL_month 36 = .ok (.ifCond .ne 210, 3) := by decide +kernel
theorem dL_month_39 : decode cL_month 39 = .ok (.aload 5, 2) := by decide +kernel
theorem dL_month_41 : decode cL_month 41 = .ok (.iload 8, 2) := by decide +kernel
theorem dL_month_43 : decode cL_month 43 = .ok (.bipush 7, 2) := by decide +kernel
theorem dL_month_45 : decode cL_month 45 = .ok (.iadd, 1) := by decide +kernel
theorem dL_month_46 : decode cL_month 46 = .ok (.iaload, 1) := by decide +kernel
theorem dL_month_47 : decode cL_month 47 = .ok (.iconst 1, 1) := by decide +kernel
theorem dL_month_48 : decode cL_month 48 = .ok (.if_icmp .ne 7, 3) := by decide +kernel
theorem dL_month_51 : decode cL_month 51 = .ok (.iconst 1, 1) := by decide +kernel
theorem dL_month_52 : decode cL_month 52 = .ok (.goto 4, 3) := by decide +kernel
theorem dL_month_55 : decode cL_month 55 = .ok (.iconst 0, 1) := by decide +kernel
theorem dL_month_56 : decode cL_month 56 = .ok (.istore 9, 2) := by decide +kernel
theorem dL_month_58 : decode cL_month 58 = .ok (.iload 9, 2) := by decide +kernel
theorem dL_month_60 : decode cL_month 60 = .ok (.ifCond .ne 15, 3) := by decide +kernel
theorem dL_month_63 : decode cL_month 63 = .ok (.aload_n 0, 1) := by decide +kernel
theorem dL_month_64 : decode cL_month 64 = .ok (.iconst 4, 1) := by decide +kernel
theorem dL_month_65 : decode cL_month 65 = .ok (.iaload, 1) := by decide +kernel
theorem dL_month_66 : decode cL_month 66 = .ok (.bipush 24, 2) := by decide +kernel
theorem dL_month_68 : decode cL_month 68 = .ok (.if_icmp .ne 7, 3) := by decide +kernel
theorem dL_month_71 : decode cL_month 71 = .ok (.iconst 1, 1) := by decide +kernel
theorem dL_month_72 : decode cL_month 72 = .ok (.goto 4, 3) := by decide +kernel
theorem dL_month_75 : decode cL_month 75 = .ok (.iconst 0, 1) := by decide +kernel
theorem dL_month_76 : decode cL_month 76 = .ok (.istore 10, 2) := by decide +kernel
theorem dL_month_78 : decode cL_month 78 = .ok (.aload 5, 2) := by decide +kernel
theorem dL_month_80 : decode cL_month 80 = .ok (.iload 8, 2) := by decide +kernel
theorem dL_month_82 : decode cL_month 82 = .ok (.bipush 7, 2) := by decide +kernel
theorem dL_month_84 : decode cL_month 84 = .ok (.iadd, 1) := by decide +kernel
theorem dL_month_85 : decode cL_month 85 = .ok (.iconst 0, 1) := by decide +kernel
theorem dL_month_86 : decode cL_month 86 = .ok (.iastore, 1) := by decide +kernel
theorem dL_month_87 : decode cL_month 87 = .ok (.aload 5, 2) := by decide +kernel
theorem dL_month_89 : decode cL_month 89 = .ok (.iload 8, 2) := by decide +kernel
theorem dL_month_91 : decode cL_month 91 = .ok (.iconst 4, 1) := by decide +kernel
theorem dL_month_92 : decode cL_month 92 = .ok (.iadd, 1) := by decide +kernel
theorem dL_month_93 : decode cL_month 93 = .ok (.dup2, 1) := by decide +kernel
theorem dL_month_94 : decode cL_month 94 = .ok (.iaload, 1) := by decide +kernel
theorem dL_month_95 : decode cL_month 95 = .ok (.iload 9, 2) := by decide +kernel
theorem dL_month_97 : decode cL_month 97 = .ok (.ifCond .eq 7, 3) := by decide +kernel
theorem dL_month_100 : decode cL_month 100 = .ok (.iconst 1, 1) := by decide +kernel
theorem dL_month_101 : decode cL_month 101 = .ok (.goto 4, 3) := by decide +kernel
theorem dL_month_104 : decode cL_month 104 = .ok (.iconst 0, 1) := by decide +kernel
theorem dL_month_105 : decode cL_month 105 = .ok (.iadd, 1) := by decide +kernel
theorem dL_month_106 : decode cL_month 106 = .ok (.iastore, 1) := by decide +kernel
theorem dL_month_107 : decode cL_month 107 = .ok (.aload 5, 2) := by decide +kernel
theorem dL_month_109 : decode cL_month 109 = .ok (.iload 8, 2) := by decide +kernel
theorem dL_month_111 : decode cL_month 111 = .ok (.iconst 3, 1) := by decide +kernel
theorem dL_month_112 : decode cL_month 112 = .ok (.iadd, 1) := by decide +kernel
theorem dL_month_113 : decode cL_month 113 = .ok (.dup2, 1) := by decide +kernel
theorem dL_month_114 : decode cL_month 114 = .ok (.iaload, 1) := by decide +kernel
theorem dL_month_115 : decode cL_month 115 = .ok (.iconst 1, 1) := by decide +kernel
theorem dL_month_116 : decode cL_month 116 = .ok (.isub, 1) := by decide +kernel
theorem dL_month_117 : decode cL_month 117 = .ok (.iastore, 1) := by decide +kernel
theorem dL_month_118 : decode cL_month 118 = .ok (.iload 9, 2) := by decide +kernel
theorem dL_month_120 : decode cL_month 120 = .ok (.ifCond .ne 73, 3) := by decide +kernel
theorem dL_month_123 : decode cL_month 123 = .ok (.iload 10, 2) := by decide +kernel
theorem dL_month_125 : decode cL_month 125 = .ok (.ifCond .ne 68, 3) := by decide +kernel
theorem dL_month_128 : decode cL_month 128 = .ok (.aload 5, 2) := by decide +kernel
theorem dL_month_130 : decode cL_month 130 = .ok (.iload 8, 2) := by decide +kernel
theorem dL_month_132 : decode cL_month 132 = .ok (.bipush 6, 2) := by decide +kernel
theorem dL_month_134 : decode cL_month 134 = .ok (.iadd, 1) := by decide +kernel
theorem dL_month_135 : decode cL_month 135 = .ok (.dup2, 1) := by decide +kernel
theorem dL_month_136 : decode cL_month 136 = .ok (.iaload, 1) := by decide +kernel
theorem dL_month_137 : decode cL_month 137 = .ok (.iconst 1, 1) := by decide +kernel
theorem dL_month_138 : decode cL_month 138 = .ok (.iadd, 1) := by decide +kernel
theorem dL_month_139 : decode cL_month 139 = .ok (.iastore, 1) := by decide +kernel
theorem dL_month_140 : decode cL_month 140 = .ok (.iinc 6 1, 3) := by decide +kernel
theorem dL_month_143 : decode cL_month 143 = .ok (.aload_n 0, 1) := by decide +kernel
theorem dL_month_144 : decode cL_month 144 = .ok (.aload_n 1, 1) := by decide +kernel
theorem dL_month_145 : decode cL_month 145 = .ok (.aload_n 2, 1) := by decide +kernel
theorem dL_month_146 : decode cL_month 146 = .ok (.aload_n 3, 1) := by decide +kernel
theorem dL_month_147 : decode cL_month 147 = .ok (.aload 4, 2) := by decide +kernel
theorem dL_month_149 : decode cL_month 149 = .ok (.aload 5, 2) := by decide +kernel
theorem dL_month_151 : decode cL_month 151 = .ok (.iload 8, 2) := by decide +kernel
theorem dL_month_153 : decode cL_month 153 = .ok (.iaload, 1) := by decide +kernel
theorem dL_month_154 : decode cL_month 154 = .ok (.aload 5, 2) := by decide +kernel
theorem dL_month_156 : decode cL_month 156 = .ok (.iload 8, 2) := by decide +kernel
theorem dL_month_158 : decode cL_month 158 = .ok (.iconst 1, 1) := by decide +kernel
theorem dL_month_159 : decode cL_month 159 = .ok (.iadd, 1) := by decide +kernel
theorem dL_month_160 : decode cL_month 160 = .ok (.iaload, 1) := by decide +kernel
theorem dL_month_161 : decode cL_month 161 = .ok (.aload 5, 2) := by decide +kernel
theorem dL_month_163 : decode cL_month 163 = .ok (.iload 8, 2) := by decide +kernel
theorem dL_month_165 : decode cL_month 165 = .ok (.iconst 2, 1) := by decide +kernel
theorem dL_month_166 : decode cL_month 166 = .ok (.iadd, 1) := by decide +kernel
theorem dL_month_167 : decode cL_month 167 = .ok (.iaload, 1) := by decide +kernel
theorem dL_month_168 : decode cL_month 168 = .ok (.iload 7, 2) := by decide +kernel
theorem dL_month_170 : decode cL_month 170 = .ok (.invokestatic 22, 3) := by decide +kernel
theorem dL_month_173 : decode cL_month 173 = .ok (.istore 11, 2) := by decide +kernel
theorem dL_month_175 : decode cL_month 175 = .ok (.aload 5, 2) := by decide +kernel
theorem dL_month_177 : decode cL_month 177 = .ok (.iload 8, 2) := by decide +kernel
theorem dL_month_179 : decode cL_month 179 = .ok (.iconst 5, 1) := by decide +kernel
theorem dL_month_180 : decode cL_month 180 = .ok (.iadd, 1) := by decide +kernel
theorem dL_month_181 : decode cL_month 181 = .ok (.iload 11, 2) := by decide +kernel
theorem dL_month_183 : decode cL_month 183 = .ok (.ifCond .ge 8, 3) := by decide +kernel
theorem dL_month_186 : decode cL_month 186 = .ok (.bipush 9, 2) := by decide +kernel
theorem dL_month_188 : decode cL_month 188 = .ok (.goto 4, 3) := by decide +kernel
theorem dL_month_191 : decode cL_month 191 = .ok (.iconst 0, 1) := by decide +kernel
theorem dL_month_192 : decode cL_month 192 = .ok (.iastore, 1) := by decide +kernel
theorem dL_month_193 : decode cL_month 193 = .ok (.aload 5, 2) := by decide +kernel
theorem dL_month_195 : decode cL_month 195 = .ok (.iload 8, 2) := by decide +kernel
theorem dL_month_197 : decode cL_month 197 = .ok (.iconst 5, 1) := by decide +kernel
theorem dL_month_198 : decode cL_month 198 = .ok (.iadd, 1) := by decide +kernel
theorem dL_month_199 : decode cL_month 199 = .ok (.iload 10, 2) := by decide +kernel
theorem dL_month_201 : decode cL_month 201 = .ok (.ifCond .ne 19, 3) := by decide +kernel
theorem dL_month_204 : decode cL_month 204 = .ok (.iload 9, 2) := by decide +kernel
theorem dL_month_206 : decode cL_month 206 = .ok (.ifCond .eq 18, 3) := by decide +kernel
theorem dL_month_209 : decode cL_month 209 = .ok (.aload 5, 2) := by decide +kernel
theorem dL_month_211 : decode cL_month 211 = .ok (.iload 8, 2) := by decide +kernel
theorem dL_month_213 : decode cL_month 213 = .ok (.iconst 4, 1) := by decide +kernel
theorem dL_month_214 : decode cL_month 214 = .ok (.iadd, 1) := by decide +kernel
theorem dL_month_215 : decode cL_month 215 = .ok (.iaload, 1) := by decide +kernel
theorem dL_month_216 : decode cL_month 216 = .ok (.iconst 3, 1) := by decide +kernel
theorem dL_month_217 : decode cL_month 217 = .ok (.if_icmp .ne 7, 3) := by decide +kernel
theorem dL_month_220 : decode cL_month 220 = .ok (.iconst 3, 1) := by decide +kernel
theorem dL_month_221 : decode cL_month 221 = .ok (.goto 24, 3) := by decide +kernel
theorem dL_month_224 : decode cL_month 224 = .ok (.aload 5, 2) := by decide +kernel
theorem dL_month_226 : decode cL_month 226 = .ok (.iload 8, 2) := by decide +kernel
theorem dL_month_228 : decode cL_month 228 = .ok (.iconst 3, 1) := by decide +kernel
theorem dL_month_229 : decode cL_month 229 = .ok (.iadd, 1) := by decide +kernel
theorem dL_month_230 : decode cL_month 230 = .ok (.iaload, 1) := by decide +kernel
theorem dL_month_231 : decode cL_month 231 = .ok (.ifCond .ne 7, 3) := by decide +kernel
theorem dL_month_234 : decode cL_month 234 = .ok (.iconst 1, 1) := by decide +kernel
theorem dL_month_235 : decode cL_month 235 = .ok (.goto 10, 3) := by decide +kernel
theorem dL_month_238 : decode cL_month 238 = .ok (.aload 5, 2) := by decide +kernel
theorem dL_month_240 : decode cL_month 240 = .ok (.iload 8, 2) := by decide +kernel
theorem dL_month_242 : decode cL_month 242 = .ok (.iconst 5, 1) := by decide +kernel
theorem dL_month_243 : decode cL_month 243 = .ok (.iadd, 1) := by decide +kernel
theorem dL_month_244 : decode cL_month 244 = .ok (.iaload, 1) := by decide +kernel
theorem dL_month_245 : decode cL_month 245 = .ok (.iastore, 1) := by decide +kernel
theorem dL_month_246 : decode cL_month 246 = .ok (.iinc 7 1, 3) := by decide +kernel
theorem dL_month_249 : decode cL_month 249 = .ok (.goto (-235), 3) := by decide +kernel
theorem dL_month_252 : decode cL_month 252 = .ok (.iload 6, 2) := by decide +kernel
theorem dL_month_254 : decode cL_month 254 = .ok (.ireturn, 1) := by decide +kernel
theorem dL_open_0 : decode cL_open 0 = .ok (.iload_n 2, 1) := by decide +kernel
theorem dL_open_1 : decode cL_open 1 = .ok (.aload_n 0, 1) := by decide +kernel
theorem dL_open_2 : decode cL_open 2 = .ok (.iconst 2, 1) := by decide +kernel
theorem dL_open_3 : decode cL_open 3 = .ok (.iaload, 1) := by decide +kernel
theorem dL_open_4 : decode cL_open 4 = .ok (.irem, 1) := by decide +kernel
theorem dL_open_5 : decode cL_open 5 = .ok (.istore_n 3, 1) := by decide +kernel
theorem dL_open_6 : decode cL_open 6 = .ok (.iconst 0, 1) := by decide +kernel
theorem dL_open_7 : decode cL_open 7 = .ok (.istore 4, 2) := by decide +kernel
theorem dL_open_9 : decode cL_open 9 = .ok (.iload 4, 2) := by decide +kernel
theorem dL_open_11 : decode cL_open 11 = .ok (.bipush 6, 2) := by decide +kernel
theorem dL_open_13 : decode cL_open 13 = .ok (.if_icmp .ge 36, 3) := by decide +kernel
theorem dL_open_16 : decode cL_open 16 = .ok (.iload_n 2, 1) := by decide +kernel
theorem dL_open_17 : decode cL_open 17 = .ok (.bipush 7, 2) := by decide +kernel
theorem dL_open_19 : decode cL_open 19 = .ok (.irem, 1) := by decide +kernel
theorem dL_open_20 : decode cL_open 20 = .ok (.ifCond .le 29, 3) := by decide +kernel
theorem dL_open_23 : decode cL_open 23 = .ok (.aload_n 1, 1) := by decide +kernel
theorem dL_open_24 : decode cL_open 24 = .ok (.bipush 10, 2) := by decide +kernel
theorem dL_open_26 : decode cL_open 26 = .ok (.iload_n 3, 1) := by decide +kernel
theorem dL_open_27 : decode cL_open 27 = .ok (.imul, 1) := by decide +kernel
theorem dL_open_28 : decode cL_open 28 = .ok (.bipush 9, 2) := by decide +kernel
theorem dL_open_30 : decode cL_open 30 = .ok (.iadd, 1) := by decide +kernel
theorem dL_open_31 : decode cL_open 31 = .ok (.iaload, 1) := by decide +kernel
theorem dL_open_32 : decode cL_open 32 = .ok (.ifCond .lt 17, 3) := by decide +kernel
theorem dL_open_35 : decode cL_open 35 = .ok (.iload_n 3, 1) := by decide +kernel
theorem dL_open_36 : decode cL_open 36 = .ok (.iconst 1, 1) := by decide +kernel
theorem dL_open_37 : decode cL_open 37 = .ok (.iadd, 1) := by decide +kernel
theorem dL_open_38 : decode cL_open 38 = .ok (.aload_n 0, 1) := by decide +kernel
theorem dL_open_39 : decode cL_open 39 = .ok (.iconst 2, 1) := by decide +kernel
theorem dL_open_40 : decode cL_open 40 = .ok (.iaload, 1) := by decide +kernel
theorem dL_open_41 : decode cL_open 41 = .ok (.irem, 1) := by decide +kernel
theorem dL_open_42 : decode cL_open 42 = .ok (.istore_n 3, 1) := by decide +kernel
theorem dL_open_43 : decode cL_open 43 = .ok (.iinc 4 1, 3) := by decide +kernel
theorem dL_open_46 : decode cL_open 46 = .ok (.goto (-37), 3) := by decide +kernel
theorem dL_open_49 : decode cL_open 49 = .ok (.iload_n 3, 1) := by decide +kernel
theorem dL_open_50 : decode cL_open 50 = .ok (.ireturn, 1) := by decide +kernel
theorem dL_comes_0 : decode cL_comes 0 = .ok (.iload 8, 2) := by decide +kernel
theorem dL_comes_2 : decode cL_comes 2 = .ok (.ifCond .ne 91, 3) := by decide +kernel
theorem dL_comes_5 : decode cL_comes 5 = .ok (.aload_n 1, 1) := by decide +kernel
theorem dL_comes_6 : decode cL_comes 6 = .ok (.iconst 2, 1) := by decide +kernel
theorem dL_comes_7 : decode cL_comes 7 = .ok (.iaload, 1) := by decide +kernel
theorem dL_comes_8 : decode cL_comes 8 = .ok (.bipush 6, 2) := by decide +kernel
theorem dL_comes_10 : decode cL_comes 10 = .ok (.if_icmp .ne 18, 3) := by decide +kernel
theorem dL_comes_13 : decode cL_comes 13 = .ok (.aload_n 0, 1) := by decide +kernel
theorem dL_comes_14 : decode cL_comes 14 = .ok (.invokevirtual 26, 3) := by decide +kernel
theorem dL_comes_17 : decode cL_comes 17 = .ok (.bipush (-3), 2) := by decide +kernel
theorem dL_comes_19 : decode cL_comes 19 = .ok (.if_icmp .ne 7, 3) := by decide +kernel
theorem dL_comes_22 : decode cL_comes 22 = .ok (.iconst 1, 1) := by decide +kernel
theorem dL_comes_23 : decode cL_comes 23 = .ok (.goto 4, 3) := by decide +kernel
theorem dL_comes_26 : decode cL_comes 26 = .ok (.iconst 0, 1) := by decide +kernel
theorem dL_comes_27 : decode cL_comes 27 = .ok (.ireturn, 1) := by decide +kernel
theorem dL_comes_28 : decode cL_comes 28 = .ok (.iconst 0, 1) := by decide +kernel
theorem dL_comes_29 : decode cL_comes 29 = .ok (.istore 10, 2) := by decide +kernel
theorem dL_comes_31 : decode cL_comes 31 = .ok (.iload 10, 2) := by decide +kernel
theorem dL_comes_33 : decode cL_comes 33 = .ok (.bipush 10, 2) := by decide +kernel
theorem dL_comes_35 : decode cL_comes 35 = .ok (.if_icmp .ge 33, 3) := by decide +kernel
theorem dL_comes_38 : decode cL_comes 38 = .ok (.aload_n 2, 1) := by decide +kernel
theorem dL_comes_39 : decode cL_comes 39 = .ok (.bipush 10, 2) := by decide +kernel
theorem dL_comes_41 : decode cL_comes 41 = .ok (.aload_n 1, 1) := by decide +kernel
theorem dL_comes_42 : decode cL_comes 42 = .ok (.iconst 2, 1) := by decide +kernel
theorem dL_comes_43 : decode cL_comes 43 = .ok (.iaload, 1) := by decide +kernel
theorem dL_comes_44 : decode cL_comes 44 = .ok (.imul, 1) := by decide +kernel
theorem dL_comes_45 : decode cL_comes 45 = .ok (.iload 10, 2) := by decide +kernel
theorem dL_comes_47 : decode cL_comes 47 = .ok (.iadd, 1) := by decide +kernel
theorem dL_comes_48 : decode cL_comes 48 = .ok (.iload 10, 2) := by decide +kernel
theorem dL_comes_50 : decode cL_comes 50 = .ok (.bipush 9, 2) := by decide +kernel
theorem dL_comes_52 : decode cL_comes 52 = .ok (.if_icmp .ne 8, 3) := by decide +kernel
theorem dL_comes_55 : decode cL_comes 55 = .ok (.bipush (-4), 2) := by decide +kernel
theorem dL_comes_57 : decode cL_comes 57 = .ok (.goto 4, 3) := by decide +kernel
theorem dL_comes_60 : decode cL_comes 60 = .ok (.iconst 0, 1) := by decide +kernel
theorem dL_comes_61 : decode cL_comes 61 = .ok (.iastore, 1) := by decide +kernel
theorem dL_comes_62 : decode cL_comes 62 = .ok (.iinc 10 1, 3) := by decide +kernel
theorem dL_comes_65 : decode cL_comes 65 = .ok (.goto (-34), 3) := by decide +kernel
theorem dL_comes_68 : decode cL_comes 68 = .ok (.aload_n 1, 1) := by decide +kernel
theorem dL_comes_69 : decode cL_comes 69 = .ok (.iconst 2, 1) := by decide +kernel
theorem dL_comes_70 : decode cL_comes 70 = .ok (.dup2, 1) := by decide +kernel
theorem dL_comes_71 : decode cL_comes 71 = .ok (.iaload, 1) := by decide +kernel
theorem dL_comes_72 : decode cL_comes 72 = .ok (.iconst 1, 1) := by decide +kernel
theorem dL_comes_73 : decode cL_comes 73 = .ok (.iadd, 1) := by decide +kernel
theorem dL_comes_74 : decode cL_comes 74 = .ok (.iastore, 1) := by decide +kernel
theorem dL_comes_75 : decode cL_comes 75 = .ok (.aload_n 0, 1) := by decide +kernel
theorem dL_comes_76 : decode cL_comes 76 = .ok (.invokevirtual 26, 3) := by decide +kernel
theorem dL_comes_79 : decode cL_comes 79 = .ok (.aload_n 1, 1) := by decide +kernel
theorem dL_comes_80 : decode cL_comes 80 = .ok (.iconst 2, 1) := by decide +kernel
theorem dL_comes_81 : decode cL_comes 81 = .ok (.iaload, 1) := by decide +kernel
theorem dL_comes_82 : decode cL_comes 82 = .ok (.iconst 1, 1) := by decide +kernel
theorem dL_comes_83 : decode cL_comes 83 = .ok (.isub, 1) := by decide +kernel
theorem dL_comes_84 : decode cL_comes 84 = .ok (.if_icmp .ne 7, 3) := by decide +kernel
theorem dL_comes_87 : decode cL_comes 87 = .ok (.iconst 1, 1) := by decide +kernel
theorem dL_comes_88 : decode cL_comes 88 = .ok (.goto 4, 3) := by decide +kernel
theorem dL_comes_91 : decode cL_comes 91 = .ok (.iconst 0, 1) := by decide +kernel
theorem dL_comes_92 : decode cL_comes 92 = .ok (.ireturn, 1) := by decide +kernel
theorem dL_comes_93 : decode cL_comes 93 = .ok (.iload 8, 2) := by decide +kernel
theorem dL_comes_95 : decode cL_comes 95 = .ok (.iconst 1, 1) := by decide +kernel
theorem dL_comes_96 : decode cL_comes 96 = .ok (.if_icmp .eq 9, 3) := by decide +kernel
theorem dL_comes_99 : decode cL_comes 99 = .ok (.aload_n 1, 1) := by decide +kernel
theorem dL_comes_100 : decode cL_comes 100 = .ok (.iconst 3, 1) := by decide +kernel
theorem dL_comes_101 : decode cL_comes 101 = .ok (.iaload, 1) := by decide +kernel
theorem dL_comes_102 : decode cL_comes 102 = .ok (.ifCond .ne 89, 3) := by decide +kernel
theorem dL_comes_105 : decode cL_comes 105 = .ok (.aload_n 1, 1) := by decide +kernel
theorem dL_comes_106 : decode cL_comes 106 = .ok (.iconst 3, 1) := by decide +kernel
theorem dL_comes_107 : decode cL_comes 107 = .ok (.iaload, 1) := by decide +kernel
theorem dL_comes_108 : decode cL_comes 108 = .ok (.bipush 8, 2) := by decide +kernel
theorem dL_comes_110 : decode cL_comes 110 = .ok (.if_icmp .ne 18, 3) := by decide +kernel
theorem dL_comes_113 : decode cL_comes 113 = .ok (.aload_n 0, 1) := by decide +kernel
theorem dL_comes_114 : decode cL_comes 114 = .ok (.invokevirtual 32, 3) := by decide +kernel
theorem dL_comes_117 : decode cL_comes 117 = .ok (.bipush (-3), 2) := by decide +kernel
theorem dL_comes_119 : decode cL_comes 119 = .ok (.if_icmp .ne 7, 3) := by decide +kernel
theorem dL_comes_122 : decode cL_comes 122 = .ok (.iconst 1, 1) := by decide +kernel
theorem dL_comes_123 : decode cL_comes 123 = .ok (.goto 4, 3) := by decide +kernel
theorem dL_comes_126 : decode cL_comes 126 = .ok (.iconst 0, 1) := by decide +kernel
theorem dL_comes_127 : decode cL_comes 127 = .ok (.ireturn, 1) := by decide +kernel
theorem dL_comes_128 : decode cL_comes 128 = .ok (.iconst 0, 1) := by decide +kernel
theorem dL_comes_129 : decode cL_comes 129 = .ok (.istore 10, 2) := by decide +kernel
theorem dL_comes_131 : decode cL_comes 131 = .ok (.iload 10, 2) := by decide +kernel
theorem dL_comes_133 : decode cL_comes 133 = .ok (.bipush 7, 2) := by decide +kernel
theorem dL_comes_135 : decode cL_comes 135 = .ok (.if_icmp .ge 31, 3) := by decide +kernel
theorem dL_comes_138 : decode cL_comes 138 = .ok (.aload_n 3, 1) := by decide +kernel
theorem dL_comes_139 : decode cL_comes 139 = .ok (.bipush 7, 2) := by decide +kernel
theorem dL_comes_141 : decode cL_comes 141 = .ok (.aload_n 1, 1) := by decide +kernel
theorem dL_comes_142 : decode cL_comes 142 = .ok (.iconst 3, 1) := by decide +kernel
theorem dL_comes_143 : decode cL_comes 143 = .ok (.iaload, 1) := by decide +kernel
theorem dL_comes_144 : decode cL_comes 144 = .ok (.imul, 1) := by decide +kernel
theorem dL_comes_145 : decode cL_comes 145 = .ok (.iload 10, 2) := by decide +kernel
theorem dL_comes_147 : decode cL_comes 147 = .ok (.iadd, 1) := by decide +kernel
theorem dL_comes_148 : decode cL_comes 148 = .ok (.iload 10, 2) := by decide +kernel
theorem dL_comes_150 : decode cL_comes 150 = .ok (.ifCond .ne 7, 3) := by decide +kernel
theorem dL_comes_153 : decode cL_comes 153 = .ok (.iconst 0, 1) := by decide +kernel
theorem dL_comes_154 : decode cL_comes 154 = .ok (.goto 5, 3) := by decide +kernel
theorem dL_comes_157 : decode cL_comes 157 = .ok (.bipush (-4), 2) := by decide +kernel
theorem dL_comes_159 : decode cL_comes 159 = .ok (.iastore, 1) := by decide +kernel
theorem dL_comes_160 : decode cL_comes 160 = .ok (.iinc 10 1, 3) := by decide +kernel
theorem dL_comes_163 : decode cL_comes 163 = .ok (.goto (-32), 3) := by decide +kernel
theorem dL_comes_166 : decode cL_comes 166 = .ok (.aload_n 1, 1) := by decide +kernel
theorem dL_comes_167 : decode cL_comes 167 = .ok (.iconst 3, 1) := by decide +kernel
theorem dL_comes_168 : decode cL_comes 168 = .ok (.dup2, 1) := by decide +kernel
theorem dL_comes_169 : decode cL_comes 169 = .ok (.iaload, 1) := by decide +kernel
theorem dL_comes_170 : decode cL_comes 170 = .ok (.iconst 1, 1) := by decide +kernel
theorem dL_comes_171 : decode cL_comes 171 = .ok (.iadd, 1) := by decide +kernel
theorem dL_comes_172 : decode cL_comes 172 = .ok (.iastore, 1) := by decide +kernel
theorem dL_comes_173 : decode cL_comes 173 = .ok (.aload_n 0, 1) := by decide +kernel
theorem dL_comes_174 : decode cL_comes 174 = .ok (.invokevirtual 32, 3) := by decide +kernel
theorem dL_comes_177 : decode cL_comes 177 = .ok (.aload_n 1, 1) := by decide +kernel
theorem dL_comes_178 : decode cL_comes 178 = .ok (.iconst 3, 1) := by decide +kernel
theorem dL_comes_179 : decode cL_comes 179 = .ok (.iaload, 1) := by decide +kernel
theorem dL_comes_180 : decode cL_comes 180 = .ok (.iconst 1, 1) := by decide +kernel
theorem dL_comes_181 : decode cL_comes 181 = .ok (.isub, 1) := by decide +kernel
theorem dL_comes_182 : decode cL_comes 182 = .ok (.if_icmp .ne 7, 3) := by decide +kernel
theorem dL_comes_185 : decode cL_comes 185 = .ok (.iconst 1, 1) := by decide +kernel
theorem dL_comes_186 : decode cL_comes 186 = .ok (.goto 4, 3) := by decide +kernel
theorem dL_comes_189 : decode cL_comes 189 = .ok (.iconst 0, 1) := by decide +kernel
theorem dL_comes_190 : decode cL_comes 190 = .ok (.ireturn, 1) := by decide +kernel
theorem dL_comes_191 : decode cL_comes 191 = .ok (.iload 9, 2) := by decide +kernel
theorem dL_comes_193 : decode cL_comes 193 = .ok (.aload_n 1, 1) := by decide +kernel
theorem dL_comes_194 : decode cL_comes 194 = .ok (.iconst 3, 1) := by decide +kernel
theorem dL_comes_195 : decode cL_comes 195 = .ok (.iaload, 1) := by decide +kernel
theorem dL_comes_196 : decode cL_comes 196 = .ok (.irem, 1) := by decide +kernel
theorem dL_comes_197 : decode cL_comes 197 = .ok (.istore 10, 2) := by decide +kernel
theorem dL_comes_199 : decode cL_comes 199 = .ok (.iload 8, 2) := by decide +kernel
theorem dL_comes_201 : decode cL_comes 201 = .ok (.iconst 2, 1) := by decide +kernel
theorem dL_comes_202 : decode cL_comes 202 = .ok (.if_icmp .ne 55, 3) := by decide +kernel
theorem dL_comes_205 : decode cL_comes 205 = .ok (.aload_n 3, 1) := by decide +kernel
theorem dL_comes_206 : decode cL_comes 206 = .ok (.bipush 7, 2) := by decide +kernel
theorem dL_comes_208 : decode cL_comes 208 = .ok (.iload 10, 2) := by decide +kernel
theorem dL_comes_210 : decode cL_comes 210 = .ok (.imul, 1) := by decide +kernel
theorem dL_comes_211 : decode cL_comes 211 = .ok (.iaload, 1) := by decide +kernel
theorem dL_comes_212 : decode cL_comes 212 = .ok (.istore 11, 2) := by decide +kernel
theorem dL_comes_214 : decode cL_comes 214 = .ok (.aload_n 3, 1) := by decide +kernel
theorem dL_comes_215 : decode cL_comes 215 = .ok (.bipush 7, 2) := by decide +kernel
theorem dL_comes_217 : decode cL_comes 217 = .ok (.iload 10, 2) := by decide +kernel
theorem dL_comes_219 : decode cL_comes 219 = .ok (.imul, 1) := by decide +kernel
theorem dL_comes_220 : decode cL_comes 220 = .ok (.iload 9, 2) := by decide +kernel
theorem dL_comes_222 : decode cL_comes 222 = .ok (.iconst 5, 1) := by decide +kernel
theorem dL_comes_223 : decode cL_comes 223 = .ok (.irem, 1) := by decide +kernel
theorem dL_comes_224 : decode cL_comes 224 = .ok (.ifCond .le 7, 3) := by decide +kernel
theorem dL_comes_227 : decode cL_comes 227 = .ok (.iconst 1, 1) := by decide +kernel
theorem dL_comes_228 : decode cL_comes 228 = .ok (.goto 4, 3) := by decide +kernel
theorem dL_comes_231 : decode cL_comes 231 = .ok (.iconst 0, 1) := by decide +kernel
theorem dL_comes_232 : decode cL_comes 232 = .ok (.iastore, 1) := by decide +kernel
theorem dL_comes_233 : decode cL_comes 233 = .ok (.aload_n 0, 1) := by decide +kernel
theorem dL_comes_234 : decode cL_comes 234 = .ok (.iload 10, 2) := by decide +kernel
theorem dL_comes_236 : decode cL_comes 236 = .ok (.aload_n 3, 1) := by decide +kernel
theorem dL_comes_237 : decode cL_comes 237 = .ok (.bipush 7, 2) := by decide +kernel
theorem dL_comes_239 : decode cL_comes 239 = .ok (.iload 10, 2) := by decide +kernel
theorem dL_comes_241 : decode cL_comes 241 = .ok (.imul, 1) := by decide +kernel
theorem dL_comes_242 : decode cL_comes 242 = .ok (.iaload, 1) := by decide +kernel
theorem dL_comes_243 : decode cL_comes 243 = .ok (.invokevirtual 35, 3) := by decide +kernel
theorem dL_comes_246 : decode cL_comes 246 = .ok (.iload 11, 2) := by decide +kernel
theorem dL_comes_248 : decode cL_comes 248 = .ok (.if_icmp .ne 7, 3) := by decide +kernel
theorem dL_comes_251 : decode cL_comes 251 = .ok (.iconst 1, 1) := by decide +kernel
theorem dL_comes_252 : decode cL_comes 252 = .ok (.goto 4, 3) := by decide +kernel
theorem dL_comes_255 : decode cL_comes 255 = .ok (.iconst 0, 1) := by decide +kernel
theorem dL_comes_256 : decode cL_comes 256 = .ok (.ireturn, 1) := by decide +kernel
theorem dL_comes_257 : decode cL_comes 257 = .ok (.aload_n 1, 1) := by decide +kernel
theorem dL_comes_258 : decode cL_comes 258 = .ok (.aload_n 2, 1) := by decide +kernel
theorem dL_comes_259 : decode cL_comes 259 = .ok (.iload 9, 2) := by decide +kernel
theorem dL_comes_261 : decode cL_comes 261 = .ok (.bipush 8, 2) := by decide +kernel
theorem dL_comes_263 : decode cL_comes 263 = .ok (.idiv, 1) := by decide +kernel
theorem dL_comes_264 : decode cL_comes 264 = .ok (.invokestatic 39, 3) := by decide +kernel
theorem dL_comes_267 : decode cL_comes 267 = .ok (.istore 11, 2) := by decide +kernel
theorem dL_comes_269 : decode cL_comes 269 = .ok (.iload 8, 2) := by decide +kernel
theorem dL_comes_271 : decode cL_comes 271 = .ok (.iconst 3, 1) := by decide +kernel
theorem dL_comes_272 : decode cL_comes 272 = .ok (.if_icmp .ne 131, 3) := by decide +kernel
theorem dL_comes_275 : decode cL_comes 275 = .ok (.iconst 1, 1) := by decide +kernel
theorem dL_comes_276 : decode cL_comes 276 = .ok (.iload 9, 2) := by decide +kernel
theorem dL_comes_278 : decode cL_comes 278 = .ok (.bipush 16, 2) := by decide +kernel
theorem dL_comes_280 : decode cL_comes 280 = .ok (.idiv, 1) := by decide +kernel
theorem dL_comes_281 : decode cL_comes 281 = .ok (.iload 9, 2) := by decide +kernel
theorem dL_comes_283 : decode cL_comes 283 = .ok (.iconst 4, 1) := by decide +kernel
theorem dL_comes_284 : decode cL_comes 284 = .ok (.irem, 1) := by decide +kernel
theorem dL_comes_285 : decode cL_comes 285 = .ok (.ifCond .ne 9, 3) := by decide +kernel
theorem dL_comes_288 : decode cL_comes 288 = .ok (.sipush 9999, 3) := by decide +kernel
theorem dL_comes_291 : decode cL_comes 291 = .ok (.goto 6, 3) := by decide +kernel
theorem dL_comes_294 : decode cL_comes 294 = .ok (.sipush 300, 3) := by decide +kernel
theorem dL_comes_297 : decode cL_comes 297 = .ok (.irem, 1) := by decide +kernel
theorem dL_comes_298 : decode cL_comes 298 = .ok (.iadd, 1) := by decide +kernel
theorem dL_comes_299 : decode cL_comes 299 = .ok (.istore 12, 2) := by decide +kernel
theorem dL_comes_301 : decode cL_comes 301 = .ok (.aload_n 2, 1) := by decide +kernel
theorem dL_comes_302 : decode cL_comes 302 = .ok (.bipush 10, 2) := by decide +kernel
theorem dL_comes_304 : decode cL_comes 304 = .ok (.iload 11, 2) := by decide +kernel
theorem dL_comes_306 : decode cL_comes 306 = .ok (.imul, 1) := by decide +kernel
theorem dL_comes_307 : decode cL_comes 307 = .ok (.bipush 9, 2) := by decide +kernel
theorem dL_comes_309 : decode cL_comes 309 = .ok (.iadd, 1) := by decide +kernel
theorem dL_comes_310 : decode cL_comes 310 = .ok (.iaload, 1) := by decide +kernel
theorem dL_comes_311 : decode cL_comes 311 = .ok (.ifCond .ge 11, 3) := by decide +kernel
theorem dL_comes_314 : decode cL_comes 314 = .ok (.aload_n 1, 1) := by decide +kernel
theorem dL_comes_315 : decode cL_comes 315 = .ok (.iconst 4, 1) := by decide +kernel
theorem dL_comes_316 : decode cL_comes 316 = .ok (.iaload, 1) := by decide +kernel
theorem dL_comes_317 : decode cL_comes 317 = .ok (.bipush 24, 2) := by decide +kernel
theorem dL_comes_319 : decode cL_comes 319 = .ok (.if_icmp .ne 42, 3) := by decide +kernel
theorem dL_comes_322 : decode cL_comes 322 = .ok (.aload_n 0, 1) := by decide +kernel
theorem dL_comes_323 : decode cL_comes 323 = .ok (.iload 10, 2) := by decide +kernel
theorem dL_comes_325 : decode cL_comes 325 = .ok (.iload 11, 2) := by decide +kernel
theorem dL_comes_327 : decode cL_comes 327 = .ok (.iload 12, 2) := by decide +kernel
theorem dL_comes_329 : decode cL_comes 329 = .ok (.invokevirtual 43, 3) := by decide +kernel
theorem dL_comes_332 : decode cL_comes 332 = .ok (.aload_n 2, 1) := by decide +kernel
theorem dL_comes_333 : decode cL_comes 333 = .ok (.bipush 10, 2) := by decide +kernel
theorem dL_comes_335 : decode cL_comes 335 = .ok (.iload 11, 2) := by decide +kernel
theorem dL_comes_337 : decode cL_comes 337 = .ok (.imul, 1) := by decide +kernel
theorem dL_comes_338 : decode cL_comes 338 = .ok (.bipush 9, 2) := by decide +kernel
theorem dL_comes_340 : decode cL_comes 340 = .ok (.iadd, 1) := by decide +kernel
theorem dL_comes_341 : decode cL_comes 341 = .ok (.iaload, 1) := by decide +kernel
theorem dL_comes_342 : decode cL_comes 342 = .ok (.ifCond .lt 8, 3) := by decide +kernel
theorem dL_comes_345 : decode cL_comes 345 = .ok (.bipush (-2), 2) := by decide +kernel
theorem dL_comes_347 : decode cL_comes 347 = .ok (.goto 5, 3) := by decide +kernel
theorem dL_comes_350 : decode cL_comes 350 = .ok (.bipush (-3), 2) := by decide +kernel
theorem dL_comes_352 : decode cL_comes 352 = .ok (.if_icmp .ne 7, 3) := by decide +kernel
theorem dL_comes_355 : decode cL_comes 355 = .ok (.iconst 1, 1) := by decide +kernel
theorem dL_comes_356 : decode cL_comes 356 = .ok (.goto 4, 3) := by decide +kernel
theorem dL_comes_359 : decode cL_comes 359 = .ok (.iconst 0, 1) := by decide +kernel
theorem dL_comes_360 : decode cL_comes 360 = .ok (.ireturn, 1) := by decide +kernel
theorem dL_comes_361 : decode cL_comes 361 = .ok (.aload_n 1, 1) := by decide +kernel
theorem dL_comes_362 : decode cL_comes 362 = .ok (.aload_n 2, 1) := by decide +kernel
theorem dL_comes_363 : decode cL_comes 363 = .ok (.aload 4, 2) := by decide +kernel
theorem dL_comes_365 : decode cL_comes 365 = .ok (.aload 5, 2) := by decide +kernel
theorem dL_comes_367 : decode cL_comes 367 = .ok (.aload 6, 2) := by decide +kernel
theorem dL_comes_369 : decode cL_comes 369 = .ok (.iload 10, 2) := by decide +kernel
theorem dL_comes_371 : decode cL_comes 371 = .ok (.iload 11, 2) := by decide +kernel
theorem dL_comes_373 : decode cL_comes 373 = .ok (.iload 12, 2) := by decide +kernel
theorem dL_comes_375 : decode cL_comes 375 = .ok (.bipush (-4), 2) := by decide +kernel
theorem dL_comes_377 : decode cL_comes 377 = .ok (.invokestatic 22, 3) := by decide +kernel
theorem dL_comes_380 : decode cL_comes 380 = .ok (.istore 13, 2) := by decide +kernel
theorem dL_comes_382 : decode cL_comes 382 = .ok (.aload_n 0, 1) := by decide +kernel
theorem dL_comes_383 : decode cL_comes 383 = .ok (.iload 10, 2) := by decide +kernel
theorem dL_comes_385 : decode cL_comes 385 = .ok (.iload 11, 2) := by decide +kernel
theorem dL_comes_387 : decode cL_comes 387 = .ok (.iload 12, 2) := by decide +kernel
theorem dL_comes_389 : decode cL_comes 389 = .ok (.invokevirtual 43, 3) := by decide +kernel
theorem dL_comes_392 : decode cL_comes 392 = .ok (.iload 13, 2) := by decide +kernel
theorem dL_comes_394 : decode cL_comes 394 = .ok (.if_icmp .ne 7, 3) := by decide +kernel
theorem dL_comes_397 : decode cL_comes 397 = .ok (.iconst 1, 1) := by decide +kernel
theorem dL_comes_398 : decode cL_comes 398 = .ok (.goto 4, 3) := by decide +kernel
theorem dL_comes_401 : decode cL_comes 401 = .ok (.iconst 0, 1) := by decide +kernel
theorem dL_comes_402 : decode cL_comes 402 = .ok (.ireturn, 1) := by decide +kernel
theorem dL_comes_403 : decode cL_comes 403 = .ok (.iconst 1, 1) := by decide +kernel
theorem dL_comes_404 : decode cL_comes 404 = .ok (.iload 9, 2) := by decide +kernel
theorem dL_comes_406 : decode cL_comes 406 = .ok (.bipush 16, 2) := by decide +kernel
theorem dL_comes_408 : decode cL_comes 408 = .ok (.idiv, 1) := by decide +kernel
theorem dL_comes_409 : decode cL_comes 409 = .ok (.sipush 999, 3) := by decide +kernel
theorem dL_comes_412 : decode cL_comes 412 = .ok (.irem, 1) := by decide +kernel
theorem dL_comes_413 : decode cL_comes 413 = .ok (.iadd, 1) := by decide +kernel
theorem dL_comes_414 : decode cL_comes 414 = .ok (.istore 12, 2) := by decide +kernel
theorem dL_comes_416 : decode cL_comes 416 = .ok (.iconst 1, 1) := by decide +kernel
theorem dL_comes_417 : decode cL_comes 417 = .ok (.iload 9, 2) := by decide +kernel
theorem dL_comes_419 : decode cL_comes 419 = .ok (.iconst 5, 1) := by decide +kernel
theorem dL_comes_420 : decode cL_comes 420 = .ok (.idiv, 1) := by decide +kernel
theorem dL_comes_421 : decode cL_comes 421 = .ok (.iload 9, 2) := by decide +kernel
theorem dL_comes_423 : decode cL_comes 423 = .ok (.iconst 3, 1) := by decide +kernel
theorem dL_comes_424 : decode cL_comes 424 = .ok (.irem, 1) := by decide +kernel
theorem dL_comes_425 : decode cL_comes 425 = .ok (.ifCond .ne 8, 3) := by decide +kernel
theorem dL_comes_428 : decode cL_comes 428 = .ok (.bipush 60, 2) := by decide +kernel
theorem dL_comes_430 : decode cL_comes 430 = .ok (.goto 5, 3) := by decide +kernel
theorem dL_comes_433 : decode cL_comes 433 = .ok (.bipush 6, 2) := by decide +kernel
theorem dL_comes_435 : decode cL_comes 435 = .ok (.irem, 1) := by decide +kernel
theorem dL_comes_436 : decode cL_comes 436 = .ok (.iadd, 1) := by decide +kernel
theorem dL_comes_437 : decode cL_comes 437 = .ok (.istore 13, 2) := by decide +kernel
theorem dL_comes_439 : decode cL_comes 439 = .ok (.aload_n 2, 1) := by decide +kernel
theorem dL_comes_440 : decode cL_comes 440 = .ok (.bipush 10, 2) := by decide +kernel
theorem dL_comes_442 : decode cL_comes 442 = .ok (.iload 11, 2) := by decide +kernel
theorem dL_comes_444 : decode cL_comes 444 = .ok (.imul, 1) := by decide +kernel
theorem dL_comes_445 : decode cL_comes 445 = .ok (.bipush 9, 2) := by decide +kernel
theorem dL_comes_447 : decode cL_comes 447 = .ok (.iadd, 1) := by decide +kernel
theorem dL_comes_448 : decode cL_comes 448 = .ok (.iaload, 1) := by decide +kernel
theorem dL_comes_449 : decode cL_comes 449 = .ok (.ifCond .ge 11, 3) := by decide +kernel
theorem dL_comes_452 : decode cL_comes 452 = .ok (.aload_n 1, 1) := by decide +kernel
theorem dL_comes_453 : decode cL_comes 453 = .ok (.iconst 5, 1) := by decide +kernel
theorem dL_comes_454 : decode cL_comes 454 = .ok (.iaload, 1) := by decide +kernel
theorem dL_comes_455 : decode cL_comes 455 = .ok (.bipush 6, 2) := by decide +kernel
theorem dL_comes_457 : decode cL_comes 457 = .ok (.if_icmp .ne 44, 3) := by decide +kernel
theorem dL_comes_460 : decode cL_comes 460 = .ok (.aload_n 0, 1) := by decide +kernel
theorem dL_comes_461 : decode cL_comes 461 = .ok (.iload 10, 2) := by decide +kernel
theorem dL_comes_463 : decode cL_comes 463 = .ok (.iload 11, 2) := by decide +kernel
theorem dL_comes_465 : decode cL_comes 465 = .ok (.iload 12, 2) := by decide +kernel
theorem dL_comes_467 : decode cL_comes 467 = .ok (.iload 13, 2) := by decide +kernel
theorem dL_comes_469 : decode cL_comes 469 = .ok (.invokevirtual 47, 3) := by decide +kernel
theorem dL_comes_472 : decode cL_comes 472 = .ok (.aload_n 2, 1) := by decide +kernel
theorem dL_comes_473 : decode cL_comes 473 = .ok (.bipush 10, 2) := by decide +kernel
theorem dL_comes_475 : decode cL_comes 475 = .ok (.iload 11, 2) := by decide +kernel
theorem dL_comes_477 : decode cL_comes 477 = .ok (.imul, 1) := by decide +kernel
theorem dL_comes_478 : decode cL_comes 478 = .ok (.bipush 9, 2) := by decide +kernel
theorem dL_comes_480 : decode cL_comes 480 = .ok (.iadd, 1) := by decide +kernel
theorem dL_comes_481 : decode cL_comes 481 = .ok (.iaload, 1) := by decide +kernel
theorem dL_comes_482 : decode cL_comes 482 = .ok (.ifCond .lt 8, 3) := by decide +kernel
theorem dL_comes_485 : decode cL_comes 485 = .ok (.bipush (-2), 2) := by decide +kernel
theorem dL_comes_487 : decode cL_comes 487 = .ok (.goto 5, 3) := by decide +kernel
theorem dL_comes_490 : decode cL_comes 490 = .ok (.bipush (-3), 2) := by decide +kernel
theorem dL_comes_492 : decode cL_comes 492 = .ok (.if_icmp .ne 7, 3) := by decide +kernel
theorem dL_comes_495 : decode cL_comes 495 = .ok (.iconst 1, 1) := by decide +kernel
theorem dL_comes_496 : decode cL_comes 496 = .ok (.goto 4, 3) := by decide +kernel
theorem dL_comes_499 : decode cL_comes 499 = .ok (.iconst 0, 1) := by decide +kernel
theorem dL_comes_500 : decode cL_comes 500 = .ok (.ireturn, 1) := by decide +kernel
theorem dL_comes_501 : decode cL_comes 501 = .ok (.iconst 0, 1) := by decide +kernel
theorem dL_comes_502 : decode cL_comes 502 = .ok (.istore 14, 2) := by decide +kernel
theorem dL_comes_504 : decode cL_comes 504 = .ok (.iload 14, 2) := by decide +kernel
theorem dL_comes_506 : decode cL_comes 506 = .ok (.bipush 8, 2) := by decide +kernel
theorem dL_comes_508 : decode cL_comes 508 = .ok (.if_icmp .ge 65, 3) := by decide +kernel
theorem dL_comes_511 : decode cL_comes 511 = .ok (.aload 7, 2) := by decide +kernel
theorem dL_comes_513 : decode cL_comes 513 = .ok (.bipush 8, 2) := by decide +kernel
theorem dL_comes_515 : decode cL_comes 515 = .ok (.aload_n 1, 1) := by decide +kernel
theorem dL_comes_516 : decode cL_comes 516 = .ok (.iconst 5, 1) := by decide +kernel
theorem dL_comes_517 : decode cL_comes 517 = .ok (.iaload, 1) := by decide +kernel
theorem dL_comes_518 : decode cL_comes 518 = .ok (.imul, 1) := by decide +kernel
theorem dL_comes_519 : decode cL_comes 519 = .ok (.iload 14, 2) := by decide +kernel
theorem dL_comes_521 : decode cL_comes 521 = .ok (.iadd, 1) := by decide +kernel
theorem dL_comes_522 : decode cL_comes 522 = .ok (.iload 14, 2) := by decide +kernel
theorem dL_comes_524 : decode cL_comes 524 = .ok (.ifCond .ne 8, 3) := by decide +kernel
theorem dL_comes_527 : decode cL_comes 527 = .ok (.iload 10, 2) := by decide +kernel
theorem dL_comes_529 : decode cL_comes 529 = .ok (.goto 37, 3) := by decide +kernel
theorem dL_comes_532 : decode cL_comes 532 = .ok (.iload 14, 2) := by decide +kernel
theorem dL_comes_534 : decode cL_comes 534 = .ok (.iconst 1, 1) := by decide +kernel
theorem dL_comes_535 : decode cL_comes 535 = .ok (.if_icmp .ne 8, 3) := by decide +kernel
theorem dL_comes_538 : decode cL_comes 538 = .ok (.iload 11, 2) := by decide +kernel
theorem dL_comes_540 : decode cL_comes 540 = .ok (.goto 26, 3) := by decide +kernel
theorem dL_comes_543 : decode cL_comes 543 = .ok (.iload 14, 2) := by decide +kernel
theorem dL_comes_545 : decode cL_comes 545 = .ok (.iconst 2, 1) := by decide +kernel
theorem dL_comes_546 : decode cL_comes 546 = .ok (.if_icmp .ne 8, 3) := by decide +kernel
theorem dL_comes_549 : decode cL_comes 549 = .ok (.iload 12, 2) := by decide +kernel
theorem dL_comes_551 : decode cL_comes 551 = .ok (.goto 15, 3) := by decide +kernel
theorem dL_comes_554 : decode cL_comes 554 = .ok (.iload 14, 2) := by decide +kernel
theorem dL_comes_556 : decode cL_comes 556 = .ok (.iconst 3, 1) := by decide +kernel
theorem dL_comes_557 : decode cL_comes 557 = .ok (.if_icmp .ne 8, 3) := by decide +kernel
theorem dL_comes_560 : decode cL_comes 560 = .ok (.iload 13, 2) := by decide +kernel
theorem dL_comes_562 : decode cL_comes 562 = .ok (.goto 4, 3) := by decide +kernel
theorem dL_comes_565 : decode cL_comes 565 = .ok (.iconst 0, 1) := by decide +kernel
theorem dL_comes_566 : decode cL_comes 566 = .ok (.iastore, 1) := by decide +kernel
theorem dL_comes_567 : decode cL_comes 567 = .ok (.iinc 14 1, 3) := by decide +kernel
theorem dL_comes_570 : decode cL_comes 570 = .ok (.goto (-66), 3) := by decide +kernel
theorem dL_comes_573 : decode cL_comes 573 = .ok (.aload_n 1, 1) := by decide +kernel
theorem dL_comes_574 : decode cL_comes 574 = .ok (.iconst 5, 1) := by decide +kernel
theorem dL_comes_575 : decode cL_comes 575 = .ok (.dup2, 1) := by decide +kernel
theorem dL_comes_576 : decode cL_comes 576 = .ok (.iaload, 1) := by decide +kernel
theorem dL_comes_577 : decode cL_comes 577 = .ok (.iconst 1, 1) := by decide +kernel
theorem dL_comes_578 : decode cL_comes 578 = .ok (.iadd, 1) := by decide +kernel
theorem dL_comes_579 : decode cL_comes 579 = .ok (.iastore, 1) := by decide +kernel
theorem dL_comes_580 : decode cL_comes 580 = .ok (.aload_n 0, 1) := by decide +kernel
theorem dL_comes_581 : decode cL_comes 581 = .ok (.iload 10, 2) := by decide +kernel
theorem dL_comes_583 : decode cL_comes 583 = .ok (.iload 11, 2) := by decide +kernel
theorem dL_comes_585 : decode cL_comes 585 = .ok (.iload 12, 2) := by decide +kernel
theorem dL_comes_587 : decode cL_comes 587 = .ok (.iload 13, 2) := by decide +kernel
theorem dL_comes_589 : decode cL_comes 589 = .ok (.invokevirtual 47, 3) := by decide +kernel
theorem dL_comes_592 : decode cL_comes 592 = .ok (.aload_n 1, 1) := by decide +kernel
theorem dL_comes_593 : decode cL_comes 593 = .ok (.iconst 5, 1) := by decide +kernel
theorem dL_comes_594 : decode cL_comes 594 = .ok (.iaload, 1) := by decide +kernel
theorem dL_comes_595 : decode cL_comes 595 = .ok (.iconst 1, 1) := by decide +kernel
theorem dL_comes_596 : decode cL_comes 596 = .ok (.isub, 1) := by decide +kernel
theorem dL_comes_597 : decode cL_comes 597 = .ok (.if_icmp .ne 7, 3) := by decide +kernel
theorem dL_comes_600 : decode cL_comes 600 = .ok (.iconst 1, 1) := by decide +kernel
theorem dL_comes_601 : decode cL_comes 601 = .ok (.goto 4, 3) := by decide +kernel
theorem dL_comes_604 : decode cL_comes 604 = .ok (.iconst 0, 1) := by decide +kernel
theorem dL_comes_605 : decode cL_comes 605 = .ok (.ireturn, 1) := by decide +kernel
theorem dL_merges_0 : decode cL_merges 0 = .ok (.iload 8, 2) := by decide +kernel
theorem dL_merges_2 : decode cL_merges 2 = .ok (.iload 9, 2) := by decide +kernel
theorem dL_merges_4 : decode cL_merges 4 = .ok (.if_icmp .ne 33, 3) := by decide +kernel
theorem dL_merges_7 : decode cL_merges 7 = .ok (.aload_n 0, 1) := by decide +kernel
theorem dL_merges_8 : decode cL_merges 8 = .ok (.iload 8, 2) := by decide +kernel
theorem dL_merges_10 : decode cL_merges 10 = .ok (.iload 9, 2) := by decide +kernel
theorem dL_merges_12 : decode cL_merges 12 = .ok (.invokevirtual 51, 3) := by decide +kernel
theorem dL_merges_15 : decode cL_merges 15 = .ok (.iconst (-1), 1) := by decide +kernel
theorem dL_merges_16 : decode cL_merges 16 = .ok (.if_icmp .ne 19, 3) := by decide +kernel
theorem dL_merges_19 : decode cL_merges 19 = .ok (.aload_n 0, 1) := by decide +kernel
theorem dL_merges_20 : decode cL_merges 20 = .ok (.iload 8, 2) := by decide +kernel
theorem dL_merges_22 : decode cL_merges 22 = .ok (.iload 9, 2) := by decide +kernel
theorem dL_merges_24 : decode cL_merges 24 = .ok (.invokevirtual 54, 3) := by decide +kernel
theorem dL_merges_27 : decode cL_merges 27 = .ok (.iconst (-1), 1) := by decide +kernel
theorem dL_merges_28 : decode cL_merges 28 = .ok (.if_icmp .ne 7, 3) := by decide +kernel
theorem dL_merges_31 : decode cL_merges 31 = .ok (.iconst 1, 1) := by decide +kernel
theorem dL_merges_32 : decode cL_merges 32 = .ok (.goto 4, 3) := by decide +kernel
theorem dL_merges_35 : decode cL_merges 35 = .ok (.iconst 0, 1) := by decide +kernel
theorem dL_merges_36 : decode cL_merges 36 = .ok (.ireturn, 1) := by decide +kernel
theorem dL_merges_37 : decode cL_merges 37 = .ok (.aload_n 1, 1) := by decide +kernel
theorem dL_merges_38 : decode cL_merges 38 = .ok (.aload_n 3, 1) := by decide +kernel
theorem dL_merges_39 : decode cL_merges 39 = .ok (.aload 4, 2) := by decide +kernel
theorem dL_merges_41 : decode cL_merges 41 = .ok (.aload 5, 2) := by decide +kernel
theorem dL_merges_43 : decode cL_merges 43 = .ok (.aload 6, 2) := by decide +kernel
theorem dL_merges_45 : decode cL_merges 45 = .ok (.iload 8, 2) := by decide +kernel
theorem dL_merges_47 : decode cL_merges 47 = .ok (.iconst (-1), 1) := by decide +kernel
theorem dL_merges_48 : decode cL_merges 48 = .ok (.invokestatic 57, 3) := by decide +kernel
theorem dL_merges_51 : decode cL_merges 51 = .ok (.istore 10, 2) := by decide +kernel
theorem dL_merges_53 : decode cL_merges 53 = .ok (.aload_n 1, 1) := by decide +kernel
theorem dL_merges_54 : decode cL_merges 54 = .ok (.aload_n 3, 1) := by decide +kernel
theorem dL_merges_55 : decode cL_merges 55 = .ok (.aload 4, 2) := by decide +kernel
theorem dL_merges_57 : decode cL_merges 57 = .ok (.aload 5, 2) := by decide +kernel
theorem dL_merges_59 : decode cL_merges 59 = .ok (.aload 6, 2) := by decide +kernel
theorem dL_merges_61 : decode cL_merges 61 = .ok (.iload 8, 2) := by decide +kernel
theorem dL_merges_63 : decode cL_merges 63 = .ok (.iload 9, 2) := by decide +kernel
theorem dL_merges_65 : decode cL_merges 65 = .ok (.invokestatic 57, 3) := by decide +kernel
theorem dL_merges_68 : decode cL_merges 68 = .ok (.istore 11, 2) := by decide +kernel
theorem dL_merges_70 : decode cL_merges 70 = .ok (.iload 8, 2) := by decide +kernel
theorem dL_merges_72 : decode cL_merges 72 = .ok (.ifCond .eq 48, 3) := by decide +kernel
theorem dL_merges_75 : decode cL_merges 75 = .ok (.aload_n 2, 1) := by decide +kernel
theorem dL_merges_76 : decode cL_merges 76 = .ok (.bipush 10, 2) := by decide +kernel
theorem dL_merges_78 : decode cL_merges 78 = .ok (.iload 8, 2) := by decide +kernel
theorem dL_merges_80 : decode cL_merges 80 = .ok (.imul, 1) := by decide +kernel
theorem dL_merges_81 : decode cL_merges 81 = .ok (.bipush 9, 2) := by decide +kernel
theorem dL_merges_83 : decode cL_merges 83 = .ok (.iadd, 1) := by decide +kernel
theorem dL_merges_84 : decode cL_merges 84 = .ok (.iaload, 1) := by decide +kernel
theorem dL_merges_85 : decode cL_merges 85 = .ok (.ifCond .ge 35, 3) := by decide +kernel
theorem dL_merges_88 : decode cL_merges 88 = .ok (.aload_n 2, 1) := by decide +kernel
theorem dL_merges_89 : decode cL_merges 89 = .ok (.bipush 10, 2) := by decide +kernel
theorem dL_merges_91 : decode cL_merges 91 = .ok (.iload 9, 2) := by decide +kernel
theorem dL_merges_93 : decode cL_merges 93 = .ok (.imul, 1) := by decide +kernel
theorem dL_merges_94 : decode cL_merges 94 = .ok (.bipush 9, 2) := by decide +kernel
theorem dL_merges_96 : decode cL_merges 96 = .ok (.iadd, 1) := by decide +kernel
theorem dL_merges_97 : decode cL_merges 97 = .ok (.iaload, 1) := by decide +kernel
theorem dL_merges_98 : decode cL_merges 98 = .ok (.ifCond .ge 22, 3) := by decide +kernel
theorem dL_merges_101 : decode cL_merges 101 = .ok (.iload 10, 2) := by decide +kernel
theorem dL_merges_103 : decode cL_merges 103 = .ok (.ifCond .eq 17, 3) := by decide +kernel
theorem dL_merges_106 : decode cL_merges 106 = .ok (.iload 11, 2) := by decide +kernel
theorem dL_merges_108 : decode cL_merges 108 = .ok (.bipush 100, 2) := by decide +kernel
theorem dL_merges_110 : decode cL_merges 110 = .ok (.imul, 1) := by decide +kernel
theorem dL_merges_111 : decode cL_merges 111 = .ok (.iload 10, 2) := by decide +kernel
theorem dL_merges_113 : decode cL_merges 113 = .ok (.aload_n 1, 1) := by decide +kernel
theorem dL_merges_114 : decode cL_merges 114 = .ok (.iconst 0, 1) := by decide +kernel
theorem dL_merges_115 : decode cL_merges 115 = .ok (.iaload, 1) := by decide +kernel
theorem dL_merges_116 : decode cL_merges 116 = .ok (.imul, 1) := by decide +kernel
theorem dL_merges_117 : decode cL_merges 117 = .ok (.if_icmp .ge 22, 3) := by decide +kernel
theorem dL_merges_120 : decode cL_merges 120 = .ok (.aload_n 0, 1) := by decide +kernel
theorem dL_merges_121 : decode cL_merges 121 = .ok (.iload 8, 2) := by decide +kernel
theorem dL_merges_123 : decode cL_merges 123 = .ok (.iload 9, 2) := by decide +kernel
theorem dL_merges_125 : decode cL_merges 125 = .ok (.invokevirtual 51, 3) := by decide +kernel
theorem dL_merges_128 : decode cL_merges 128 = .ok (.bipush (-2), 2) := by decide +kernel
theorem dL_merges_130 : decode cL_merges 130 = .ok (.if_icmp .ne 7, 3) := by decide +kernel
theorem dL_merges_133 : decode cL_merges 133 = .ok (.iconst 1, 1) := by decide +kernel
theorem dL_merges_134 : decode cL_merges 134 = .ok (.goto 4, 3) := by decide +kernel
theorem dL_merges_137 : decode cL_merges 137 = .ok (.iconst 0, 1) := by decide +kernel
theorem dL_merges_138 : decode cL_merges 138 = .ok (.ireturn, 1) := by decide +kernel
theorem dL_merges_139 : decode cL_merges 139 = .ok (.aload_n 2, 1) := by decide +kernel
theorem dL_merges_140 : decode cL_merges 140 = .ok (.bipush 10, 2) := by decide +kernel
theorem dL_merges_142 : decode cL_merges 142 = .ok (.iload 8, 2) := by decide +kernel
theorem dL_merges_144 : decode cL_merges 144 = .ok (.imul, 1) := by decide +kernel
theorem dL_merges_145 : decode cL_merges 145 = .ok (.iaload, 1) := by decide +kernel
theorem dL_merges_146 : decode cL_merges 146 = .ok (.istore 12, 2) := by decide +kernel
theorem dL_merges_148 : decode cL_merges 148 = .ok (.aload_n 2, 1) := by decide +kernel
theorem dL_merges_149 : decode cL_merges 149 = .ok (.bipush 10, 2) := by decide +kernel
theorem dL_merges_151 : decode cL_merges 151 = .ok (.iload 8, 2) := by decide +kernel
theorem dL_merges_153 : decode cL_merges 153 = .ok (.imul, 1) := by decide +kernel
theorem dL_merges_154 : decode cL_merges 154 = .ok (.iconst 0, 1) := by decide +kernel
theorem dL_merges_155 : decode cL_merges 155 = .ok (.iastore, 1) := by decide +kernel
theorem dL_merges_156 : decode cL_merges 156 = .ok (.aload_n 2, 1) := by decide +kernel
theorem dL_merges_157 : decode cL_merges 157 = .ok (.bipush 10, 2) := by decide +kernel
theorem dL_merges_159 : decode cL_merges 159 = .ok (.iload 8, 2) := by decide +kernel
theorem dL_merges_161 : decode cL_merges 161 = .ok (.imul, 1) := by decide +kernel
theorem dL_merges_162 : decode cL_merges 162 = .ok (.bipush 8, 2) := by decide +kernel
theorem dL_merges_164 : decode cL_merges 164 = .ok (.iadd, 1) := by decide +kernel
theorem dL_merges_165 : decode cL_merges 165 = .ok (.dup2, 1) := by decide +kernel
theorem dL_merges_166 : decode cL_merges 166 = .ok (.iaload, 1) := by decide +kernel
theorem dL_merges_167 : decode cL_merges 167 = .ok (.iload 12, 2) := by decide +kernel
theorem dL_merges_169 : decode cL_merges 169 = .ok (.iadd, 1) := by decide +kernel
theorem dL_merges_170 : decode cL_merges 170 = .ok (.iastore, 1) := by decide +kernel
theorem dL_merges_171 : decode cL_merges 171 = .ok (.aload_n 2, 1) := by decide +kernel
theorem dL_merges_172 : decode cL_merges 172 = .ok (.bipush 10, 2) := by decide +kernel
theorem dL_merges_174 : decode cL_merges 174 = .ok (.iload 8, 2) := by decide +kernel
theorem dL_merges_176 : decode cL_merges 176 = .ok (.imul, 1) := by decide +kernel
theorem dL_merges_177 : decode cL_merges 177 = .ok (.bipush 9, 2) := by decide +kernel
theorem dL_merges_179 : decode cL_merges 179 = .ok (.iadd, 1) := by decide +kernel
theorem dL_merges_180 : decode cL_merges 180 = .ok (.iload 9, 2) := by decide +kernel
theorem dL_merges_182 : decode cL_merges 182 = .ok (.iastore, 1) := by decide +kernel
theorem dL_merges_183 : decode cL_merges 183 = .ok (.aload_n 2, 1) := by decide +kernel
theorem dL_merges_184 : decode cL_merges 184 = .ok (.bipush 10, 2) := by decide +kernel
theorem dL_merges_186 : decode cL_merges 186 = .ok (.iload 9, 2) := by decide +kernel
theorem dL_merges_188 : decode cL_merges 188 = .ok (.imul, 1) := by decide +kernel
theorem dL_merges_189 : decode cL_merges 189 = .ok (.dup2, 1) := by decide +kernel
theorem dL_merges_190 : decode cL_merges 190 = .ok (.iaload, 1) := by decide +kernel
theorem dL_merges_191 : decode cL_merges 191 = .ok (.iload 12, 2) := by decide +kernel
theorem dL_merges_193 : decode cL_merges 193 = .ok (.iadd, 1) := by decide +kernel
theorem dL_merges_194 : decode cL_merges 194 = .ok (.iastore, 1) := by decide +kernel
theorem dL_merges_195 : decode cL_merges 195 = .ok (.aload_n 2, 1) := by decide +kernel
theorem dL_merges_196 : decode cL_merges 196 = .ok (.bipush 10, 2) := by decide +kernel
theorem dL_merges_198 : decode cL_merges 198 = .ok (.iload 9, 2) := by decide +kernel
theorem dL_merges_200 : decode cL_merges 200 = .ok (.imul, 1) := by decide +kernel
theorem dL_merges_201 : decode cL_merges 201 = .ok (.bipush 7, 2) := by decide +kernel
theorem dL_merges_203 : decode cL_merges 203 = .ok (.iadd, 1) := by decide +kernel
theorem dL_merges_204 : decode cL_merges 204 = .ok (.dup2, 1) := by decide +kernel
theorem dL_merges_205 : decode cL_merges 205 = .ok (.iaload, 1) := by decide +kernel
theorem dL_merges_206 : decode cL_merges 206 = .ok (.iload 12, 2) := by decide +kernel
theorem dL_merges_208 : decode cL_merges 208 = .ok (.iadd, 1) := by decide +kernel
theorem dL_merges_209 : decode cL_merges 209 = .ok (.iastore, 1) := by decide +kernel
theorem dL_merges_210 : decode cL_merges 210 = .ok (.iconst 0, 1) := by decide +kernel
theorem dL_merges_211 : decode cL_merges 211 = .ok (.istore 13, 2) := by decide +kernel
theorem dL_merges_213 : decode cL_merges 213 = .ok (.iload 13, 2) := by decide +kernel
theorem dL_merges_215 : decode cL_merges 215 = .ok (.aload_n 1, 1) := by decide +kernel
theorem dL_merges_216 : decode cL_merges 216 = .ok (.iconst 5, 1) := by decide +kernel
theorem dL_merges_217 : decode cL_merges 217 = .ok (.iaload, 1) := by decide +kernel
theorem dL_merges_218 : decode cL_merges 218 = .ok (.if_icmp .ge 140, 3) := by decide +kernel
theorem dL_merges_221 : decode cL_merges 221 = .ok (.aload 7, 2) := by decide +kernel
theorem dL_merges_223 : decode cL_merges 223 = .ok (.bipush 8, 2) := by decide +kernel
theorem dL_merges_225 : decode cL_merges 225 = .ok (.iload 13, 2) := by decide +kernel
theorem dL_merges_227 : decode cL_merges 227 = .ok (.imul, 1) := by decide +kernel
theorem dL_merges_228 : decode cL_merges 228 = .ok (.iconst 5, 1) := by decide +kernel
theorem dL_merges_229 : decode cL_merges 229 = .ok (.iadd, 1) := by decide +kernel
theorem dL_merges_230 : decode cL_merges 230 = .ok (.iaload, 1) := by decide +kernel
theorem dL_merges_231 : decode cL_merges 231 = .ok (.ifCond .ne 121, 3) := by decide +kernel
theorem dL_merges_234 : decode cL_merges 234 = .ok (.aload 7, 2) := by decide +kernel
theorem dL_merges_236 : decode cL_merges 236 = .ok (.bipush 8, 2) := by decide +kernel
theorem dL_merges_238 : decode cL_merges 238 = .ok (.iload 13, 2) := by decide +kernel
theorem dL_merges_240 : decode cL_merges 240 = .ok (.imul, 1) := by decide +kernel
theorem dL_merges_241 : decode cL_merges 241 = .ok (.iconst 1, 1) := by decide +kernel
theorem dL_merges_242 : decode cL_merges 242 = .ok (.iadd, 1) := by decide +kernel
theorem dL_merges_243 : decode cL_merges 243 = .ok (.iaload, 1) := by decide +kernel
theorem dL_merges_244 : decode cL_merges 244 = .ok (.iload 8, 2) := by decide +kernel
theorem dL_merges_246 : decode cL_merges 246 = .ok (.if_icmp .ne 106, 3) := by decide +kernel
theorem dL_merges_249 : decode cL_merges 249 = .ok (.aload_n 3, 1) := by decide +kernel
theorem dL_merges_250 : decode cL_merges 250 = .ok (.bipush 7, 2) := by decide +kernel
theorem dL_merges_252 : decode cL_merges 252 = .ok (.aload 7, 2) := by decide +kernel
theorem dL_merges_254 : decode cL_merges 254 = .ok (.bipush 8, 2) := by decide +kernel
theorem dL_merges_256 : decode cL_merges 256 = .ok (.iload 13, 2) := by decide +kernel
theorem dL_merges_258 : decode cL_merges 258 = .ok (.imul, 1) := by decide +kernel
theorem dL_merges_259 : decode cL_merges 259 = .ok (.iaload, 1) := by decide +kernel
theorem dL_merges_260 : decode cL_merges 260 = .ok (.imul, 1) := by decide +kernel
theorem dL_merges_261 : decode cL_merges 261 = .ok (.iconst 1, 1) := by decide +kernel
theorem dL_merges_262 : decode cL_merges 262 = .ok (.iadd, 1) := by decide +kernel
theorem dL_merges_263 : decode cL_merges 263 = .ok (.iload 8, 2) := by decide +kernel
theorem dL_merges_265 : decode cL_merges 265 = .ok (.iadd, 1) := by decide +kernel
theorem dL_merges_266 : decode cL_merges 266 = .ok (.iaload, 1) := by decide +kernel
theorem dL_merges_267 : decode cL_merges 267 = .ok (.iload 9, 2) := by decide +kernel
theorem dL_merges_269 : decode cL_merges 269 = .ok (.if_icmp .ne 7, 3) := by decide +kernel
theorem dL_merges_272 : decode cL_merges 272 = .ok (.iconst 1, 1) := by decide +kernel
theorem dL_merges_273 : decode cL_merges 273 = .ok (.goto 4, 3) := by decide +kernel
theorem dL_merges_276 : decode cL_merges 276 = .ok (.iconst 0, 1) := by decide +kernel
theorem dL_merges_277 : decode cL_merges 277 = .ok (.istore 14, 2) := by decide +kernel
theorem dL_merges_279 : decode cL_merges 279 = .ok (.aload 7, 2) := by decide +kernel
theorem dL_merges_281 : decode cL_merges 281 = .ok (.bipush 8, 2) := by decide +kernel
theorem dL_merges_283 : decode cL_merges 283 = .ok (.iload 13, 2) := by decide +kernel
theorem dL_merges_285 : decode cL_merges 285 = .ok (.imul, 1) := by decide +kernel
theorem dL_merges_286 : decode cL_merges 286 = .ok (.iconst 1, 1) := by decide +kernel
theorem dL_merges_287 : decode cL_merges 287 = .ok (.iadd, 1) := by decide +kernel
theorem dL_merges_288 : decode cL_merges 288 = .ok (.iload 14, 2) := by decide +kernel
theorem dL_merges_290 : decode cL_merges 290 = .ok (.ifCond .eq 8, 3) := by decide +kernel
theorem dL_merges_293 : decode cL_merges 293 = .ok (.iload 9, 2) := by decide +kernel
theorem dL_merges_295 : decode cL_merges 295 = .ok (.goto 5, 3) := by decide +kernel
theorem dL_merges_298 : decode cL_merges 298 = .ok (.iload 8, 2) := by decide +kernel
theorem dL_merges_300 : decode cL_merges 300 = .ok (.iastore, 1) := by decide +kernel
theorem dL_merges_301 : decode cL_merges 301 = .ok (.aload 7, 2) := by decide +kernel
theorem dL_merges_303 : decode cL_merges 303 = .ok (.bipush 8, 2) := by decide +kernel
theorem dL_merges_305 : decode cL_merges 305 = .ok (.iload 13, 2) := by decide +kernel
theorem dL_merges_307 : decode cL_merges 307 = .ok (.imul, 1) := by decide +kernel
theorem dL_merges_308 : decode cL_merges 308 = .ok (.iconst 5, 1) := by decide +kernel
theorem dL_merges_309 : decode cL_merges 309 = .ok (.iadd, 1) := by decide +kernel
theorem dL_merges_310 : decode cL_merges 310 = .ok (.iload 14, 2) := by decide +kernel
theorem dL_merges_312 : decode cL_merges 312 = .ok (.ifCond .eq 7, 3) := by decide +kernel
theorem dL_merges_315 : decode cL_merges 315 = .ok (.iconst 0, 1) := by decide +kernel
theorem dL_merges_316 : decode cL_merges 316 = .ok (.goto 4, 3) := by decide +kernel
theorem dL_merges_319 : decode cL_merges 319 = .ok (.iconst 2, 1) := by decide +kernel
theorem dL_merges_320 : decode cL_merges 320 = .ok (.iastore, 1) := by decide +kernel
theorem dL_merges_321 : decode cL_merges 321 = .ok (.aload 7, 2) := by decide +kernel
theorem dL_merges_323 : decode cL_merges 323 = .ok (.bipush 8, 2) := by decide +kernel
theorem dL_merges_325 : decode cL_merges 325 = .ok (.iload 13, 2) := by decide +kernel
theorem dL_merges_327 : decode cL_merges 327 = .ok (.imul, 1) := by decide +kernel
theorem dL_merges_328 : decode cL_merges 328 = .ok (.bipush 7, 2) := by decide +kernel
theorem dL_merges_330 : decode cL_merges 330 = .ok (.iadd, 1) := by decide +kernel
theorem dL_merges_331 : decode cL_merges 331 = .ok (.iload 14, 2) := by decide +kernel
theorem dL_merges_333 : decode cL_merges 333 = .ok (.ifCond .eq 17, 3) := by decide +kernel
theorem dL_merges_336 : decode cL_merges 336 = .ok (.aload 7, 2) := by decide +kernel
theorem dL_merges_338 : decode cL_merges 338 = .ok (.bipush 8, 2) := by decide +kernel
theorem dL_merges_340 : decode cL_merges 340 = .ok (.iload 13, 2) := by decide +kernel
theorem dL_merges_342 : decode cL_merges 342 = .ok (.imul, 1) := by decide +kernel
theorem dL_merges_343 : decode cL_merges 343 = .ok (.bipush 7, 2) := by decide +kernel
theorem dL_merges_345 : decode cL_merges 345 = .ok (.iadd, 1) := by decide +kernel
theorem dL_merges_346 : decode cL_merges 346 = .ok (.iaload, 1) := by decide +kernel
theorem dL_merges_347 : decode cL_merges 347 = .ok (.goto 4, 3) := by decide +kernel
theorem dL_merges_350 : decode cL_merges 350 = .ok (.iconst 0, 1) := by decide +kernel
theorem dL_merges_351 : decode cL_merges 351 = .ok (.iastore, 1) := by decide +kernel
theorem dL_merges_352 : decode cL_merges 352 = .ok (.iinc 13 1, 3) := by decide +kernel
theorem dL_merges_355 : decode cL_merges 355 = .ok (.goto (-142), 3) := by decide +kernel
theorem dL_merges_358 : decode cL_merges 358 = .ok (.iconst 0, 1) := by decide +kernel
theorem dL_merges_359 : decode cL_merges 359 = .ok (.istore 13, 2) := by decide +kernel
theorem dL_merges_361 : decode cL_merges 361 = .ok (.iload 13, 2) := by decide +kernel
theorem dL_merges_363 : decode cL_merges 363 = .ok (.aload_n 1, 1) := by decide +kernel
theorem dL_merges_364 : decode cL_merges 364 = .ok (.iconst 3, 1) := by decide +kernel
theorem dL_merges_365 : decode cL_merges 365 = .ok (.iaload, 1) := by decide +kernel
theorem dL_merges_366 : decode cL_merges 366 = .ok (.if_icmp .ge 23, 3) := by decide +kernel
theorem dL_merges_369 : decode cL_merges 369 = .ok (.aload_n 3, 1) := by decide +kernel
theorem dL_merges_370 : decode cL_merges 370 = .ok (.bipush 7, 2) := by decide +kernel
theorem dL_merges_372 : decode cL_merges 372 = .ok (.iload 13, 2) := by decide +kernel
theorem dL_merges_374 : decode cL_merges 374 = .ok (.imul, 1) := by decide +kernel
theorem dL_merges_375 : decode cL_merges 375 = .ok (.iconst 1, 1) := by decide +kernel
theorem dL_merges_376 : decode cL_merges 376 = .ok (.iadd, 1) := by decide +kernel
theorem dL_merges_377 : decode cL_merges 377 = .ok (.iload 8, 2) := by decide +kernel
theorem dL_merges_379 : decode cL_merges 379 = .ok (.iadd, 1) := by decide +kernel
theorem dL_merges_380 : decode cL_merges 380 = .ok (.bipush (-4), 2) := by decide +kernel
theorem dL_merges_382 : decode cL_merges 382 = .ok (.iastore, 1) := by decide +kernel
theorem dL_merges_383 : decode cL_merges 383 = .ok (.iinc 13 1, 3) := by decide +kernel
theorem dL_merges_386 : decode cL_merges 386 = .ok (.goto (-25), 3) := by decide +kernel
theorem dL_merges_389 : decode cL_merges 389 = .ok (.aload_n 0, 1) := by decide +kernel
theorem dL_merges_390 : decode cL_merges 390 = .ok (.iload 8, 2) := by decide +kernel
theorem dL_merges_392 : decode cL_merges 392 = .ok (.iload 9, 2) := by decide +kernel
theorem dL_merges_394 : decode cL_merges 394 = .ok (.invokevirtual 51, 3) := by decide +kernel
theorem dL_merges_397 : decode cL_merges 397 = .ok (.iload 12, 2) := by decide +kernel
theorem dL_merges_399 : decode cL_merges 399 = .ok (.if_icmp .ne 7, 3) := by decide +kernel
theorem dL_merges_402 : decode cL_merges 402 = .ok (.iconst 1, 1) := by decide +kernel
theorem dL_merges_403 : decode cL_merges 403 = .ok (.goto 4, 3) := by decide +kernel
theorem dL_merges_406 : decode cL_merges 406 = .ok (.iconst 0, 1) := by decide +kernel
theorem dL_merges_407 : decode cL_merges 407 = .ok (.ireturn, 1) := by decide +kernel
theorem dL_acts_0 : decode cL_acts 0 = .ok (.iload 8, 2) := by decide +kernel
theorem dL_acts_2 : decode cL_acts 2 = .ok (.iconst 5, 1) := by decide +kernel
theorem dL_acts_3 : decode cL_acts 3 = .ok (.ishr, 1) := by decide +kernel
theorem dL_acts_4 : decode cL_acts 4 = .ok (.ldc 61, 2) := by decide +kernel
theorem dL_acts_6 : decode cL_acts 6 = .ok (.invokestatic 62, 3) := by decide +kernel
theorem dL_acts_9 : decode cL_acts 9 = .ok (.istore 9, 2) := by decide +kernel
theorem dL_acts_11 : decode cL_acts 11 = .ok (.iload 8, 2) := by decide +kernel
theorem dL_acts_13 : decode cL_acts 13 = .ok (.bipush 30, 2) := by decide +kernel
theorem dL_acts_15 : decode cL_acts 15 = .ok (.invokestatic 62, 3) := by decide +kernel
theorem dL_acts_18 : decode cL_acts 18 = .ok (.istore 10, 2) := by decide +kernel
theorem dL_acts_20 : decode cL_acts 20 = .ok (.iload 10, 2) := by decide +kernel
theorem dL_acts_22 : decode cL_acts 22 = .ok (.bipush 9, 2) := by decide +kernel
theorem dL_acts_24 : decode cL_acts 24 = .ok (.if_icmp .lt 9, 3) := by decide +kernel
theorem dL_acts_27 : decode cL_acts 27 = .ok (.aload_n 1, 1) := by decide +kernel
theorem dL_acts_28 : decode cL_acts 28 = .ok (.iconst 3, 1) := by decide +kernel
theorem dL_acts_29 : decode cL_acts 29 = .ok (.iaload, 1) := by decide +kernel
theorem dL_acts_30 : decode cL_acts 30 = .ok (.ifCond .ne 44, 3) := by decide +kernel
theorem dL_acts_33 : decode cL_acts 33 = .ok (.aload_n 0, 1) := by decide +kernel
theorem dL_acts_34 : decode cL_acts 34 = .ok (.aload_n 1, 1) := by decide +kernel
theorem dL_acts_35 : decode cL_acts 35 = .ok (.aload_n 2, 1) := by decide +kernel
theorem dL_acts_36 : decode cL_acts 36 = .ok (.aload_n 3, 1) := by decide +kernel
theorem dL_acts_37 : decode cL_acts 37 = .ok (.aload 4, 2) := by decide +kernel
theorem dL_acts_39 : decode cL_acts 39 = .ok (.aload 5, 2) := by decide +kernel
theorem dL_acts_41 : decode cL_acts 41 = .ok (.aload 6, 2) := by decide +kernel
theorem dL_acts_43 : decode cL_acts 43 = .ok (.aload 7, 2) := by decide +kernel
theorem dL_acts_45 : decode cL_acts 45 = .ok (.iload 10, 2) := by decide +kernel
theorem dL_acts_47 : decode cL_acts 47 = .ok (.iconst 3, 1) := by decide +kernel
theorem dL_acts_48 : decode cL_acts 48 = .ok (.if_icmp .ge 8, 3) := by decide +kernel
theorem dL_acts_51 : decode cL_acts 51 = .ok (.iload 10, 2) := by decide +kernel
theorem dL_acts_53 : decode cL_acts 53 = .ok (.goto 15, 3) := by decide +kernel
theorem dL_acts_56 : decode cL_acts 56 = .ok (.iload 10, 2) := by decide +kernel
theorem dL_acts_58 : decode cL_acts 58 = .ok (.bipush 7, 2) := by decide +kernel
theorem dL_acts_60 : decode cL_acts 60 = .ok (.if_icmp .ge 7, 3) := by decide +kernel
theorem dL_acts_63 : decode cL_acts 63 = .ok (.iconst 3, 1) := by decide +kernel
theorem dL_acts_64 : decode cL_acts 64 = .ok (.goto 4, 3) := by decide +kernel
theorem dL_acts_67 : decode cL_acts 67 = .ok (.iconst 4, 1) := by decide +kernel
theorem dL_acts_68 : decode cL_acts 68 = .ok (.iload 9, 2) := by decide +kernel
theorem dL_acts_70 : decode cL_acts 70 = .ok (.invokestatic 65, 3) := by decide +kernel
theorem dL_acts_73 : decode cL_acts 73 = .ok (.ireturn, 1) := by decide +kernel
theorem dL_acts_74 : decode cL_acts 74 = .ok (.iload 10, 2) := by decide +kernel
theorem dL_acts_76 : decode cL_acts 76 = .ok (.bipush 11, 2) := by decide +kernel
theorem dL_acts_78 : decode cL_acts 78 = .ok (.if_icmp .ge 230, 3) := by decide +kernel
theorem dL_acts_81 : decode cL_acts 81 = .ok (.aload_n 1, 1) := by decide +kernel
theorem dL_acts_82 : decode cL_acts 82 = .ok (.iconst 5, 1) := by decide +kernel
theorem dL_acts_83 : decode cL_acts 83 = .ok (.iaload, 1) := by decide +kernel
theorem dL_acts_84 : decode cL_acts 84 = .ok (.ifCond .ne 27, 3) := by decide +kernel
theorem dL_acts_87 : decode cL_acts 87 = .ok (.aload_n 0, 1) := by decide +kernel
theorem dL_acts_88 : decode cL_acts 88 = .ok (.iconst 0, 1) := by decide +kernel
theorem dL_acts_89 : decode cL_acts 89 = .ok (.invokevirtual 69, 3) := by decide +kernel
theorem dL_acts_92 : decode cL_acts 92 = .ok (.iconst (-1), 1) := by decide +kernel
theorem dL_acts_93 : decode cL_acts 93 = .ok (.if_icmp .ne 16, 3) := by decide +kernel
theorem dL_acts_96 : decode cL_acts 96 = .ok (.aload_n 0, 1) := by decide +kernel
theorem dL_acts_97 : decode cL_acts 97 = .ok (.iconst 0, 1) := by decide +kernel
theorem dL_acts_98 : decode cL_acts 98 = .ok (.invokevirtual 73, 3) := by decide +kernel
theorem dL_acts_101 : decode cL_acts 101 = .ok (.iconst (-1), 1) := by decide +kernel
theorem dL_acts_102 : decode cL_acts 102 = .ok (.if_icmp .ne 7, 3) := by decide +kernel
theorem dL_acts_105 : decode cL_acts 105 = .ok (.iconst 1, 1) := by decide +kernel
theorem dL_acts_106 : decode cL_acts 106 = .ok (.goto 4, 3) := by decide +kernel
theorem dL_acts_109 : decode cL_acts 109 = .ok (.iconst 0, 1) := by decide +kernel
theorem dL_acts_110 : decode cL_acts 110 = .ok (.ireturn, 1) := by decide +kernel
theorem dL_acts_111 : decode cL_acts 111 = .ok (.bipush 8, 2) := by decide +kernel
theorem dL_acts_113 : decode cL_acts 113 = .ok (.iload 9, 2) := by decide +kernel
theorem dL_acts_115 : decode cL_acts 115 = .ok (.aload_n 1, 1) := by decide +kernel
theorem dL_acts_116 : decode cL_acts 116 = .ok (.iconst 5, 1) := by decide +kernel
theorem dL_acts_117 : decode cL_acts 117 = .ok (.iaload, 1) := by decide +kernel
theorem dL_acts_118 : decode cL_acts 118 = .ok (.irem, 1) := by decide +kernel
theorem dL_acts_119 : decode cL_acts 119 = .ok (.imul, 1) := by decide +kernel
theorem dL_acts_120 : decode cL_acts 120 = .ok (.istore 11, 2) := by decide +kernel
theorem dL_acts_122 : decode cL_acts 122 = .ok (.iload 10, 2) := by decide +kernel
theorem dL_acts_124 : decode cL_acts 124 = .ok (.bipush 9, 2) := by decide +kernel
theorem dL_acts_126 : decode cL_acts 126 = .ok (.if_icmp .eq 10, 3) := by decide +kernel
theorem dL_acts_129 : decode cL_acts 129 = .ok (.iload 9, 2) := by decide +kernel
theorem dL_acts_131 : decode cL_acts 131 = .ok (.iconst 4, 1) := by decide +kernel
theorem dL_acts_132 : decode cL_acts 132 = .ok (.irem, 1) := by decide +kernel
theorem dL_acts_133 : decode cL_acts 133 = .ok (.ifCond .le 91, 3) := by decide +kernel
theorem dL_acts_136 : decode cL_acts 136 = .ok (.aload 7, 2) := by decide +kernel
theorem dL_acts_138 : decode cL_acts 138 = .ok (.iload 11, 2) := by decide +kernel
theorem dL_acts_140 : decode cL_acts 140 = .ok (.iconst 5, 1) := by decide +kernel
theorem dL_acts_141 : decode cL_acts 141 = .ok (.iadd, 1) := by decide +kernel
theorem dL_acts_142 : decode cL_acts 142 = .ok (.iaload, 1) := by decide +kernel
theorem dL_acts_143 : decode cL_acts 143 = .ok (.ifCond .ne 18, 3) := by decide +kernel
theorem dL_acts_146 : decode cL_acts 146 = .ok (.aload 7, 2) := by decide +kernel
theorem dL_acts_148 : decode cL_acts 148 = .ok (.iload 11, 2) := by decide +kernel
theorem dL_acts_150 : decode cL_acts 150 = .ok (.bipush 7, 2) := by decide +kernel
theorem dL_acts_152 : decode cL_acts 152 = .ok (.iadd, 1) := by decide +kernel
theorem dL_acts_153 : decode cL_acts 153 = .ok (.iaload, 1) := by decide +kernel
theorem dL_acts_154 : decode cL_acts 154 = .ok (.ifCond .ne 7, 3) := by decide +kernel
theorem dL_acts_157 : decode cL_acts 157 = .ok (.iconst 1, 1) := by decide +kernel
theorem dL_acts_158 : decode cL_acts 158 = .ok (.goto 4, 3) := by decide +kernel
theorem dL_acts_161 : decode cL_acts 161 = .ok (.iconst 0, 1) := by decide +kernel
theorem dL_acts_162 : decode cL_acts 162 = .ok (.istore 12, 2) := by decide +kernel
theorem dL_acts_164 : decode cL_acts 164 = .ok (.aload 7, 2) := by decide +kernel
theorem dL_acts_166 : decode cL_acts 166 = .ok (.iload 11, 2) := by decide +kernel
theorem dL_acts_168 : decode cL_acts 168 = .ok (.bipush 7, 2) := by decide +kernel
theorem dL_acts_170 : decode cL_acts 170 = .ok (.iadd, 1) := by decide +kernel
theorem dL_acts_171 : decode cL_acts 171 = .ok (.iload 12, 2) := by decide +kernel
theorem dL_acts_173 : decode cL_acts 173 = .ok (.ifCond .eq 7, 3) := by decide +kernel
theorem dL_acts_176 : decode cL_acts 176 = .ok (.iconst 1, 1) := by decide +kernel
theorem dL_acts_177 : decode cL_acts 177 = .ok (.goto 11, 3) := by decide +kernel
theorem dL_acts_180 : decode cL_acts 180 = .ok (.aload 7, 2) := by decide +kernel
theorem dL_acts_182 : decode cL_acts 182 = .ok (.iload 11, 2) := by decide +kernel
theorem dL_acts_184 : decode cL_acts 184 = .ok (.bipush 7, 2) := by decide +kernel
theorem dL_acts_186 : decode cL_acts 186 = .ok (.iadd, 1) := by decide +kernel
theorem dL_acts_187 : decode cL_acts 187 = .ok (.iaload, 1) := by decide +kernel
theorem dL_acts_188 : decode cL_acts 188 = .ok (.iastore, 1) := by decide +kernel
theorem dL_acts_189 : decode cL_acts 189 = .ok (.aload_n 0, 1) := by decide +kernel
theorem dL_acts_190 : decode cL_acts 190 = .ok (.iload 11, 2) := by decide +kernel
theorem dL_acts_192 : decode cL_acts 192 = .ok (.bipush 8, 2) := by decide +kernel
theorem dL_acts_194 : decode cL_acts 194 = .ok (.idiv, 1) := by decide +kernel
theorem dL_acts_195 : decode cL_acts 195 = .ok (.invokevirtual 69, 3) := by decide +kernel
theorem dL_acts_198 : decode cL_acts 198 = .ok (.iload 12, 2) := by decide +kernel
theorem dL_acts_200 : decode cL_acts 200 = .ok (.ifCond .eq 13, 3) := by decide +kernel
theorem dL_acts_203 : decode cL_acts 203 = .ok (.aload 7, 2) := by decide +kernel
theorem dL_acts_205 : decode cL_acts 205 = .ok (.iload 11, 2) := by decide +kernel
theorem dL_acts_207 : decode cL_acts 207 = .ok (.iconst 4, 1) := by decide +kernel
theorem dL_acts_208 : decode cL_acts 208 = .ok (.iadd, 1) := by decide +kernel
theorem dL_acts_209 : decode cL_acts 209 = .ok (.iaload, 1) := by decide +kernel
theorem dL_acts_210 : decode cL_acts 210 = .ok (.goto 5, 3) := by decide +kernel
theorem dL_acts_213 : decode cL_acts 213 = .ok (.bipush (-2), 2) := by decide +kernel
theorem dL_acts_215 : decode cL_acts 215 = .ok (.if_icmp .ne 7, 3) := by decide +kernel
theorem dL_acts_218 : decode cL_acts 218 = .ok (.iconst 1, 1) := by decide +kernel
theorem dL_acts_219 : decode cL_acts 219 = .ok (.goto 4, 3) := by decide +kernel
theorem dL_acts_222 : decode cL_acts 222 = .ok (.iconst 0, 1) := by decide +kernel
theorem dL_acts_223 : decode cL_acts 223 = .ok (.ireturn, 1) := by decide +kernel
theorem dL_acts_224 : decode cL_acts 224 = .ok (.aload 7, 2) := by decide +kernel
theorem dL_acts_226 : decode cL_acts 226 = .ok (.iload 11, 2) := by decide +kernel
theorem dL_acts_228 : decode cL_acts 228 = .ok (.iconst 5, 1) := by decide +kernel
theorem dL_acts_229 : decode cL_acts 229 = .ok (.iadd, 1) := by decide +kernel
theorem dL_acts_230 : decode cL_acts 230 = .ok (.iaload, 1) := by decide +kernel
theorem dL_acts_231 : decode cL_acts 231 = .ok (.ifCond .ne 7, 3) := by decide +kernel
theorem dL_acts_234 : decode cL_acts 234 = .ok (.iconst 1, 1) := by decide +kernel
theorem dL_acts_235 : decode cL_acts 235 = .ok (.goto 4, 3) := by decide +kernel
theorem dL_acts_238 : decode cL_acts 238 = .ok (.iconst 0, 1) := by decide +kernel
theorem dL_acts_239 : decode cL_acts 239 = .ok (.istore 12, 2) := by decide +kernel
theorem dL_acts_241 : decode cL_acts 241 = .ok (.aload 7, 2) := by decide +kernel
theorem dL_acts_243 : decode cL_acts 243 = .ok (.iload 11, 2) := by decide +kernel
theorem dL_acts_245 : decode cL_acts 245 = .ok (.iconst 5, 1) := by decide +kernel
theorem dL_acts_246 : decode cL_acts 246 = .ok (.iadd, 1) := by decide +kernel
theorem dL_acts_247 : decode cL_acts 247 = .ok (.iload 12, 2) := by decide +kernel
theorem dL_acts_249 : decode cL_acts 249 = .ok (.ifCond .eq 7, 3) := by decide +kernel
theorem dL_acts_252 : decode cL_acts 252 = .ok (.iconst 2, 1) := by decide +kernel
theorem dL_acts_253 : decode cL_acts 253 = .ok (.goto 10, 3) := by decide +kernel
theorem dL_acts_256 : decode cL_acts 256 = .ok (.aload 7, 2) := by decide +kernel
theorem dL_acts_258 : decode cL_acts 258 = .ok (.iload 11, 2) := by decide +kernel
theorem dL_acts_260 : decode cL_acts 260 = .ok (.iconst 5, 1) := by decide +kernel
theorem dL_acts_261 : decode cL_acts 261 = .ok (.iadd, 1) := by decide +kernel
theorem dL_acts_262 : decode cL_acts 262 = .ok (.iaload, 1) := by decide +kernel
theorem dL_acts_263 : decode cL_acts 263 = .ok (.iastore, 1) := by decide +kernel
theorem dL_acts_264 : decode cL_acts 264 = .ok (.aload 7, 2) := by decide +kernel
theorem dL_acts_266 : decode cL_acts 266 = .ok (.iload 11, 2) := by decide +kernel
theorem dL_acts_268 : decode cL_acts 268 = .ok (.bipush 7, 2) := by decide +kernel
theorem dL_acts_270 : decode cL_acts 270 = .ok (.iadd, 1) := by decide +kernel
theorem dL_acts_271 : decode cL_acts 271 = .ok (.iconst 0, 1) := by decide +kernel
theorem dL_acts_272 : decode cL_acts 272 = .ok (.iastore, 1) := by decide +kernel
theorem dL_acts_273 : decode cL_acts 273 = .ok (.aload_n 0, 1) := by decide +kernel
theorem dL_acts_274 : decode cL_acts 274 = .ok (.iload 11, 2) := by decide +kernel
theorem dL_acts_276 : decode cL_acts 276 = .ok (.bipush 8, 2) := by decide +kernel
theorem dL_acts_278 : decode cL_acts 278 = .ok (.idiv, 1) := by decide +kernel
theorem dL_acts_279 : decode cL_acts 279 = .ok (.invokevirtual 73, 3) := by decide +kernel
theorem dL_acts_282 : decode cL_acts 282 = .ok (.iload 12, 2) := by decide +kernel
theorem dL_acts_284 : decode cL_acts 284 = .ok (.ifCond .eq 13, 3) := by decide +kernel
theorem dL_acts_287 : decode cL_acts 287 = .ok (.aload 7, 2) := by decide +kernel
theorem dL_acts_289 : decode cL_acts 289 = .ok (.iload 11, 2) := by decide +kernel
theorem dL_acts_291 : decode cL_acts 291 = .ok (.iconst 3, 1) := by decide +kernel
theorem dL_acts_292 : decode cL_acts 292 = .ok (.iadd, 1) := by decide +kernel
theorem dL_acts_293 : decode cL_acts 293 = .ok (.iaload, 1) := by decide +kernel
theorem dL_acts_294 : decode cL_acts 294 = .ok (.goto 5, 3) := by decide +kernel
theorem dL_acts_297 : decode cL_acts 297 = .ok (.bipush (-2), 2) := by decide +kernel
theorem dL_acts_299 : decode cL_acts 299 = .ok (.if_icmp .ne 7, 3) := by decide +kernel
theorem dL_acts_302 : decode cL_acts 302 = .ok (.iconst 1, 1) := by decide +kernel
theorem dL_acts_303 : decode cL_acts 303 = .ok (.goto 4, 3) := by decide +kernel
theorem dL_acts_306 : decode cL_acts 306 = .ok (.iconst 0, 1) := by decide +kernel
theorem dL_acts_307 : decode cL_acts 307 = .ok (.ireturn, 1) := by decide +kernel
theorem dL_acts_308 : decode cL_acts 308 = .ok (.iload 10, 2) := by decide +kernel
theorem dL_acts_310 : decode cL_acts 310 = .ok (.bipush 14, 2) := by decide +kernel
theorem dL_acts_312 : decode cL_acts 312 = .ok (.if_icmp .ge 52, 3) := by decide +kernel
theorem dL_acts_315 : decode cL_acts 315 = .ok (.iconst 1, 1) := by decide +kernel
theorem dL_acts_316 : decode cL_acts 316 = .ok (.newarray .int, 2) := by decide +kernel
theorem dL_acts_318 : decode cL_acts 318 = .ok (.astore 11, 2) := by decide +kernel
theorem dL_acts_320 : decode cL_acts 320 = .ok (.aload_n 1, 1) := by decide +kernel
theorem dL_acts_321 : decode cL_acts 321 = .ok (.aload_n 2, 1) := by decide +kernel
theorem dL_acts_322 : decode cL_acts 322 = .ok (.aload_n 3, 1) := by decide +kernel
theorem dL_acts_323 : decode cL_acts 323 = .ok (.aload 4, 2) := by decide +kernel
theorem dL_acts_325 : decode cL_acts 325 = .ok (.aload 5, 2) := by decide +kernel
theorem dL_acts_327 : decode cL_acts 327 = .ok (.aload 6, 2) := by decide +kernel
theorem dL_acts_329 : decode cL_acts 329 = .ok (.iconst (-1), 1) := by decide +kernel
theorem dL_acts_330 : decode cL_acts 330 = .ok (.aload 11, 2) := by decide +kernel
theorem dL_acts_332 : decode cL_acts 332 = .ok (.invokestatic 76, 3) := by decide +kernel
theorem dL_acts_335 : decode cL_acts 335 = .ok (.istore 12, 2) := by decide +kernel
theorem dL_acts_337 : decode cL_acts 337 = .ok (.aload_n 0, 1) := by decide +kernel
theorem dL_acts_338 : decode cL_acts 338 = .ok (.invokevirtual 80, 3) := by decide +kernel
theorem dL_acts_341 : decode cL_acts 341 = .ok (.aload 11, 2) := by decide +kernel
theorem dL_acts_343 : decode cL_acts 343 = .ok (.iconst 0, 1) := by decide +kernel
theorem dL_acts_344 : decode cL_acts 344 = .ok (.iaload, 1) := by decide +kernel
theorem dL_acts_345 : decode cL_acts 345 = .ok (.ifCond .ne 8, 3) := by decide +kernel
theorem dL_acts_348 : decode cL_acts 348 = .ok (.bipush (-2), 2) := by decide +kernel
theorem dL_acts_350 : decode cL_acts 350 = .ok (.goto 5, 3) := by decide +kernel
theorem dL_acts_353 : decode cL_acts 353 = .ok (.iload 12, 2) := by decide +kernel
theorem dL_acts_355 : decode cL_acts 355 = .ok (.if_icmp .ne 7, 3) := by decide +kernel
theorem dL_acts_358 : decode cL_acts 358 = .ok (.iconst 1, 1) := by decide +kernel
theorem dL_acts_359 : decode cL_acts 359 = .ok (.goto 4, 3) := by decide +kernel
theorem dL_acts_362 : decode cL_acts 362 = .ok (.iconst 0, 1) := by decide +kernel
theorem dL_acts_363 : decode cL_acts 363 = .ok (.ireturn, 1) := by decide +kernel
theorem dL_acts_364 : decode cL_acts 364 = .ok (.iload 9, 2) := by decide +kernel
theorem dL_acts_366 : decode cL_acts 366 = .ok (.aload_n 1, 1) := by decide +kernel
theorem dL_acts_367 : decode cL_acts 367 = .ok (.iconst 2, 1) := by decide +kernel
theorem dL_acts_368 : decode cL_acts 368 = .ok (.iaload, 1) := by decide +kernel
theorem dL_acts_369 : decode cL_acts 369 = .ok (.irem, 1) := by decide +kernel
theorem dL_acts_370 : decode cL_acts 370 = .ok (.istore 11, 2) := by decide +kernel
theorem dL_acts_372 : decode cL_acts 372 = .ok (.iload 10, 2) := by decide +kernel
theorem dL_acts_374 : decode cL_acts 374 = .ok (.bipush 17, 2) := by decide +kernel
theorem dL_acts_376 : decode cL_acts 376 = .ok (.if_icmp .ge 186, 3) := by decide +kernel
theorem dL_acts_379 : decode cL_acts 379 = .ok (.iconst 1, 1) := by decide +kernel
theorem dL_acts_380 : decode cL_acts 380 = .ok (.iload 9, 2) := by decide +kernel
theorem dL_acts_382 : decode cL_acts 382 = .ok (.bipush 6, 2) := by decide +kernel
theorem dL_acts_384 : decode cL_acts 384 = .ok (.idiv, 1) := by decide +kernel
theorem dL_acts_385 : decode cL_acts 385 = .ok (.iload 9, 2) := by decide +kernel
theorem dL_acts_387 : decode cL_acts 387 = .ok (.iconst 3, 1) := by decide +kernel
theorem dL_acts_388 : decode cL_acts 388 = .ok (.irem, 1) := by decide +kernel
theorem dL_acts_389 : decode cL_acts 389 = .ok (.ifCond .ne 9, 3) := by decide +kernel
theorem dL_acts_392 : decode cL_acts 392 = .ok (.sipush 9999, 3) := by decide +kernel
theorem dL_acts_395 : decode cL_acts 395 = .ok (.goto 6, 3) := by decide +kernel
theorem dL_acts_398 : decode cL_acts 398 = .ok (.sipush 150, 3) := by decide +kernel
theorem dL_acts_401 : decode cL_acts 401 = .ok (.irem, 1) := by decide +kernel
theorem dL_acts_402 : decode cL_acts 402 = .ok (.iadd, 1) := by decide +kernel
theorem dL_acts_403 : decode cL_acts 403 = .ok (.istore 12, 2) := by decide +kernel
theorem dL_acts_405 : decode cL_acts 405 = .ok (.aload_n 2, 1) := by decide +kernel
theorem dL_acts_406 : decode cL_acts 406 = .ok (.bipush 10, 2) := by decide +kernel
theorem dL_acts_408 : decode cL_acts 408 = .ok (.iload 11, 2) := by decide +kernel
theorem dL_acts_410 : decode cL_acts 410 = .ok (.imul, 1) := by decide +kernel
theorem dL_acts_411 : decode cL_acts 411 = .ok (.iaload, 1) := by decide +kernel
theorem dL_acts_412 : decode cL_acts 412 = .ok (.iload 12, 2) := by decide +kernel
theorem dL_acts_414 : decode cL_acts 414 = .ok (.if_icmp .ge 16, 3) := by decide +kernel
theorem dL_acts_417 : decode cL_acts 417 = .ok (.iload 12, 2) := by decide +kernel
theorem dL_acts_419 : decode cL_acts 419 = .ok (.aload_n 2, 1) := by decide +kernel
theorem dL_acts_420 : decode cL_acts 420 = .ok (.bipush 10, 2) := by decide +kernel
theorem dL_acts_422 : decode cL_acts 422 = .ok (.iload 11, 2) := by decide +kernel
theorem dL_acts_424 : decode cL_acts 424 = .ok (.imul, 1) := by decide +kernel
theorem dL_acts_425 : decode cL_acts 425 = .ok (.iaload, 1) := by decide +kernel
theorem dL_acts_426 : decode cL_acts 426 = .ok (.isub, 1) := by decide +kernel
theorem dL_acts_427 : decode cL_acts 427 = .ok (.goto 4, 3) := by decide +kernel
theorem dL_acts_430 : decode cL_acts 430 = .ok (.iconst 0, 1) := by decide +kernel
theorem dL_acts_431 : decode cL_acts 431 = .ok (.istore 13, 2) := by decide +kernel
theorem dL_acts_433 : decode cL_acts 433 = .ok (.aload_n 2, 1) := by decide +kernel
theorem dL_acts_434 : decode cL_acts 434 = .ok (.bipush 10, 2) := by decide +kernel
theorem dL_acts_436 : decode cL_acts 436 = .ok (.iload 11, 2) := by decide +kernel
theorem dL_acts_438 : decode cL_acts 438 = .ok (.imul, 1) := by decide +kernel
theorem dL_acts_439 : decode cL_acts 439 = .ok (.bipush 9, 2) := by decide +kernel
theorem dL_acts_441 : decode cL_acts 441 = .ok (.iadd, 1) := by decide +kernel
theorem dL_acts_442 : decode cL_acts 442 = .ok (.iaload, 1) := by decide +kernel
theorem dL_acts_443 : decode cL_acts 443 = .ok (.ifCond .ge 21, 3) := by decide +kernel
theorem dL_acts_446 : decode cL_acts 446 = .ok (.iload 13, 2) := by decide +kernel
theorem dL_acts_448 : decode cL_acts 448 = .ok (.ifCond .le 35, 3) := by decide +kernel
theorem dL_acts_451 : decode cL_acts 451 = .ok (.iload 11, 2) := by decide +kernel
theorem dL_acts_453 : decode cL_acts 453 = .ok (.ifCond .eq 11, 3) := by decide +kernel
theorem dL_acts_456 : decode cL_acts 456 = .ok (.aload_n 2, 1) := by decide +kernel
theorem dL_acts_457 : decode cL_acts 457 = .ok (.iconst 0, 1) := by decide +kernel
theorem dL_acts_458 : decode cL_acts 458 = .ok (.iaload, 1) := by decide +kernel
theorem dL_acts_459 : decode cL_acts 459 = .ok (.iload 13, 2) := by decide +kernel
theorem dL_acts_461 : decode cL_acts 461 = .ok (.if_icmp .ge 22, 3) := by decide +kernel
theorem dL_acts_464 : decode cL_acts 464 = .ok (.aload_n 0, 1) := by decide +kernel
theorem dL_acts_465 : decode cL_acts 465 = .ok (.iload 11, 2) := by decide +kernel
theorem dL_acts_467 : decode cL_acts 467 = .ok (.iload 12, 2) := by decide +kernel
theorem dL_acts_469 : decode cL_acts 469 = .ok (.invokevirtual 82, 3) := by decide +kernel
theorem dL_acts_472 : decode cL_acts 472 = .ok (.bipush (-2), 2) := by decide +kernel
theorem dL_acts_474 : decode cL_acts 474 = .ok (.if_icmp .ne 7, 3) := by decide +kernel
theorem dL_acts_477 : decode cL_acts 477 = .ok (.iconst 1, 1) := by decide +kernel
theorem dL_acts_478 : decode cL_acts 478 = .ok (.goto 4, 3) := by decide +kernel
theorem dL_acts_481 : decode cL_acts 481 = .ok (.iconst 0, 1) := by decide +kernel
theorem dL_acts_482 : decode cL_acts 482 = .ok (.ireturn, 1) := by decide +kernel
theorem dL_acts_483 : decode cL_acts 483 = .ok (.aload_n 2, 1) := by decide +kernel
theorem dL_acts_484 : decode cL_acts 484 = .ok (.bipush 10, 2) := by decide +kernel
theorem dL_acts_486 : decode cL_acts 486 = .ok (.iload 11, 2) := by decide +kernel
theorem dL_acts_488 : decode cL_acts 488 = .ok (.imul, 1) := by decide +kernel
theorem dL_acts_489 : decode cL_acts 489 = .ok (.dup2, 1) := by decide +kernel
theorem dL_acts_490 : decode cL_acts 490 = .ok (.iaload, 1) := by decide +kernel
theorem dL_acts_491 : decode cL_acts 491 = .ok (.iload 12, 2) := by decide +kernel
theorem dL_acts_493 : decode cL_acts 493 = .ok (.iload 13, 2) := by decide +kernel
theorem dL_acts_495 : decode cL_acts 495 = .ok (.isub, 1) := by decide +kernel
theorem dL_acts_496 : decode cL_acts 496 = .ok (.isub, 1) := by decide +kernel
theorem dL_acts_497 : decode cL_acts 497 = .ok (.iastore, 1) := by decide +kernel
theorem dL_acts_498 : decode cL_acts 498 = .ok (.aload_n 2, 1) := by decide +kernel
theorem dL_acts_499 : decode cL_acts 499 = .ok (.bipush 10, 2) := by decide +kernel
theorem dL_acts_501 : decode cL_acts 501 = .ok (.iload 11, 2) := by decide +kernel
theorem dL_acts_503 : decode cL_acts 503 = .ok (.imul, 1) := by decide +kernel
theorem dL_acts_504 : decode cL_acts 504 = .ok (.iconst 3, 1) := by decide +kernel
theorem dL_acts_505 : decode cL_acts 505 = .ok (.iadd, 1) := by decide +kernel
theorem dL_acts_506 : decode cL_acts 506 = .ok (.dup2, 1) := by decide +kernel
theorem dL_acts_507 : decode cL_acts 507 = .ok (.iaload, 1) := by decide +kernel
theorem dL_acts_508 : decode cL_acts 508 = .ok (.iload 12, 2) := by decide +kernel
theorem dL_acts_510 : decode cL_acts 510 = .ok (.iadd, 1) := by decide +kernel
theorem dL_acts_511 : decode cL_acts 511 = .ok (.iastore, 1) := by decide +kernel
theorem dL_acts_512 : decode cL_acts 512 = .ok (.aload_n 2, 1) := by decide +kernel
theorem dL_acts_513 : decode cL_acts 513 = .ok (.bipush 10, 2) := by decide +kernel
theorem dL_acts_515 : decode cL_acts 515 = .ok (.iload 11, 2) := by decide +kernel
theorem dL_acts_517 : decode cL_acts 517 = .ok (.imul, 1) := by decide +kernel
theorem dL_acts_518 : decode cL_acts 518 = .ok (.iconst 4, 1) := by decide +kernel
theorem dL_acts_519 : decode cL_acts 519 = .ok (.iadd, 1) := by decide +kernel
theorem dL_acts_520 : decode cL_acts 520 = .ok (.dup2, 1) := by decide +kernel
theorem dL_acts_521 : decode cL_acts 521 = .ok (.iaload, 1) := by decide +kernel
theorem dL_acts_522 : decode cL_acts 522 = .ok (.iload 13, 2) := by decide +kernel
theorem dL_acts_524 : decode cL_acts 524 = .ok (.iadd, 1) := by decide +kernel
theorem dL_acts_525 : decode cL_acts 525 = .ok (.iastore, 1) := by decide +kernel
theorem dL_acts_526 : decode cL_acts 526 = .ok (.aload_n 2, 1) := by decide +kernel
theorem dL_acts_527 : decode cL_acts 527 = .ok (.iconst 0, 1) := by decide +kernel
theorem dL_acts_528 : decode cL_acts 528 = .ok (.dup2, 1) := by decide +kernel
theorem dL_acts_529 : decode cL_acts 529 = .ok (.iaload, 1) := by decide +kernel
theorem dL_acts_530 : decode cL_acts 530 = .ok (.iload 13, 2) := by decide +kernel
theorem dL_acts_532 : decode cL_acts 532 = .ok (.isub, 1) := by decide +kernel
theorem dL_acts_533 : decode cL_acts 533 = .ok (.iastore, 1) := by decide +kernel
theorem dL_acts_534 : decode cL_acts 534 = .ok (.aload_n 1, 1) := by decide +kernel
theorem dL_acts_535 : decode cL_acts 535 = .ok (.bipush 7, 2) := by decide +kernel
theorem dL_acts_537 : decode cL_acts 537 = .ok (.dup2, 1) := by decide +kernel
theorem dL_acts_538 : decode cL_acts 538 = .ok (.iaload, 1) := by decide +kernel
theorem dL_acts_539 : decode cL_acts 539 = .ok (.iload 13, 2) := by decide +kernel
theorem dL_acts_541 : decode cL_acts 541 = .ok (.iadd, 1) := by decide +kernel
theorem dL_acts_542 : decode cL_acts 542 = .ok (.iastore, 1) := by decide +kernel
theorem dL_acts_543 : decode cL_acts 543 = .ok (.aload_n 0, 1) := by decide +kernel
theorem dL_acts_544 : decode cL_acts 544 = .ok (.iload 11, 2) := by decide +kernel
theorem dL_acts_546 : decode cL_acts 546 = .ok (.iload 12, 2) := by decide +kernel
theorem dL_acts_548 : decode cL_acts 548 = .ok (.invokevirtual 82, 3) := by decide +kernel
theorem dL_acts_551 : decode cL_acts 551 = .ok (.iload 13, 2) := by decide +kernel
theorem dL_acts_553 : decode cL_acts 553 = .ok (.if_icmp .ne 7, 3) := by decide +kernel
theorem dL_acts_556 : decode cL_acts 556 = .ok (.iconst 1, 1) := by decide +kernel
theorem dL_acts_557 : decode cL_acts 557 = .ok (.goto 4, 3) := by decide +kernel
theorem dL_acts_560 : decode cL_acts 560 = .ok (.iconst 0, 1) := by decide +kernel
theorem dL_acts_561 : decode cL_acts 561 = .ok (.ireturn, 1) := by decide +kernel
theorem dL_acts_562 : decode cL_acts 562 = .ok (.iload 9, 2) := by decide +kernel
theorem dL_acts_564 : decode cL_acts 564 = .ok (.bipush 6, 2) := by decide +kernel
theorem dL_acts_566 : decode cL_acts 566 = .ok (.idiv, 1) := by decide +kernel
theorem dL_acts_567 : decode cL_acts 567 = .ok (.aload_n 1, 1) := by decide +kernel
theorem dL_acts_568 : decode cL_acts 568 = .ok (.iconst 2, 1) := by decide +kernel
theorem dL_acts_569 : decode cL_acts 569 = .ok (.iaload, 1) := by decide +kernel
theorem dL_acts_570 : decode cL_acts 570 = .ok (.irem, 1) := by decide +kernel
theorem dL_acts_571 : decode cL_acts 571 = .ok (.istore 12, 2) := by decide +kernel
theorem dL_acts_573 : decode cL_acts 573 = .ok (.iload 10, 2) := by decide +kernel
theorem dL_acts_575 : decode cL_acts 575 = .ok (.bipush 21, 2) := by decide +kernel
theorem dL_acts_577 : decode cL_acts 577 = .ok (.if_icmp .ge 143, 3) := by decide +kernel
theorem dL_acts_580 : decode cL_acts 580 = .ok (.iload 9, 2) := by decide +kernel
theorem dL_acts_582 : decode cL_acts 582 = .ok (.bipush 36, 2) := by decide +kernel
theorem dL_acts_584 : decode cL_acts 584 = .ok (.idiv, 1) := by decide +kernel
theorem dL_acts_585 : decode cL_acts 585 = .ok (.aload_n 1, 1) := by decide +kernel
theorem dL_acts_586 : decode cL_acts 586 = .ok (.iconst 3, 1) := by decide +kernel
theorem dL_acts_587 : decode cL_acts 587 = .ok (.iaload, 1) := by decide +kernel
theorem dL_acts_588 : decode cL_acts 588 = .ok (.irem, 1) := by decide +kernel
theorem dL_acts_589 : decode cL_acts 589 = .ok (.istore 13, 2) := by decide +kernel
theorem dL_acts_591 : decode cL_acts 591 = .ok (.iload 11, 2) := by decide +kernel
theorem dL_acts_593 : decode cL_acts 593 = .ok (.ifCond .eq 29, 3) := by decide +kernel
theorem dL_acts_596 : decode cL_acts 596 = .ok (.aload_n 2, 1) := by decide +kernel
theorem dL_acts_597 : decode cL_acts 597 = .ok (.bipush 10, 2) := by decide +kernel
theorem dL_acts_599 : decode cL_acts 599 = .ok (.iload 11, 2) := by decide +kernel
theorem dL_acts_601 : decode cL_acts 601 = .ok (.imul, 1) := by decide +kernel
theorem dL_acts_602 : decode cL_acts 602 = .ok (.bipush 9, 2) := by decide +kernel
theorem dL_acts_604 : decode cL_acts 604 = .ok (.iadd, 1) := by decide +kernel
theorem dL_acts_605 : decode cL_acts 605 = .ok (.iaload, 1) := by decide +kernel
theorem dL_acts_606 : decode cL_acts 606 = .ok (.ifCond .ge 16, 3) := by decide +kernel
theorem dL_acts_609 : decode cL_acts 609 = .ok (.aload_n 2, 1) := by decide +kernel
theorem dL_acts_610 : decode cL_acts 610 = .ok (.bipush 10, 2) := by decide +kernel
theorem dL_acts_612 : decode cL_acts 612 = .ok (.iload 12, 2) := by decide +kernel
theorem dL_acts_614 : decode cL_acts 614 = .ok (.imul, 1) := by decide +kernel
theorem dL_acts_615 : decode cL_acts 615 = .ok (.bipush 9, 2) := by decide +kernel
theorem dL_acts_617 : decode cL_acts 617 = .ok (.iadd, 1) := by decide +kernel
theorem dL_acts_618 : decode cL_acts 618 = .ok (.iaload, 1) := by decide +kernel
theorem dL_acts_619 : decode cL_acts 619 = .ok (.ifCond .lt 7, 3) := by decide +kernel
theorem dL_acts_622 : decode cL_acts 622 = .ok (.iconst 1, 1) := by decide +kernel
theorem dL_acts_623 : decode cL_acts 623 = .ok (.goto 4, 3) := by decide +kernel
theorem dL_acts_626 : decode cL_acts 626 = .ok (.iconst 0, 1) := by decide +kernel
theorem dL_acts_627 : decode cL_acts 627 = .ok (.istore 14, 2) := by decide +kernel
theorem dL_acts_629 : decode cL_acts 629 = .ok (.iload 11, 2) := by decide +kernel
theorem dL_acts_631 : decode cL_acts 631 = .ok (.iload 12, 2) := by decide +kernel
theorem dL_acts_633 : decode cL_acts 633 = .ok (.if_icmp .eq 8, 3) := by decide +kernel
theorem dL_acts_636 : decode cL_acts 636 = .ok (.iload 14, 2) := by decide +kernel
theorem dL_acts_638 : decode cL_acts 638 = .ok (.ifCond .eq 35, 3) := by decide +kernel
theorem dL_acts_641 : decode cL_acts 641 = .ok (.aload_n 0, 1) := by decide +kernel
theorem dL_acts_642 : decode cL_acts 642 = .ok (.iload 13, 2) := by decide +kernel
theorem dL_acts_644 : decode cL_acts 644 = .ok (.iload 11, 2) := by decide +kernel
theorem dL_acts_646 : decode cL_acts 646 = .ok (.iload 12, 2) := by decide +kernel
theorem dL_acts_648 : decode cL_acts 648 = .ok (.invokevirtual 85, 3) := by decide +kernel
theorem dL_acts_651 : decode cL_acts 651 = .ok (.iload 11, 2) := by decide +kernel
theorem dL_acts_653 : decode cL_acts 653 = .ok (.iload 12, 2) := by decide +kernel
theorem dL_acts_655 : decode cL_acts 655 = .ok (.if_icmp .ne 7, 3) := by decide +kernel
theorem dL_acts_658 : decode cL_acts 658 = .ok (.iconst (-1), 1) := by decide +kernel
theorem dL_acts_659 : decode cL_acts 659 = .ok (.goto 5, 3) := by decide +kernel
theorem dL_acts_662 : decode cL_acts 662 = .ok (.bipush (-2), 2) := by decide +kernel
theorem dL_acts_664 : decode cL_acts 664 = .ok (.if_icmp .ne 7, 3) := by decide +kernel
theorem dL_acts_667 : decode cL_acts 667 = .ok (.iconst 1, 1) := by decide +kernel
theorem dL_acts_668 : decode cL_acts 668 = .ok (.goto 4, 3) := by decide +kernel
theorem dL_acts_671 : decode cL_acts 671 = .ok (.iconst 0, 1) := by decide +kernel
theorem dL_acts_672 : decode cL_acts 672 = .ok (.ireturn, 1) := by decide +kernel
theorem dL_acts_673 : decode cL_acts 673 = .ok (.aload_n 3, 1) := by decide +kernel
theorem dL_acts_674 : decode cL_acts 674 = .ok (.bipush 7, 2) := by decide +kernel
theorem dL_acts_676 : decode cL_acts 676 = .ok (.iload 13, 2) := by decide +kernel
theorem dL_acts_678 : decode cL_acts 678 = .ok (.imul, 1) := by decide +kernel
theorem dL_acts_679 : decode cL_acts 679 = .ok (.iconst 1, 1) := by decide +kernel
theorem dL_acts_680 : decode cL_acts 680 = .ok (.iadd, 1) := by decide +kernel
theorem dL_acts_681 : decode cL_acts 681 = .ok (.iload 11, 2) := by decide +kernel
theorem dL_acts_683 : decode cL_acts 683 = .ok (.iadd, 1) := by decide +kernel
theorem dL_acts_684 : decode cL_acts 684 = .ok (.iload 12, 2) := by decide +kernel
theorem dL_acts_686 : decode cL_acts 686 = .ok (.iastore, 1) := by decide +kernel
theorem dL_acts_687 : decode cL_acts 687 = .ok (.aload_n 0, 1) := by decide +kernel
theorem dL_acts_688 : decode cL_acts 688 = .ok (.iload 13, 2) := by decide +kernel
theorem dL_acts_690 : decode cL_acts 690 = .ok (.iload 11, 2) := by decide +kernel
theorem dL_acts_692 : decode cL_acts 692 = .ok (.iload 12, 2) := by decide +kernel
theorem dL_acts_694 : decode cL_acts 694 = .ok (.invokevirtual 85, 3) := by decide +kernel
theorem dL_acts_697 : decode cL_acts 697 = .ok (.aload_n 1, 1) := by decide +kernel
theorem dL_acts_698 : decode cL_acts 698 = .ok (.aload 4, 2) := by decide +kernel
theorem dL_acts_700 : decode cL_acts 700 = .ok (.aload 5, 2) := by decide +kernel
theorem dL_acts_702 : decode cL_acts 702 = .ok (.aload 6, 2) := by decide +kernel
theorem dL_acts_704 : decode cL_acts 704 = .ok (.iload 13, 2) := by decide +kernel
theorem dL_acts_706 : decode cL_acts 706 = .ok (.iload 11, 2) := by decide +kernel
theorem dL_acts_708 : decode cL_acts 708 = .ok (.invokestatic 19, 3) := by decide +kernel
theorem dL_acts_711 : decode cL_acts 711 = .ok (.if_icmp .ne 7, 3) := by decide +kernel
theorem dL_acts_714 : decode cL_acts 714 = .ok (.iconst 1, 1) := by decide +kernel
theorem dL_acts_715 : decode cL_acts 715 = .ok (.goto 4, 3) := by decide +kernel
theorem dL_acts_718 : decode cL_acts 718 = .ok (.iconst 0, 1) := by decide +kernel
theorem dL_acts_719 : decode cL_acts 719 = .ok (.ireturn, 1) := by decide +kernel
theorem dL_acts_720 : decode cL_acts 720 = .ok (.iload 10, 2) := by decide +kernel
theorem dL_acts_722 : decode cL_acts 722 = .ok (.bipush 23, 2) := by decide +kernel
theorem dL_acts_724 : decode cL_acts 724 = .ok (.if_icmp .ge 104, 3) := by decide +kernel
theorem dL_acts_727 : decode cL_acts 727 = .ok (.iconst 0, 1) := by decide +kernel
theorem dL_acts_728 : decode cL_acts 728 = .ok (.istore 13, 2) := by decide +kernel
theorem dL_acts_730 : decode cL_acts 730 = .ok (.iload 13, 2) := by decide +kernel
theorem dL_acts_732 : decode cL_acts 732 = .ok (.bipush 36, 2) := by decide +kernel
theorem dL_acts_734 : decode cL_acts 734 = .ok (.if_icmp .ge 74, 3) := by decide +kernel
theorem dL_acts_737 : decode cL_acts 737 = .ok (.iload 9, 2) := by decide +kernel
theorem dL_acts_739 : decode cL_acts 739 = .ok (.iconst 5, 1) := by decide +kernel
theorem dL_acts_740 : decode cL_acts 740 = .ok (.irem, 1) := by decide +kernel
theorem dL_acts_741 : decode cL_acts 741 = .ok (.ifCond .le 67, 3) := by decide +kernel
theorem dL_acts_744 : decode cL_acts 744 = .ok (.iload 11, 2) := by decide +kernel
theorem dL_acts_746 : decode cL_acts 746 = .ok (.iload 12, 2) := by decide +kernel
theorem dL_acts_748 : decode cL_acts 748 = .ok (.if_icmp .eq 21, 3) := by decide +kernel
theorem dL_acts_751 : decode cL_acts 751 = .ok (.aload_n 1, 1) := by decide +kernel
theorem dL_acts_752 : decode cL_acts 752 = .ok (.aload_n 3, 1) := by decide +kernel
theorem dL_acts_753 : decode cL_acts 753 = .ok (.aload 4, 2) := by decide +kernel
theorem dL_acts_755 : decode cL_acts 755 = .ok (.aload 5, 2) := by decide +kernel
theorem dL_acts_757 : decode cL_acts 757 = .ok (.aload 6, 2) := by decide +kernel
theorem dL_acts_759 : decode cL_acts 759 = .ok (.iload 11, 2) := by decide +kernel
theorem dL_acts_761 : decode cL_acts 761 = .ok (.iload 12, 2) := by decide +kernel
theorem dL_acts_763 : decode cL_acts 763 = .ok (.invokestatic 57, 3) := by decide +kernel
theorem dL_acts_766 : decode cL_acts 766 = .ok (.ifCond .ne 42, 3) := by decide +kernel
theorem dL_acts_769 : decode cL_acts 769 = .ok (.iload 13, 2) := by decide +kernel
theorem dL_acts_771 : decode cL_acts 771 = .ok (.bipush 6, 2) := by decide +kernel
theorem dL_acts_773 : decode cL_acts 773 = .ok (.irem, 1) := by decide +kernel
theorem dL_acts_774 : decode cL_acts 774 = .ok (.ifCond .ne 14, 3) := by decide +kernel
theorem dL_acts_777 : decode cL_acts 777 = .ok (.iload 11, 2) := by decide +kernel
theorem dL_acts_779 : decode cL_acts 779 = .ok (.iconst 1, 1) := by decide +kernel
theorem dL_acts_780 : decode cL_acts 780 = .ok (.iadd, 1) := by decide +kernel
theorem dL_acts_781 : decode cL_acts 781 = .ok (.aload_n 1, 1) := by decide +kernel
theorem dL_acts_782 : decode cL_acts 782 = .ok (.iconst 2, 1) := by decide +kernel
theorem dL_acts_783 : decode cL_acts 783 = .ok (.iaload, 1) := by decide +kernel
theorem dL_acts_784 : decode cL_acts 784 = .ok (.irem, 1) := by decide +kernel
theorem dL_acts_785 : decode cL_acts 785 = .ok (.goto 5, 3) := by decide +kernel
theorem dL_acts_788 : decode cL_acts 788 = .ok (.iload 11, 2) := by decide +kernel
theorem dL_acts_790 : decode cL_acts 790 = .ok (.istore 11, 2) := by decide +kernel
theorem dL_acts_792 : decode cL_acts 792 = .ok (.iload 12, 2) := by decide +kernel
theorem dL_acts_794 : decode cL_acts 794 = .ok (.iconst 1, 1) := by decide +kernel
theorem dL_acts_795 : decode cL_acts 795 = .ok (.iadd, 1) := by decide +kernel
theorem dL_acts_796 : decode cL_acts 796 = .ok (.aload_n 1, 1) := by decide +kernel
theorem dL_acts_797 : decode cL_acts 797 = .ok (.iconst 2, 1) := by decide +kernel
theorem dL_acts_798 : decode cL_acts 798 = .ok (.iaload, 1) := by decide +kernel
theorem dL_acts_799 : decode cL_acts 799 = .ok (.irem, 1) := by decide +kernel
theorem dL_acts_800 : decode cL_acts 800 = .ok (.istore 12, 2) := by decide +kernel
theorem dL_acts_802 : decode cL_acts 802 = .ok (.iinc 13 1, 3) := by decide +kernel
theorem dL_acts_805 : decode cL_acts 805 = .ok (.goto (-75), 3) := by decide +kernel
theorem dL_acts_808 : decode cL_acts 808 = .ok (.aload_n 0, 1) := by decide +kernel
theorem dL_acts_809 : decode cL_acts 809 = .ok (.aload_n 1, 1) := by decide +kernel
theorem dL_acts_810 : decode cL_acts 810 = .ok (.aload_n 2, 1) := by decide +kernel
theorem dL_acts_811 : decode cL_acts 811 = .ok (.aload_n 3, 1) := by decide +kernel
theorem dL_acts_812 : decode cL_acts 812 = .ok (.aload 4, 2) := by decide +kernel
theorem dL_acts_814 : decode cL_acts 814 = .ok (.aload 5, 2) := by decide +kernel
theorem dL_acts_816 : decode cL_acts 816 = .ok (.aload 6, 2) := by decide +kernel
theorem dL_acts_818 : decode cL_acts 818 = .ok (.aload 7, 2) := by decide +kernel
theorem dL_acts_820 : decode cL_acts 820 = .ok (.iload 11, 2) := by decide +kernel
theorem dL_acts_822 : decode cL_acts 822 = .ok (.iload 12, 2) := by decide +kernel
theorem dL_acts_824 : decode cL_acts 824 = .ok (.invokestatic 88, 3) := by decide +kernel
theorem dL_acts_827 : decode cL_acts 827 = .ok (.ireturn, 1) := by decide +kernel
theorem dL_acts_828 : decode cL_acts 828 = .ok (.iload 10, 2) := by decide +kernel
theorem dL_acts_830 : decode cL_acts 830 = .ok (.bipush 25, 2) := by decide +kernel
theorem dL_acts_832 : decode cL_acts 832 = .ok (.if_icmp .ge 203, 3) := by decide +kernel
theorem dL_acts_835 : decode cL_acts 835 = .ok (.aload_n 1, 1) := by decide +kernel
theorem dL_acts_836 : decode cL_acts 836 = .ok (.iconst 4, 1) := by decide +kernel
theorem dL_acts_837 : decode cL_acts 837 = .ok (.iaload, 1) := by decide +kernel
theorem dL_acts_838 : decode cL_acts 838 = .ok (.ifCond .ne 18, 3) := by decide +kernel
theorem dL_acts_841 : decode cL_acts 841 = .ok (.aload_n 0, 1) := by decide +kernel
theorem dL_acts_842 : decode cL_acts 842 = .ok (.iconst 0, 1) := by decide +kernel
theorem dL_acts_843 : decode cL_acts 843 = .ok (.invokevirtual 91, 3) := by decide +kernel
theorem dL_acts_846 : decode cL_acts 846 = .ok (.iconst (-1), 1) := by decide +kernel
theorem dL_acts_847 : decode cL_acts 847 = .ok (.if_icmp .ne 7, 3) := by decide +kernel
theorem dL_acts_850 : decode cL_acts 850 = .ok (.iconst 1, 1) := by decide +kernel
theorem dL_acts_851 : decode cL_acts 851 = .ok (.goto 4, 3) := by decide +kernel
theorem dL_acts_854 : decode cL_acts 854 = .ok (.iconst 0, 1) := by decide +kernel
theorem dL_acts_855 : decode cL_acts 855 = .ok (.ireturn, 1) := by decide +kernel
theorem dL_acts_856 : decode cL_acts 856 = .ok (.iload 9, 2) := by decide +kernel
theorem dL_acts_858 : decode cL_acts 858 = .ok (.aload_n 1, 1) := by decide +kernel
theorem dL_acts_859 : decode cL_acts 859 = .ok (.iconst 4, 1) := by decide +kernel
theorem dL_acts_860 : decode cL_acts 860 = .ok (.iaload, 1) := by decide +kernel
theorem dL_acts_861 : decode cL_acts 861 = .ok (.irem, 1) := by decide +kernel
theorem dL_acts_862 : decode cL_acts 862 = .ok (.istore 13, 2) := by decide +kernel
theorem dL_acts_864 : decode cL_acts 864 = .ok (.aload_n 2, 1) := by decide +kernel
theorem dL_acts_865 : decode cL_acts 865 = .ok (.aload 4, 2) := by decide +kernel
theorem dL_acts_867 : decode cL_acts 867 = .ok (.iconst 2, 1) := by decide +kernel
theorem dL_acts_868 : decode cL_acts 868 = .ok (.iload 13, 2) := by decide +kernel
theorem dL_acts_870 : decode cL_acts 870 = .ok (.imul, 1) := by decide +kernel
theorem dL_acts_871 : decode cL_acts 871 = .ok (.iconst 1, 1) := by decide +kernel
theorem dL_acts_872 : decode cL_acts 872 = .ok (.iadd, 1) := by decide +kernel
theorem dL_acts_873 : decode cL_acts 873 = .ok (.iaload, 1) := by decide +kernel
theorem dL_acts_874 : decode cL_acts 874 = .ok (.invokestatic 15, 3) := by decide +kernel
theorem dL_acts_877 : decode cL_acts 877 = .ok (.istore 14, 2) := by decide +kernel
theorem dL_acts_879 : decode cL_acts 879 = .ok (.aload 6, 2) := by decide +kernel
theorem dL_acts_881 : decode cL_acts 881 = .ok (.iconst 2, 1) := by decide +kernel
theorem dL_acts_882 : decode cL_acts 882 = .ok (.iload 13, 2) := by decide +kernel
theorem dL_acts_884 : decode cL_acts 884 = .ok (.imul, 1) := by decide +kernel
theorem dL_acts_885 : decode cL_acts 885 = .ok (.iaload, 1) := by decide +kernel
theorem dL_acts_886 : decode cL_acts 886 = .ok (.iconst 1, 1) := by decide +kernel
theorem dL_acts_887 : decode cL_acts 887 = .ok (.if_icmp .ne 15, 3) := by decide +kernel
theorem dL_acts_890 : decode cL_acts 890 = .ok (.aload 5, 2) := by decide +kernel
theorem dL_acts_892 : decode cL_acts 892 = .ok (.iconst 2, 1) := by decide +kernel
theorem dL_acts_893 : decode cL_acts 893 = .ok (.iload 13, 2) := by decide +kernel
theorem dL_acts_895 : decode cL_acts 895 = .ok (.imul, 1) := by decide +kernel
theorem dL_acts_896 : decode cL_acts 896 = .ok (.iaload, 1) := by decide +kernel
theorem dL_acts_897 : decode cL_acts 897 = .ok (.iconst 4, 1) := by decide +kernel
theorem dL_acts_898 : decode cL_acts 898 = .ok (.idiv, 1) := by decide +kernel
theorem dL_acts_899 : decode cL_acts 899 = .ok (.goto 4, 3) := by decide +kernel
theorem dL_acts_902 : decode cL_acts 902 = .ok (.iconst 0, 1) := by decide +kernel
theorem dL_acts_903 : decode cL_acts 903 = .ok (.istore 15, 2) := by decide +kernel
theorem dL_acts_905 : decode cL_acts 905 = .ok (.aload 6, 2) := by decide +kernel
theorem dL_acts_907 : decode cL_acts 907 = .ok (.iconst 2, 1) := by decide +kernel
theorem dL_acts_908 : decode cL_acts 908 = .ok (.iload 13, 2) := by decide +kernel
theorem dL_acts_910 : decode cL_acts 910 = .ok (.imul, 1) := by decide +kernel
theorem dL_acts_911 : decode cL_acts 911 = .ok (.iaload, 1) := by decide +kernel
theorem dL_acts_912 : decode cL_acts 912 = .ok (.iconst 1, 1) := by decide +kernel
theorem dL_acts_913 : decode cL_acts 913 = .ok (.if_icmp .gt 23, 3) := by decide +kernel
theorem dL_acts_916 : decode cL_acts 916 = .ok (.aload_n 2, 1) := by decide +kernel
theorem dL_acts_917 : decode cL_acts 917 = .ok (.bipush 10, 2) := by decide +kernel
theorem dL_acts_919 : decode cL_acts 919 = .ok (.iload 14, 2) := by decide +kernel
theorem dL_acts_921 : decode cL_acts 921 = .ok (.imul, 1) := by decide +kernel
theorem dL_acts_922 : decode cL_acts 922 = .ok (.iaload, 1) := by decide +kernel
theorem dL_acts_923 : decode cL_acts 923 = .ok (.aload 5, 2) := by decide +kernel
theorem dL_acts_925 : decode cL_acts 925 = .ok (.iconst 2, 1) := by decide +kernel
theorem dL_acts_926 : decode cL_acts 926 = .ok (.iload 13, 2) := by decide +kernel
theorem dL_acts_928 : decode cL_acts 928 = .ok (.imul, 1) := by decide +kernel
theorem dL_acts_929 : decode cL_acts 929 = .ok (.iaload, 1) := by decide +kernel
theorem dL_acts_930 : decode cL_acts 930 = .ok (.iload 15, 2) := by decide +kernel
theorem dL_acts_932 : decode cL_acts 932 = .ok (.iadd, 1) := by decide +kernel
theorem dL_acts_933 : decode cL_acts 933 = .ok (.if_icmp .ge 20, 3) := by decide +kernel
theorem dL_acts_936 : decode cL_acts 936 = .ok (.aload_n 0, 1) := by decide +kernel
theorem dL_acts_937 : decode cL_acts 937 = .ok (.iload 13, 2) := by decide +kernel
theorem dL_acts_939 : decode cL_acts 939 = .ok (.invokevirtual 91, 3) := by decide +kernel
theorem dL_acts_942 : decode cL_acts 942 = .ok (.bipush (-2), 2) := by decide +kernel
theorem dL_acts_944 : decode cL_acts 944 = .ok (.if_icmp .ne 7, 3) := by decide +kernel
theorem dL_acts_947 : decode cL_acts 947 = .ok (.iconst 1, 1) := by decide +kernel
theorem dL_acts_948 : decode cL_acts 948 = .ok (.goto 4, 3) := by decide +kernel
theorem dL_acts_951 : decode cL_acts 951 = .ok (.iconst 0, 1) := by decide +kernel
theorem dL_acts_952 : decode cL_acts 952 = .ok (.ireturn, 1) := by decide +kernel
theorem dL_acts_953 : decode cL_acts 953 = .ok (.aload_n 2, 1) := by decide +kernel
theorem dL_acts_954 : decode cL_acts 954 = .ok (.bipush 10, 2) := by decide +kernel
theorem dL_acts_956 : decode cL_acts 956 = .ok (.iload 14, 2) := by decide +kernel
theorem dL_acts_958 : decode cL_acts 958 = .ok (.imul, 1) := by decide +kernel
theorem dL_acts_959 : decode cL_acts 959 = .ok (.dup2, 1) := by decide +kernel
theorem dL_acts_960 : decode cL_acts 960 = .ok (.iaload, 1) := by decide +kernel
theorem dL_acts_961 : decode cL_acts 961 = .ok (.aload 5, 2) := by decide +kernel
theorem dL_acts_963 : decode cL_acts 963 = .ok (.iconst 2, 1) := by decide +kernel
theorem dL_acts_964 : decode cL_acts 964 = .ok (.iload 13, 2) := by decide +kernel
theorem dL_acts_966 : decode cL_acts 966 = .ok (.imul, 1) := by decide +kernel
theorem dL_acts_967 : decode cL_acts 967 = .ok (.iaload, 1) := by decide +kernel
theorem dL_acts_968 : decode cL_acts 968 = .ok (.iload 15, 2) := by decide +kernel
theorem dL_acts_970 : decode cL_acts 970 = .ok (.iadd, 1) := by decide +kernel
theorem dL_acts_971 : decode cL_acts 971 = .ok (.isub, 1) := by decide +kernel
theorem dL_acts_972 : decode cL_acts 972 = .ok (.iastore, 1) := by decide +kernel
theorem dL_acts_973 : decode cL_acts 973 = .ok (.aload_n 2, 1) := by decide +kernel
theorem dL_acts_974 : decode cL_acts 974 = .ok (.bipush 10, 2) := by decide +kernel
theorem dL_acts_976 : decode cL_acts 976 = .ok (.iload 14, 2) := by decide +kernel
theorem dL_acts_978 : decode cL_acts 978 = .ok (.imul, 1) := by decide +kernel
theorem dL_acts_979 : decode cL_acts 979 = .ok (.iconst 5, 1) := by decide +kernel
theorem dL_acts_980 : decode cL_acts 980 = .ok (.iadd, 1) := by decide +kernel
theorem dL_acts_981 : decode cL_acts 981 = .ok (.dup2, 1) := by decide +kernel
theorem dL_acts_982 : decode cL_acts 982 = .ok (.iaload, 1) := by decide +kernel
theorem dL_acts_983 : decode cL_acts 983 = .ok (.aload 5, 2) := by decide +kernel
theorem dL_acts_985 : decode cL_acts 985 = .ok (.iconst 2, 1) := by decide +kernel
theorem dL_acts_986 : decode cL_acts 986 = .ok (.iload 13, 2) := by decide +kernel
theorem dL_acts_988 : decode cL_acts 988 = .ok (.imul, 1) := by decide +kernel
theorem dL_acts_989 : decode cL_acts 989 = .ok (.iaload, 1) := by decide +kernel
theorem dL_acts_990 : decode cL_acts 990 = .ok (.iadd, 1) := by decide +kernel
theorem dL_acts_991 : decode cL_acts 991 = .ok (.iastore, 1) := by decide +kernel
theorem dL_acts_992 : decode cL_acts 992 = .ok (.aload_n 2, 1) := by decide +kernel
theorem dL_acts_993 : decode cL_acts 993 = .ok (.bipush 10, 2) := by decide +kernel
theorem dL_acts_995 : decode cL_acts 995 = .ok (.iload 14, 2) := by decide +kernel
theorem dL_acts_997 : decode cL_acts 997 = .ok (.imul, 1) := by decide +kernel
theorem dL_acts_998 : decode cL_acts 998 = .ok (.bipush 6, 2) := by decide +kernel
theorem dL_acts_1000 : decode cL_acts 1000 = .ok (.iadd, 1) := by decide +kernel
theorem dL_acts_1001 : decode cL_acts 1001 = .ok (.dup2, 1) := by decide +kernel
theorem dL_acts_1002 : decode cL_acts 1002 = .ok (.iaload, 1) := by decide +kernel
theorem dL_acts_1003 : decode cL_acts 1003 = .ok (.iload 15, 2) := by decide +kernel
theorem dL_acts_1005 : decode cL_acts 1005 = .ok (.iadd, 1) := by decide +kernel
theorem dL_acts_1006 : decode cL_acts 1006 = .ok (.iastore, 1) := by decide +kernel
theorem dL_acts_1007 : decode cL_acts 1007 = .ok (.aload 6, 2) := by decide +kernel
theorem dL_acts_1009 : decode cL_acts 1009 = .ok (.iconst 2, 1) := by decide +kernel
theorem dL_acts_1010 : decode cL_acts 1010 = .ok (.iload 13, 2) := by decide +kernel
theorem dL_acts_1012 : decode cL_acts 1012 = .ok (.imul, 1) := by decide +kernel
theorem dL_acts_1013 : decode cL_acts 1013 = .ok (.dup2, 1) := by decide +kernel
theorem dL_acts_1014 : decode cL_acts 1014 = .ok (.iaload, 1) := by decide +kernel
theorem dL_acts_1015 : decode cL_acts 1015 = .ok (.iconst 2, 1) := by decide +kernel
theorem dL_acts_1016 : decode cL_acts 1016 = .ok (.iadd, 1) := by decide +kernel
theorem dL_acts_1017 : decode cL_acts 1017 = .ok (.iastore, 1) := by decide +kernel
theorem dL_acts_1018 : decode cL_acts 1018 = .ok (.aload_n 0, 1) := by decide +kernel
theorem dL_acts_1019 : decode cL_acts 1019 = .ok (.iload 13, 2) := by decide +kernel
theorem dL_acts_1021 : decode cL_acts 1021 = .ok (.invokevirtual 91, 3) := by decide +kernel
theorem dL_acts_1024 : decode cL_acts 1024 = .ok (.iload 15, 2) := by decide +kernel
theorem dL_acts_1026 : decode cL_acts 1026 = .ok (.if_icmp .ne 7, 3) := by decide +kernel
theorem dL_acts_1029 : decode cL_acts 1029 = .ok (.iconst 1, 1) := by decide +kernel
theorem dL_acts_1030 : decode cL_acts 1030 = .ok (.goto 4, 3) := by decide +kernel
theorem dL_acts_1033 : decode cL_acts 1033 = .ok (.iconst 0, 1) := by decide +kernel
theorem dL_acts_1034 : decode cL_acts 1034 = .ok (.ireturn, 1) := by decide +kernel
theorem dL_acts_1035 : decode cL_acts 1035 = .ok (.iload 10, 2) := by decide +kernel
theorem dL_acts_1037 : decode cL_acts 1037 = .ok (.bipush 25, 2) := by decide +kernel
theorem dL_acts_1039 : decode cL_acts 1039 = .ok (.if_icmp .ne 78, 3) := by decide +kernel
theorem dL_acts_1042 : decode cL_acts 1042 = .ok (.iload 9, 2) := by decide +kernel
theorem dL_acts_1044 : decode cL_acts 1044 = .ok (.iconst 2, 1) := by decide +kernel
theorem dL_acts_1045 : decode cL_acts 1045 = .ok (.irem, 1) := by decide +kernel
theorem dL_acts_1046 : decode cL_acts 1046 = .ok (.istore 13, 2) := by decide +kernel
theorem dL_acts_1048 : decode cL_acts 1048 = .ok (.aload_n 1, 1) := by decide +kernel
theorem dL_acts_1049 : decode cL_acts 1049 = .ok (.iload 13, 2) := by decide +kernel
theorem dL_acts_1051 : decode cL_acts 1051 = .ok (.iaload, 1) := by decide +kernel
theorem dL_acts_1052 : decode cL_acts 1052 = .ok (.istore 14, 2) := by decide +kernel
theorem dL_acts_1054 : decode cL_acts 1054 = .ok (.aload_n 1, 1) := by decide +kernel
theorem dL_acts_1055 : decode cL_acts 1055 = .ok (.iload 13, 2) := by decide +kernel
theorem dL_acts_1057 : decode cL_acts 1057 = .ok (.iload 13, 2) := by decide +kernel
theorem dL_acts_1059 : decode cL_acts 1059 = .ok (.ifCond .ne 15, 3) := by decide +kernel
theorem dL_acts_1062 : decode cL_acts 1062 = .ok (.iconst 1, 1) := by decide +kernel
theorem dL_acts_1063 : decode cL_acts 1063 = .ok (.iload 9, 2) := by decide +kernel
theorem dL_acts_1065 : decode cL_acts 1065 = .ok (.iconst 2, 1) := by decide +kernel
theorem dL_acts_1066 : decode cL_acts 1066 = .ok (.idiv, 1) := by decide +kernel
theorem dL_acts_1067 : decode cL_acts 1067 = .ok (.bipush 100, 2) := by decide +kernel
theorem dL_acts_1069 : decode cL_acts 1069 = .ok (.irem, 1) := by decide +kernel
theorem dL_acts_1070 : decode cL_acts 1070 = .ok (.iadd, 1) := by decide +kernel
theorem dL_acts_1071 : decode cL_acts 1071 = .ok (.goto 24, 3) := by decide +kernel
theorem dL_acts_1074 : decode cL_acts 1074 = .ok (.iload 9, 2) := by decide +kernel
theorem dL_acts_1076 : decode cL_acts 1076 = .ok (.iconst 2, 1) := by decide +kernel
theorem dL_acts_1077 : decode cL_acts 1077 = .ok (.idiv, 1) := by decide +kernel
theorem dL_acts_1078 : decode cL_acts 1078 = .ok (.iload 9, 2) := by decide +kernel
theorem dL_acts_1080 : decode cL_acts 1080 = .ok (.iconst 4, 1) := by decide +kernel
theorem dL_acts_1081 : decode cL_acts 1081 = .ok (.irem, 1) := by decide +kernel
theorem dL_acts_1082 : decode cL_acts 1082 = .ok (.iconst 1, 1) := by decide +kernel
theorem dL_acts_1083 : decode cL_acts 1083 = .ok (.if_icmp .ne 9, 3) := by decide +kernel
theorem dL_acts_1086 : decode cL_acts 1086 = .ok (.sipush 1500, 3) := by decide +kernel
theorem dL_acts_1089 : decode cL_acts 1089 = .ok (.goto 5, 3) := by decide +kernel
theorem dL_acts_1092 : decode cL_acts 1092 = .ok (.ldc 94, 2) := by decide +kernel
theorem dL_acts_1094 : decode cL_acts 1094 = .ok (.irem, 1) := by decide +kernel
theorem dL_acts_1095 : decode cL_acts 1095 = .ok (.iastore, 1) := by decide +kernel
theorem dL_acts_1096 : decode cL_acts 1096 = .ok (.aload_n 0, 1) := by decide +kernel
theorem dL_acts_1097 : decode cL_acts 1097 = .ok (.iload 13, 2) := by decide +kernel
theorem dL_acts_1099 : decode cL_acts 1099 = .ok (.aload_n 1, 1) := by decide +kernel
theorem dL_acts_1100 : decode cL_acts 1100 = .ok (.iload 13, 2) := by decide +kernel
theorem dL_acts_1102 : decode cL_acts 1102 = .ok (.iaload, 1) := by decide +kernel
theorem dL_acts_1103 : decode cL_acts 1103 = .ok (.invokevirtual 95, 3) := by decide +kernel
theorem dL_acts_1106 : decode cL_acts 1106 = .ok (.iload 14, 2) := by decide +kernel
theorem dL_acts_1108 : decode cL_acts 1108 = .ok (.if_icmp .ne 7, 3) := by decide +kernel
theorem dL_acts_1111 : decode cL_acts 1111 = .ok (.iconst 1, 1) := by decide +kernel
theorem dL_acts_1112 : decode cL_acts 1112 = .ok (.goto 4, 3) := by decide +kernel
theorem dL_acts_1115 : decode cL_acts 1115 = .ok (.iconst 0, 1) := by decide +kernel
theorem dL_acts_1116 : decode cL_acts 1116 = .ok (.ireturn, 1) := by decide +kernel
theorem dL_acts_1117 : decode cL_acts 1117 = .ok (.iconst 1, 1) := by decide +kernel
theorem dL_acts_1118 : decode cL_acts 1118 = .ok (.iload 9, 2) := by decide +kernel
theorem dL_acts_1120 : decode cL_acts 1120 = .ok (.iload 9, 2) := by decide +kernel
theorem dL_acts_1122 : decode cL_acts 1122 = .ok (.iconst 4, 1) := by decide +kernel
theorem dL_acts_1123 : decode cL_acts 1123 = .ok (.irem, 1) := by decide +kernel
theorem dL_acts_1124 : decode cL_acts 1124 = .ok (.ifCond .ne 8, 3) := by decide +kernel
theorem dL_acts_1127 : decode cL_acts 1127 = .ok (.bipush 30, 2) := by decide +kernel
theorem dL_acts_1129 : decode cL_acts 1129 = .ok (.goto 4, 3) := by decide +kernel
theorem dL_acts_1132 : decode cL_acts 1132 = .ok (.iconst 3, 1) := by decide +kernel
theorem dL_acts_1133 : decode cL_acts 1133 = .ok (.irem, 1) := by decide +kernel
theorem dL_acts_1134 : decode cL_acts 1134 = .ok (.iadd, 1) := by decide +kernel
theorem dL_acts_1135 : decode cL_acts 1135 = .ok (.istore 13, 2) := by decide +kernel
theorem dL_acts_1137 : decode cL_acts 1137 = .ok (.iconst 0, 1) := by decide +kernel
theorem dL_acts_1138 : decode cL_acts 1138 = .ok (.istore 14, 2) := by decide +kernel
theorem dL_acts_1140 : decode cL_acts 1140 = .ok (.aload_n 1, 1) := by decide +kernel
theorem dL_acts_1141 : decode cL_acts 1141 = .ok (.bipush 6, 2) := by decide +kernel
theorem dL_acts_1143 : decode cL_acts 1143 = .ok (.iaload, 1) := by decide +kernel
theorem dL_acts_1144 : decode cL_acts 1144 = .ok (.iload 13, 2) := by decide +kernel
theorem dL_acts_1146 : decode cL_acts 1146 = .ok (.iadd, 1) := by decide +kernel
theorem dL_acts_1147 : decode cL_acts 1147 = .ok (.sipush 999, 3) := by decide +kernel
theorem dL_acts_1150 : decode cL_acts 1150 = .ok (.if_icmp .le 20, 3) := by decide +kernel
theorem dL_acts_1153 : decode cL_acts 1153 = .ok (.aload_n 0, 1) := by decide +kernel
theorem dL_acts_1154 : decode cL_acts 1154 = .ok (.iload 13, 2) := by decide +kernel
theorem dL_acts_1156 : decode cL_acts 1156 = .ok (.invokevirtual 98, 3) := by decide +kernel
theorem dL_acts_1159 : decode cL_acts 1159 = .ok (.bipush (-3), 2) := by decide +kernel
theorem dL_acts_1161 : decode cL_acts 1161 = .ok (.if_icmp .ne 7, 3) := by decide +kernel
theorem dL_acts_1164 : decode cL_acts 1164 = .ok (.iconst 1, 1) := by decide +kernel
theorem dL_acts_1165 : decode cL_acts 1165 = .ok (.goto 4, 3) := by decide +kernel
theorem dL_acts_1168 : decode cL_acts 1168 = .ok (.iconst 0, 1) := by decide +kernel
theorem dL_acts_1169 : decode cL_acts 1169 = .ok (.ireturn, 1) := by decide +kernel
theorem dL_acts_1170 : decode cL_acts 1170 = .ok (.iconst 0, 1) := by decide +kernel
theorem dL_acts_1171 : decode cL_acts 1171 = .ok (.istore 15, 2) := by decide +kernel
theorem dL_acts_1173 : decode cL_acts 1173 = .ok (.iload 15, 2) := by decide +kernel
theorem dL_acts_1175 : decode cL_acts 1175 = .ok (.iload 13, 2) := by decide +kernel
theorem dL_acts_1177 : decode cL_acts 1177 = .ok (.if_icmp .ge 27, 3) := by decide +kernel
theorem dL_acts_1180 : decode cL_acts 1180 = .ok (.iload 14, 2) := by decide +kernel
theorem dL_acts_1182 : decode cL_acts 1182 = .ok (.aload_n 1, 1) := by decide +kernel
theorem dL_acts_1183 : decode cL_acts 1183 = .ok (.aload_n 2, 1) := by decide +kernel
theorem dL_acts_1184 : decode cL_acts 1184 = .ok (.aload 4, 2) := by decide +kernel
theorem dL_acts_1186 : decode cL_acts 1186 = .ok (.aload 5, 2) := by decide +kernel
theorem dL_acts_1188 : decode cL_acts 1188 = .ok (.aload 6, 2) := by decide +kernel
theorem dL_acts_1190 : decode cL_acts 1190 = .ok (.aload 7, 2) := by decide +kernel
theorem dL_acts_1192 : decode cL_acts 1192 = .ok (.invokestatic 101, 3) := by decide +kernel
theorem dL_acts_1195 : decode cL_acts 1195 = .ok (.iadd, 1) := by decide +kernel
theorem dL_acts_1196 : decode cL_acts 1196 = .ok (.istore 14, 2) := by decide +kernel
theorem dL_acts_1198 : decode cL_acts 1198 = .ok (.iinc 15 1, 3) := by decide +kernel
theorem dL_acts_1201 : decode cL_acts 1201 = .ok (.goto (-28), 3) := by decide +kernel
theorem dL_acts_1204 : decode cL_acts 1204 = .ok (.aload_n 0, 1) := by decide +kernel
theorem dL_acts_1205 : decode cL_acts 1205 = .ok (.iload 13, 2) := by decide +kernel
theorem dL_acts_1207 : decode cL_acts 1207 = .ok (.invokevirtual 98, 3) := by decide +kernel
theorem dL_acts_1210 : decode cL_acts 1210 = .ok (.iload 14, 2) := by decide +kernel
theorem dL_acts_1212 : decode cL_acts 1212 = .ok (.if_icmp .ne 7, 3) := by decide +kernel
theorem dL_acts_1215 : decode cL_acts 1215 = .ok (.iconst 1, 1) := by decide +kernel
theorem dL_acts_1216 : decode cL_acts 1216 = .ok (.goto 4, 3) := by decide +kernel
theorem dL_acts_1219 : decode cL_acts 1219 = .ok (.iconst 0, 1) := by decide +kernel
theorem dL_acts_1220 : decode cL_acts 1220 = .ok (.ireturn, 1) := by decide +kernel
theorem dL_areGifts_0 : decode cL_areGifts 0 = .ok (.iconst 1, 1) := by decide +kernel
theorem dL_areGifts_1 : decode cL_areGifts 1 = .ok (.istore 6, 2) := by decide +kernel
theorem dL_areGifts_3 : decode cL_areGifts 3 = .ok (.iconst 0, 1) := by decide +kernel
theorem dL_areGifts_4 : decode cL_areGifts 4 = .ok (.istore 7, 2) := by decide +kernel
theorem dL_areGifts_6 : decode cL_areGifts 6 = .ok (.iload 7, 2) := by decide +kernel
theorem dL_areGifts_8 : decode cL_areGifts 8 = .ok (.aload_n 1, 1) := by decide +kernel
theorem dL_areGifts_9 : decode cL_areGifts 9 = .ok (.iconst 4, 1) := by decide +kernel
theorem dL_areGifts_10 : decode cL_areGifts 10 = .ok (.iaload, 1) := by decide +kernel
theorem dL_areGifts_11 : decode cL_areGifts 11 = .ok (.if_icmp .ge 168, 3) := by decide +kernel
theorem dL_areGifts_14 : decode cL_areGifts 14 = .ok (.iload 6, 2) := by decide +kernel
theorem dL_areGifts_16 : decode cL_areGifts 16 = .ok (.ifCond .eq 163, 3) := by decide +kernel
theorem dL_areGifts_19 : decode cL_areGifts 19 = .ok (.iconst 2, 1) := by decide +kernel
theorem dL_areGifts_20 : decode cL_areGifts 20 = .ok (.iload 7, 2) := by decide +kernel
theorem dL_areGifts_22 : decode cL_areGifts 22 = .ok (.imul, 1) := by decide +kernel
theorem dL_areGifts_23 : decode cL_areGifts 23 = .ok (.istore 8, 2) := by decide +kernel
theorem dL_areGifts_25 : decode cL_areGifts 25 = .ok (.aload_n 0, 1) := by decide +kernel
theorem dL_areGifts_26 : decode cL_areGifts 26 = .ok (.iload 7, 2) := by decide +kernel
theorem dL_areGifts_28 : decode cL_areGifts 28 = .ok (.iconst 0, 1) := by decide +kernel
theorem dL_areGifts_29 : decode cL_areGifts 29 = .ok (.invokevirtual 105, 3) := by decide +kernel
theorem dL_areGifts_32 : decode cL_areGifts 32 = .ok (.aload_n 2, 1) := by decide +kernel
theorem dL_areGifts_33 : decode cL_areGifts 33 = .ok (.iload 8, 2) := by decide +kernel
theorem dL_areGifts_35 : decode cL_areGifts 35 = .ok (.iaload, 1) := by decide +kernel
theorem dL_areGifts_36 : decode cL_areGifts 36 = .ok (.if_icmp .ne 134, 3) := by decide +kernel
theorem dL_areGifts_39 : decode cL_areGifts 39 = .ok (.aload_n 0, 1) := by decide +kernel
theorem dL_areGifts_40 : decode cL_areGifts 40 = .ok (.iload 7, 2) := by decide +kernel
theorem dL_areGifts_42 : decode cL_areGifts 42 = .ok (.iconst 1, 1) := by decide +kernel
theorem dL_areGifts_43 : decode cL_areGifts 43 = .ok (.invokevirtual 105, 3) := by decide +kernel
theorem dL_areGifts_46 : decode cL_areGifts 46 = .ok (.aload_n 2, 1) := by decide +kernel
theorem dL_areGifts_47 : decode cL_areGifts 47 = .ok (.iload 8, 2) := by decide +kernel
theorem dL_areGifts_49 : decode cL_areGifts 49 = .ok (.iconst 1, 1) := by decide +kernel
theorem dL_areGifts_50 : decode cL_areGifts 50 = .ok (.iadd, 1) := by decide +kernel
theorem dL_areGifts_51 : decode cL_areGifts 51 = .ok (.iaload, 1) := by decide +kernel
theorem dL_areGifts_52 : decode cL_areGifts 52 = .ok (.if_icmp .ne 118, 3) := by decide +kernel
theorem dL_areGifts_55 : decode cL_areGifts 55 = .ok (.aload_n 0, 1) := by decide +kernel
theorem dL_areGifts_56 : decode cL_areGifts 56 = .ok (.iload 7, 2) := by decide +kernel
theorem dL_areGifts_58 : decode cL_areGifts 58 = .ok (.iconst 2, 1) := by decide +kernel
theorem dL_areGifts_59 : decode cL_areGifts 59 = .ok (.invokevirtual 105, 3) := by decide +kernel
theorem dL_areGifts_62 : decode cL_areGifts 62 = .ok (.aload_n 3, 1) := by decide +kernel
theorem dL_areGifts_63 : decode cL_areGifts 63 = .ok (.iload 8, 2) := by decide +kernel
theorem dL_areGifts_65 : decode cL_areGifts 65 = .ok (.iaload, 1) := by decide +kernel
theorem dL_areGifts_66 : decode cL_areGifts 66 = .ok (.if_icmp .ne 104, 3) := by decide +kernel
theorem dL_areGifts_69 : decode cL_areGifts 69 = .ok (.aload_n 0, 1) := by decide +kernel
theorem dL_areGifts_70 : decode cL_areGifts 70 = .ok (.iload 7, 2) := by decide +kernel
theorem dL_areGifts_72 : decode cL_areGifts 72 = .ok (.iconst 3, 1) := by decide +kernel
theorem dL_areGifts_73 : decode cL_areGifts 73 = .ok (.invokevirtual 105, 3) := by decide +kernel
theorem dL_areGifts_76 : decode cL_areGifts 76 = .ok (.aload_n 3, 1) := by decide +kernel
theorem dL_areGifts_77 : decode cL_areGifts 77 = .ok (.iload 8, 2) := by decide +kernel
theorem dL_areGifts_79 : decode cL_areGifts 79 = .ok (.iconst 1, 1) := by decide +kernel
theorem dL_areGifts_80 : decode cL_areGifts 80 = .ok (.iadd, 1) := by decide +kernel
theorem dL_areGifts_81 : decode cL_areGifts 81 = .ok (.iaload, 1) := by decide +kernel
theorem dL_areGifts_82 : decode cL_areGifts 82 = .ok (.if_icmp .ne 88, 3) := by decide +kernel
theorem dL_areGifts_85 : decode cL_areGifts 85 = .ok (.aload_n 0, 1) := by decide +kernel
theorem dL_areGifts_86 : decode cL_areGifts 86 = .ok (.iload 7, 2) := by decide +kernel
theorem dL_areGifts_88 : decode cL_areGifts 88 = .ok (.iconst 4, 1) := by decide +kernel
theorem dL_areGifts_89 : decode cL_areGifts 89 = .ok (.invokevirtual 105, 3) := by decide +kernel
theorem dL_areGifts_92 : decode cL_areGifts 92 = .ok (.aload 4, 2) := by decide +kernel
theorem dL_areGifts_94 : decode cL_areGifts 94 = .ok (.iload 8, 2) := by decide +kernel
theorem dL_areGifts_96 : decode cL_areGifts 96 = .ok (.iaload, 1) := by decide +kernel
theorem dL_areGifts_97 : decode cL_areGifts 97 = .ok (.iconst 1, 1) := by decide +kernel
theorem dL_areGifts_98 : decode cL_areGifts 98 = .ok (.iand, 1) := by decide +kernel
theorem dL_areGifts_99 : decode cL_areGifts 99 = .ok (.if_icmp .ne 71, 3) := by decide +kernel
theorem dL_areGifts_102 : decode cL_areGifts 102 = .ok (.aload_n 0, 1) := by decide +kernel
theorem dL_areGifts_103 : decode cL_areGifts 103 = .ok (.iload 7, 2) := by decide +kernel
theorem dL_areGifts_105 : decode cL_areGifts 105 = .ok (.iconst 5, 1) := by decide +kernel
theorem dL_areGifts_106 : decode cL_areGifts 106 = .ok (.invokevirtual 105, 3) := by decide +kernel
theorem dL_areGifts_109 : decode cL_areGifts 109 = .ok (.aload 4, 2) := by decide +kernel
theorem dL_areGifts_111 : decode cL_areGifts 111 = .ok (.iload 8, 2) := by decide +kernel
theorem dL_areGifts_113 : decode cL_areGifts 113 = .ok (.iaload, 1) := by decide +kernel
theorem dL_areGifts_114 : decode cL_areGifts 114 = .ok (.iconst 2, 1) := by decide +kernel
theorem dL_areGifts_115 : decode cL_areGifts 115 = .ok (.idiv, 1) := by decide +kernel
theorem dL_areGifts_116 : decode cL_areGifts 116 = .ok (.if_icmp .ne 54, 3) := by decide +kernel
theorem dL_areGifts_119 : decode cL_areGifts 119 = .ok (.aload_n 0, 1) := by decide +kernel
theorem dL_areGifts_120 : decode cL_areGifts 120 = .ok (.iload 7, 2) := by decide +kernel
theorem dL_areGifts_122 : decode cL_areGifts 122 = .ok (.bipush 6, 2) := by decide +kernel
theorem dL_areGifts_124 : decode cL_areGifts 124 = .ok (.invokevirtual 105, 3) := by decide +kernel
theorem dL_areGifts_127 : decode cL_areGifts 127 = .ok (.aload 4, 2) := by decide +kernel
theorem dL_areGifts_129 : decode cL_areGifts 129 = .ok (.iload 8, 2) := by decide +kernel
theorem dL_areGifts_131 : decode cL_areGifts 131 = .ok (.iconst 1, 1) := by decide +kernel
theorem dL_areGifts_132 : decode cL_areGifts 132 = .ok (.iadd, 1) := by decide +kernel
theorem dL_areGifts_133 : decode cL_areGifts 133 = .ok (.iaload, 1) := by decide +kernel
theorem dL_areGifts_134 : decode cL_areGifts 134 = .ok (.if_icmp .ne 36, 3) := by decide +kernel
theorem dL_areGifts_137 : decode cL_areGifts 137 = .ok (.aload_n 0, 1) := by decide +kernel
theorem dL_areGifts_138 : decode cL_areGifts 138 = .ok (.iload 7, 2) := by decide +kernel
theorem dL_areGifts_140 : decode cL_areGifts 140 = .ok (.bipush 7, 2) := by decide +kernel
theorem dL_areGifts_142 : decode cL_areGifts 142 = .ok (.invokevirtual 105, 3) := by decide +kernel
theorem dL_areGifts_145 : decode cL_areGifts 145 = .ok (.aload_n 3, 1) := by decide +kernel
theorem dL_areGifts_146 : decode cL_areGifts 146 = .ok (.iload 8, 2) := by decide +kernel
theorem dL_areGifts_148 : decode cL_areGifts 148 = .ok (.iaload, 1) := by decide +kernel
theorem dL_areGifts_149 : decode cL_areGifts 149 = .ok (.iconst 4, 1) := by decide +kernel
theorem dL_areGifts_150 : decode cL_areGifts 150 = .ok (.idiv, 1) := by decide +kernel
theorem dL_areGifts_151 : decode cL_areGifts 151 = .ok (.if_icmp .ne 19, 3) := by decide +kernel
theorem dL_areGifts_154 : decode cL_areGifts 154 = .ok (.aload_n 0, 1) := by decide +kernel
theorem dL_areGifts_155 : decode cL_areGifts 155 = .ok (.iload 7, 2) := by decide +kernel
theorem dL_areGifts_157 : decode cL_areGifts 157 = .ok (.bipush 8, 2) := by decide +kernel
theorem dL_areGifts_159 : decode cL_areGifts 159 = .ok (.invokevirtual 105, 3) := by decide +kernel
theorem dL_areGifts_162 : decode cL_areGifts 162 = .ok (.iconst (-1), 1) := by decide +kernel
theorem dL_areGifts_163 : decode cL_areGifts 163 = .ok (.if_icmp .ne 7, 3) := by decide +kernel
theorem dL_areGifts_166 : decode cL_areGifts 166 = .ok (.iconst 1, 1) := by decide +kernel
theorem dL_areGifts_167 : decode cL_areGifts 167 = .ok (.goto 4, 3) := by decide +kernel
theorem dL_areGifts_170 : decode cL_areGifts 170 = .ok (.iconst 0, 1) := by decide +kernel
theorem dL_areGifts_171 : decode cL_areGifts 171 = .ok (.istore 6, 2) := by decide +kernel
theorem dL_areGifts_173 : decode cL_areGifts 173 = .ok (.iinc 7 1, 3) := by decide +kernel
theorem dL_areGifts_176 : decode cL_areGifts 176 = .ok (.goto (-170), 3) := by decide +kernel
theorem dL_areGifts_179 : decode cL_areGifts 179 = .ok (.iconst 0, 1) := by decide +kernel
theorem dL_areGifts_180 : decode cL_areGifts 180 = .ok (.istore 7, 2) := by decide +kernel
theorem dL_areGifts_182 : decode cL_areGifts 182 = .ok (.iload 7, 2) := by decide +kernel
theorem dL_areGifts_184 : decode cL_areGifts 184 = .ok (.bipush 8, 2) := by decide +kernel
theorem dL_areGifts_186 : decode cL_areGifts 186 = .ok (.aload_n 1, 1) := by decide +kernel
theorem dL_areGifts_187 : decode cL_areGifts 187 = .ok (.iconst 5, 1) := by decide +kernel
theorem dL_areGifts_188 : decode cL_areGifts 188 = .ok (.iaload, 1) := by decide +kernel
theorem dL_areGifts_189 : decode cL_areGifts 189 = .ok (.imul, 1) := by decide +kernel
theorem dL_areGifts_190 : decode cL_areGifts 190 = .ok (.if_icmp .ge 58, 3) := by decide +kernel
theorem dL_areGifts_193 : decode cL_areGifts 193 = .ok (.iload 6, 2) := by decide +kernel
theorem dL_areGifts_195 : decode cL_areGifts 195 = .ok (.ifCond .eq 53, 3) := by decide +kernel
theorem dL_areGifts_198 : decode cL_areGifts 198 = .ok (.aload_n 0, 1) := by decide +kernel
theorem dL_areGifts_199 : decode cL_areGifts 199 = .ok (.iload 7, 2) := by decide +kernel
theorem dL_areGifts_201 : decode cL_areGifts 201 = .ok (.bipush 8, 2) := by decide +kernel
theorem dL_areGifts_203 : decode cL_areGifts 203 = .ok (.idiv, 1) := by decide +kernel
theorem dL_areGifts_204 : decode cL_areGifts 204 = .ok (.iload 7, 2) := by decide +kernel
theorem dL_areGifts_206 : decode cL_areGifts 206 = .ok (.bipush 8, 2) := by decide +kernel
theorem dL_areGifts_208 : decode cL_areGifts 208 = .ok (.irem, 1) := by decide +kernel
theorem dL_areGifts_209 : decode cL_areGifts 209 = .ok (.invokevirtual 108, 3) := by decide +kernel
theorem dL_areGifts_212 : decode cL_areGifts 212 = .ok (.aload 5, 2) := by decide +kernel
theorem dL_areGifts_214 : decode cL_areGifts 214 = .ok (.iload 7, 2) := by decide +kernel
theorem dL_areGifts_216 : decode cL_areGifts 216 = .ok (.iaload, 1) := by decide +kernel
theorem dL_areGifts_217 : decode cL_areGifts 217 = .ok (.if_icmp .ne 22, 3) := by decide +kernel
theorem dL_areGifts_220 : decode cL_areGifts 220 = .ok (.aload_n 0, 1) := by decide +kernel
theorem dL_areGifts_221 : decode cL_areGifts 221 = .ok (.iload 7, 2) := by decide +kernel
theorem dL_areGifts_223 : decode cL_areGifts 223 = .ok (.bipush 8, 2) := by decide +kernel
theorem dL_areGifts_225 : decode cL_areGifts 225 = .ok (.idiv, 1) := by decide +kernel
theorem dL_areGifts_226 : decode cL_areGifts 226 = .ok (.bipush 8, 2) := by decide +kernel
theorem dL_areGifts_228 : decode cL_areGifts 228 = .ok (.invokevirtual 108, 3) := by decide +kernel
theorem dL_areGifts_231 : decode cL_areGifts 231 = .ok (.iconst (-1), 1) := by decide +kernel
theorem dL_areGifts_232 : decode cL_areGifts 232 = .ok (.if_icmp .ne 7, 3) := by decide +kernel
theorem dL_areGifts_235 : decode cL_areGifts 235 = .ok (.iconst 1, 1) := by decide +kernel
theorem dL_areGifts_236 : decode cL_areGifts 236 = .ok (.goto 4, 3) := by decide +kernel
theorem dL_areGifts_239 : decode cL_areGifts 239 = .ok (.iconst 0, 1) := by decide +kernel
theorem dL_areGifts_240 : decode cL_areGifts 240 = .ok (.istore 6, 2) := by decide +kernel
theorem dL_areGifts_242 : decode cL_areGifts 242 = .ok (.iinc 7 1, 3) := by decide +kernel
theorem dL_areGifts_245 : decode cL_areGifts 245 = .ok (.goto (-63), 3) := by decide +kernel
theorem dL_areGifts_248 : decode cL_areGifts 248 = .ok (.iload 6, 2) := by decide +kernel
theorem dL_areGifts_250 : decode cL_areGifts 250 = .ok (.ifCond .eq 31, 3) := by decide +kernel
theorem dL_areGifts_253 : decode cL_areGifts 253 = .ok (.aload_n 0, 1) := by decide +kernel
theorem dL_areGifts_254 : decode cL_areGifts 254 = .ok (.aload_n 1, 1) := by decide +kernel
theorem dL_areGifts_255 : decode cL_areGifts 255 = .ok (.iconst 4, 1) := by decide +kernel
theorem dL_areGifts_256 : decode cL_areGifts 256 = .ok (.iaload, 1) := by decide +kernel
theorem dL_areGifts_257 : decode cL_areGifts 257 = .ok (.iconst 0, 1) := by decide +kernel
theorem dL_areGifts_258 : decode cL_areGifts 258 = .ok (.invokevirtual 105, 3) := by decide +kernel
theorem dL_areGifts_261 : decode cL_areGifts 261 = .ok (.iconst (-1), 1) := by decide +kernel
theorem dL_areGifts_262 : decode cL_areGifts 262 = .ok (.if_icmp .ne 19, 3) := by decide +kernel
theorem dL_areGifts_265 : decode cL_areGifts 265 = .ok (.aload_n 0, 1) := by decide +kernel
theorem dL_areGifts_266 : decode cL_areGifts 266 = .ok (.aload_n 1, 1) := by decide +kernel
theorem dL_areGifts_267 : decode cL_areGifts 267 = .ok (.iconst 5, 1) := by decide +kernel
theorem dL_areGifts_268 : decode cL_areGifts 268 = .ok (.iaload, 1) := by decide +kernel
theorem dL_areGifts_269 : decode cL_areGifts 269 = .ok (.iconst 0, 1) := by decide +kernel
theorem dL_areGifts_270 : decode cL_areGifts 270 = .ok (.invokevirtual 108, 3) := by decide +kernel
theorem dL_areGifts_273 : decode cL_areGifts 273 = .ok (.iconst (-1), 1) := by decide +kernel
theorem dL_areGifts_274 : decode cL_areGifts 274 = .ok (.if_icmp .ne 7, 3) := by decide +kernel
theorem dL_areGifts_277 : decode cL_areGifts 277 = .ok (.iconst 1, 1) := by decide +kernel
theorem dL_areGifts_278 : decode cL_areGifts 278 = .ok (.goto 4, 3) := by decide +kernel
theorem dL_areGifts_281 : decode cL_areGifts 281 = .ok (.iconst 0, 1) := by decide +kernel
theorem dL_areGifts_282 : decode cL_areGifts 282 = .ok (.ireturn, 1) := by decide +kernel
theorem dL_areDonors_0 : decode cL_areDonors 0 = .ok (.iconst 1, 1) := by decide +kernel
theorem dL_areDonors_1 : decode cL_areDonors 1 = .ok (.istore 7, 2) := by decide +kernel
theorem dL_areDonors_3 : decode cL_areDonors 3 = .ok (.iconst 0, 1) := by decide +kernel
theorem dL_areDonors_4 : decode cL_areDonors 4 = .ok (.istore 8, 2) := by decide +kernel
theorem dL_areDonors_6 : decode cL_areDonors 6 = .ok (.iload 8, 2) := by decide +kernel
theorem dL_areDonors_8 : decode cL_areDonors 8 = .ok (.aload_n 1, 1) := by decide +kernel
theorem dL_areDonors_9 : decode cL_areDonors 9 = .ok (.iconst 3, 1) := by decide +kernel
theorem dL_areDonors_10 : decode cL_areDonors 10 = .ok (.iaload, 1) := by decide +kernel
theorem dL_areDonors_11 : decode cL_areDonors 11 = .ok (.if_icmp .ge 356, 3) := by decide +kernel
theorem dL_areDonors_14 : decode cL_areDonors 14 = .ok (.iload 7, 2) := by decide +kernel
theorem dL_areDonors_16 : decode cL_areDonors 16 = .ok (.ifCond .eq 351, 3) := by decide +kernel
theorem dL_areDonors_19 : decode cL_areDonors 19 = .ok (.iconst 0, 1) := by decide +kernel
theorem dL_areDonors_20 : decode cL_areDonors 20 = .ok (.istore 9, 2) := by decide +kernel
theorem dL_areDonors_22 : decode cL_areDonors 22 = .ok (.iconst 0, 1) := by decide +kernel
theorem dL_areDonors_23 : decode cL_areDonors 23 = .ok (.istore 10, 2) := by decide +kernel
theorem dL_areDonors_25 : decode cL_areDonors 25 = .ok (.iconst 0, 1) := by decide +kernel
theorem dL_areDonors_26 : decode cL_areDonors 26 = .ok (.istore 11, 2) := by decide +kernel
theorem dL_areDonors_28 : decode cL_areDonors 28 = .ok (.iconst 0, 1) := by decide +kernel
theorem dL_areDonors_29 : decode cL_areDonors 29 = .ok (.istore 12, 2) := by decide +kernel
theorem dL_areDonors_31 : decode cL_areDonors 31 = .ok (.iconst 0, 1) := by decide +kernel
theorem dL_areDonors_32 : decode cL_areDonors 32 = .ok (.istore 13, 2) := by decide +kernel
theorem dL_areDonors_34 : decode cL_areDonors 34 = .ok (.iload 13, 2) := by decide +kernel
theorem dL_areDonors_36 : decode cL_areDonors 36 = .ok (.aload_n 1, 1) := by decide +kernel
theorem dL_areDonors_37 : decode cL_areDonors 37 = .ok (.iconst 4, 1) := by decide +kernel
theorem dL_areDonors_38 : decode cL_areDonors 38 = .ok (.iaload, 1) := by decide +kernel
theorem dL_areDonors_39 : decode cL_areDonors 39 = .ok (.if_icmp .ge 112, 3) := by decide +kernel
theorem dL_areDonors_42 : decode cL_areDonors 42 = .ok (.iload 9, 2) := by decide +kernel
theorem dL_areDonors_44 : decode cL_areDonors 44 = .ok (.aload_n 3, 1) := by decide +kernel
theorem dL_areDonors_45 : decode cL_areDonors 45 = .ok (.iconst 2, 1) := by decide +kernel
theorem dL_areDonors_46 : decode cL_areDonors 46 = .ok (.iload 13, 2) := by decide +kernel
theorem dL_areDonors_48 : decode cL_areDonors 48 = .ok (.imul, 1) := by decide +kernel
theorem dL_areDonors_49 : decode cL_areDonors 49 = .ok (.iaload, 1) := by decide +kernel
theorem dL_areDonors_50 : decode cL_areDonors 50 = .ok (.iload 8, 2) := by decide +kernel
theorem dL_areDonors_52 : decode cL_areDonors 52 = .ok (.if_icmp .ne 13, 3) := by decide +kernel
theorem dL_areDonors_55 : decode cL_areDonors 55 = .ok (.aload 4, 2) := by decide +kernel
theorem dL_areDonors_57 : decode cL_areDonors 57 = .ok (.iconst 2, 1) := by decide +kernel
theorem dL_areDonors_58 : decode cL_areDonors 58 = .ok (.iload 13, 2) := by decide +kernel
theorem dL_areDonors_60 : decode cL_areDonors 60 = .ok (.imul, 1) := by decide +kernel
theorem dL_areDonors_61 : decode cL_areDonors 61 = .ok (.iaload, 1) := by decide +kernel
theorem dL_areDonors_62 : decode cL_areDonors 62 = .ok (.goto 4, 3) := by decide +kernel
theorem dL_areDonors_65 : decode cL_areDonors 65 = .ok (.iconst 0, 1) := by decide +kernel
theorem dL_areDonors_66 : decode cL_areDonors 66 = .ok (.iadd, 1) := by decide +kernel
theorem dL_areDonors_67 : decode cL_areDonors 67 = .ok (.istore 9, 2) := by decide +kernel
theorem dL_areDonors_69 : decode cL_areDonors 69 = .ok (.iload 10, 2) := by decide +kernel
theorem dL_areDonors_71 : decode cL_areDonors 71 = .ok (.aload_n 3, 1) := by decide +kernel
theorem dL_areDonors_72 : decode cL_areDonors 72 = .ok (.iconst 2, 1) := by decide +kernel
theorem dL_areDonors_73 : decode cL_areDonors 73 = .ok (.iload 13, 2) := by decide +kernel
theorem dL_areDonors_75 : decode cL_areDonors 75 = .ok (.imul, 1) := by decide +kernel
theorem dL_areDonors_76 : decode cL_areDonors 76 = .ok (.iaload, 1) := by decide +kernel
theorem dL_areDonors_77 : decode cL_areDonors 77 = .ok (.iload 8, 2) := by decide +kernel
theorem dL_areDonors_79 : decode cL_areDonors 79 = .ok (.if_icmp .ne 24, 3) := by decide +kernel
theorem dL_areDonors_82 : decode cL_areDonors 82 = .ok (.aload 5, 2) := by decide +kernel
theorem dL_areDonors_84 : decode cL_areDonors 84 = .ok (.iconst 2, 1) := by decide +kernel
theorem dL_areDonors_85 : decode cL_areDonors 85 = .ok (.iload 13, 2) := by decide +kernel
theorem dL_areDonors_87 : decode cL_areDonors 87 = .ok (.imul, 1) := by decide +kernel
theorem dL_areDonors_88 : decode cL_areDonors 88 = .ok (.iaload, 1) := by decide +kernel
theorem dL_areDonors_89 : decode cL_areDonors 89 = .ok (.iconst 1, 1) := by decide +kernel
theorem dL_areDonors_90 : decode cL_areDonors 90 = .ok (.if_icmp .le 13, 3) := by decide +kernel
theorem dL_areDonors_93 : decode cL_areDonors 93 = .ok (.aload 4, 2) := by decide +kernel
theorem dL_areDonors_95 : decode cL_areDonors 95 = .ok (.iconst 2, 1) := by decide +kernel
theorem dL_areDonors_96 : decode cL_areDonors 96 = .ok (.iload 13, 2) := by decide +kernel
theorem dL_areDonors_98 : decode cL_areDonors 98 = .ok (.imul, 1) := by decide +kernel
theorem dL_areDonors_99 : decode cL_areDonors 99 = .ok (.iaload, 1) := by decide +kernel
theorem dL_areDonors_100 : decode cL_areDonors 100 = .ok (.goto 4, 3) := by decide +kernel
theorem dL_areDonors_103 : decode cL_areDonors 103 = .ok (.iconst 0, 1) := by decide +kernel
theorem dL_areDonors_104 : decode cL_areDonors 104 = .ok (.iadd, 1) := by decide +kernel
theorem dL_areDonors_105 : decode cL_areDonors 105 = .ok (.istore 10, 2) := by decide +kernel
theorem dL_areDonors_107 : decode cL_areDonors 107 = .ok (.iload 11, 2) := by decide +kernel
theorem dL_areDonors_109 : decode cL_areDonors 109 = .ok (.aload_n 3, 1) := by decide +kernel
theorem dL_areDonors_110 : decode cL_areDonors 110 = .ok (.iconst 2, 1) := by decide +kernel
theorem dL_areDonors_111 : decode cL_areDonors 111 = .ok (.iload 13, 2) := by decide +kernel
theorem dL_areDonors_113 : decode cL_areDonors 113 = .ok (.imul, 1) := by decide +kernel
theorem dL_areDonors_114 : decode cL_areDonors 114 = .ok (.iaload, 1) := by decide +kernel
theorem dL_areDonors_115 : decode cL_areDonors 115 = .ok (.iload 8, 2) := by decide +kernel
theorem dL_areDonors_117 : decode cL_areDonors 117 = .ok (.if_icmp .ne 24, 3) := by decide +kernel
theorem dL_areDonors_120 : decode cL_areDonors 120 = .ok (.aload 5, 2) := by decide +kernel
theorem dL_areDonors_122 : decode cL_areDonors 122 = .ok (.iconst 2, 1) := by decide +kernel
theorem dL_areDonors_123 : decode cL_areDonors 123 = .ok (.iload 13, 2) := by decide +kernel
theorem dL_areDonors_125 : decode cL_areDonors 125 = .ok (.imul, 1) := by decide +kernel
theorem dL_areDonors_126 : decode cL_areDonors 126 = .ok (.iaload, 1) := by decide +kernel
theorem dL_areDonors_127 : decode cL_areDonors 127 = .ok (.iconst 1, 1) := by decide +kernel
theorem dL_areDonors_128 : decode cL_areDonors 128 = .ok (.if_icmp .ne 13, 3) := by decide +kernel
theorem dL_areDonors_131 : decode cL_areDonors 131 = .ok (.aload 4, 2) := by decide +kernel
theorem dL_areDonors_133 : decode cL_areDonors 133 = .ok (.iconst 2, 1) := by decide +kernel
theorem dL_areDonors_134 : decode cL_areDonors 134 = .ok (.iload 13, 2) := by decide +kernel
theorem dL_areDonors_136 : decode cL_areDonors 136 = .ok (.imul, 1) := by decide +kernel
theorem dL_areDonors_137 : decode cL_areDonors 137 = .ok (.iaload, 1) := by decide +kernel
theorem dL_areDonors_138 : decode cL_areDonors 138 = .ok (.goto 4, 3) := by decide +kernel
theorem dL_areDonors_141 : decode cL_areDonors 141 = .ok (.iconst 0, 1) := by decide +kernel
theorem dL_areDonors_142 : decode cL_areDonors 142 = .ok (.iadd, 1) := by decide +kernel
theorem dL_areDonors_143 : decode cL_areDonors 143 = .ok (.istore 11, 2) := by decide +kernel
theorem dL_areDonors_145 : decode cL_areDonors 145 = .ok (.iinc 13 1, 3) := by decide +kernel
theorem dL_areDonors_148 : decode cL_areDonors 148 = .ok (.goto (-114), 3) := by decide +kernel
theorem dL_areDonors_151 : decode cL_areDonors 151 = .ok (.iconst 0, 1) := by decide +kernel
theorem dL_areDonors_152 : decode cL_areDonors 152 = .ok (.istore 13, 2) := by decide +kernel
theorem dL_areDonors_154 : decode cL_areDonors 154 = .ok (.iload 13, 2) := by decide +kernel
theorem dL_areDonors_156 : decode cL_areDonors 156 = .ok (.aload_n 1, 1) := by decide +kernel
theorem dL_areDonors_157 : decode cL_areDonors 157 = .ok (.iconst 5, 1) := by decide +kernel
theorem dL_areDonors_158 : decode cL_areDonors 158 = .ok (.iaload, 1) := by decide +kernel
theorem dL_areDonors_159 : decode cL_areDonors 159 = .ok (.if_icmp .ge 48, 3) := by decide +kernel
theorem dL_areDonors_162 : decode cL_areDonors 162 = .ok (.iload 12, 2) := by decide +kernel
theorem dL_areDonors_164 : decode cL_areDonors 164 = .ok (.aload 6, 2) := by decide +kernel
theorem dL_areDonors_166 : decode cL_areDonors 166 = .ok (.bipush 8, 2) := by decide +kernel
theorem dL_areDonors_168 : decode cL_areDonors 168 = .ok (.iload 13, 2) := by decide +kernel
theorem dL_areDonors_170 : decode cL_areDonors 170 = .ok (.imul, 1) := by decide +kernel
theorem dL_areDonors_171 : decode cL_areDonors 171 = .ok (.iaload, 1) := by decide +kernel
theorem dL_areDonors_172 : decode cL_areDonors 172 = .ok (.iload 8, 2) := by decide +kernel
theorem dL_areDonors_174 : decode cL_areDonors 174 = .ok (.if_icmp .ne 23, 3) := by decide +kernel
theorem dL_areDonors_177 : decode cL_areDonors 177 = .ok (.aload 6, 2) := by decide +kernel
theorem dL_areDonors_179 : decode cL_areDonors 179 = .ok (.bipush 8, 2) := by decide +kernel
theorem dL_areDonors_181 : decode cL_areDonors 181 = .ok (.iload 13, 2) := by decide +kernel
theorem dL_areDonors_183 : decode cL_areDonors 183 = .ok (.imul, 1) := by decide +kernel
theorem dL_areDonors_184 : decode cL_areDonors 184 = .ok (.iconst 5, 1) := by decide +kernel
theorem dL_areDonors_185 : decode cL_areDonors 185 = .ok (.iadd, 1) := by decide +kernel
theorem dL_areDonors_186 : decode cL_areDonors 186 = .ok (.iaload, 1) := by decide +kernel
theorem dL_areDonors_187 : decode cL_areDonors 187 = .ok (.ifCond .ne 10, 3) := by decide +kernel
theorem dL_areDonors_190 : decode cL_areDonors 190 = .ok (.iconst 1, 1) := by decide +kernel
theorem dL_areDonors_191 : decode cL_areDonors 191 = .ok (.iload 13, 2) := by decide +kernel
theorem dL_areDonors_193 : decode cL_areDonors 193 = .ok (.ishl, 1) := by decide +kernel
theorem dL_areDonors_194 : decode cL_areDonors 194 = .ok (.goto 4, 3) := by decide +kernel
theorem dL_areDonors_197 : decode cL_areDonors 197 = .ok (.iconst 0, 1) := by decide +kernel
theorem dL_areDonors_198 : decode cL_areDonors 198 = .ok (.iadd, 1) := by decide +kernel
theorem dL_areDonors_199 : decode cL_areDonors 199 = .ok (.istore 12, 2) := by decide +kernel
theorem dL_areDonors_201 : decode cL_areDonors 201 = .ok (.iinc 13 1, 3) := by decide +kernel
theorem dL_areDonors_204 : decode cL_areDonors 204 = .ok (.goto (-50), 3) := by decide +kernel
theorem dL_areDonors_207 : decode cL_areDonors 207 = .ok (.aload_n 0, 1) := by decide +kernel
theorem dL_areDonors_208 : decode cL_areDonors 208 = .ok (.iload 8, 2) := by decide +kernel
theorem dL_areDonors_210 : decode cL_areDonors 210 = .ok (.iconst 0, 1) := by decide +kernel
theorem dL_areDonors_211 : decode cL_areDonors 211 = .ok (.invokevirtual 111, 3) := by decide +kernel
theorem dL_areDonors_214 : decode cL_areDonors 214 = .ok (.aload_n 2, 1) := by decide +kernel
theorem dL_areDonors_215 : decode cL_areDonors 215 = .ok (.bipush 7, 2) := by decide +kernel
theorem dL_areDonors_217 : decode cL_areDonors 217 = .ok (.iload 8, 2) := by decide +kernel
theorem dL_areDonors_219 : decode cL_areDonors 219 = .ok (.imul, 1) := by decide +kernel
theorem dL_areDonors_220 : decode cL_areDonors 220 = .ok (.iaload, 1) := by decide +kernel
theorem dL_areDonors_221 : decode cL_areDonors 221 = .ok (.if_icmp .ne 82, 3) := by decide +kernel
theorem dL_areDonors_224 : decode cL_areDonors 224 = .ok (.aload_n 0, 1) := by decide +kernel
theorem dL_areDonors_225 : decode cL_areDonors 225 = .ok (.iload 8, 2) := by decide +kernel
theorem dL_areDonors_227 : decode cL_areDonors 227 = .ok (.iconst 1, 1) := by decide +kernel
theorem dL_areDonors_228 : decode cL_areDonors 228 = .ok (.invokevirtual 111, 3) := by decide +kernel
theorem dL_areDonors_231 : decode cL_areDonors 231 = .ok (.iload 9, 2) := by decide +kernel
theorem dL_areDonors_233 : decode cL_areDonors 233 = .ok (.if_icmp .ne 70, 3) := by decide +kernel
theorem dL_areDonors_236 : decode cL_areDonors 236 = .ok (.aload_n 0, 1) := by decide +kernel
theorem dL_areDonors_237 : decode cL_areDonors 237 = .ok (.iload 8, 2) := by decide +kernel
theorem dL_areDonors_239 : decode cL_areDonors 239 = .ok (.iconst 2, 1) := by decide +kernel
theorem dL_areDonors_240 : decode cL_areDonors 240 = .ok (.invokevirtual 111, 3) := by decide +kernel
theorem dL_areDonors_243 : decode cL_areDonors 243 = .ok (.iload 10, 2) := by decide +kernel
theorem dL_areDonors_245 : decode cL_areDonors 245 = .ok (.if_icmp .ne 58, 3) := by decide +kernel
theorem dL_areDonors_248 : decode cL_areDonors 248 = .ok (.aload_n 0, 1) := by decide +kernel
theorem dL_areDonors_249 : decode cL_areDonors 249 = .ok (.iload 8, 2) := by decide +kernel
theorem dL_areDonors_251 : decode cL_areDonors 251 = .ok (.iconst 3, 1) := by decide +kernel
theorem dL_areDonors_252 : decode cL_areDonors 252 = .ok (.invokevirtual 111, 3) := by decide +kernel
theorem dL_areDonors_255 : decode cL_areDonors 255 = .ok (.iload 11, 2) := by decide +kernel
theorem dL_areDonors_257 : decode cL_areDonors 257 = .ok (.if_icmp .ne 46, 3) := by decide +kernel
theorem dL_areDonors_260 : decode cL_areDonors 260 = .ok (.aload_n 0, 1) := by decide +kernel
theorem dL_areDonors_261 : decode cL_areDonors 261 = .ok (.iload 8, 2) := by decide +kernel
theorem dL_areDonors_263 : decode cL_areDonors 263 = .ok (.iconst 4, 1) := by decide +kernel
theorem dL_areDonors_264 : decode cL_areDonors 264 = .ok (.invokevirtual 111, 3) := by decide +kernel
theorem dL_areDonors_267 : decode cL_areDonors 267 = .ok (.iload 12, 2) := by decide +kernel
theorem dL_areDonors_269 : decode cL_areDonors 269 = .ok (.if_icmp .ne 34, 3) := by decide +kernel
theorem dL_areDonors_272 : decode cL_areDonors 272 = .ok (.aload_n 0, 1) := by decide +kernel
theorem dL_areDonors_273 : decode cL_areDonors 273 = .ok (.iload 8, 2) := by decide +kernel
theorem dL_areDonors_275 : decode cL_areDonors 275 = .ok (.iconst 5, 1) := by decide +kernel
theorem dL_areDonors_276 : decode cL_areDonors 276 = .ok (.invokevirtual 111, 3) := by decide +kernel
theorem dL_areDonors_279 : decode cL_areDonors 279 = .ok (.iconst (-1), 1) := by decide +kernel
theorem dL_areDonors_280 : decode cL_areDonors 280 = .ok (.if_icmp .ne 23, 3) := by decide +kernel
theorem dL_areDonors_283 : decode cL_areDonors 283 = .ok (.aload_n 0, 1) := by decide +kernel
theorem dL_areDonors_284 : decode cL_areDonors 284 = .ok (.iload 8, 2) := by decide +kernel
theorem dL_areDonors_286 : decode cL_areDonors 286 = .ok (.bipush 10, 2) := by decide +kernel
theorem dL_areDonors_288 : decode cL_areDonors 288 = .ok (.aload_n 1, 1) := by decide +kernel
theorem dL_areDonors_289 : decode cL_areDonors 289 = .ok (.iconst 2, 1) := by decide +kernel
theorem dL_areDonors_290 : decode cL_areDonors 290 = .ok (.iaload, 1) := by decide +kernel
theorem dL_areDonors_291 : decode cL_areDonors 291 = .ok (.iadd, 1) := by decide +kernel
theorem dL_areDonors_292 : decode cL_areDonors 292 = .ok (.invokevirtual 111, 3) := by decide +kernel
theorem dL_areDonors_295 : decode cL_areDonors 295 = .ok (.iconst (-1), 1) := by decide +kernel
theorem dL_areDonors_296 : decode cL_areDonors 296 = .ok (.if_icmp .ne 7, 3) := by decide +kernel
theorem dL_areDonors_299 : decode cL_areDonors 299 = .ok (.iconst 1, 1) := by decide +kernel
theorem dL_areDonors_300 : decode cL_areDonors 300 = .ok (.goto 4, 3) := by decide +kernel
theorem dL_areDonors_303 : decode cL_areDonors 303 = .ok (.iconst 0, 1) := by decide +kernel
theorem dL_areDonors_304 : decode cL_areDonors 304 = .ok (.istore 7, 2) := by decide +kernel
theorem dL_areDonors_306 : decode cL_areDonors 306 = .ok (.iconst 0, 1) := by decide +kernel
theorem dL_areDonors_307 : decode cL_areDonors 307 = .ok (.istore 13, 2) := by decide +kernel
theorem dL_areDonors_309 : decode cL_areDonors 309 = .ok (.iload 13, 2) := by decide +kernel
theorem dL_areDonors_311 : decode cL_areDonors 311 = .ok (.aload_n 1, 1) := by decide +kernel
theorem dL_areDonors_312 : decode cL_areDonors 312 = .ok (.iconst 2, 1) := by decide +kernel
theorem dL_areDonors_313 : decode cL_areDonors 313 = .ok (.iaload, 1) := by decide +kernel
theorem dL_areDonors_314 : decode cL_areDonors 314 = .ok (.if_icmp .ge 47, 3) := by decide +kernel
theorem dL_areDonors_317 : decode cL_areDonors 317 = .ok (.iload 7, 2) := by decide +kernel
theorem dL_areDonors_319 : decode cL_areDonors 319 = .ok (.ifCond .eq 42, 3) := by decide +kernel
theorem dL_areDonors_322 : decode cL_areDonors 322 = .ok (.aload_n 0, 1) := by decide +kernel
theorem dL_areDonors_323 : decode cL_areDonors 323 = .ok (.iload 8, 2) := by decide +kernel
theorem dL_areDonors_325 : decode cL_areDonors 325 = .ok (.bipush 10, 2) := by decide +kernel
theorem dL_areDonors_327 : decode cL_areDonors 327 = .ok (.iload 13, 2) := by decide +kernel
theorem dL_areDonors_329 : decode cL_areDonors 329 = .ok (.iadd, 1) := by decide +kernel
theorem dL_areDonors_330 : decode cL_areDonors 330 = .ok (.invokevirtual 111, 3) := by decide +kernel
theorem dL_areDonors_333 : decode cL_areDonors 333 = .ok (.aload_n 2, 1) := by decide +kernel
theorem dL_areDonors_334 : decode cL_areDonors 334 = .ok (.bipush 7, 2) := by decide +kernel
theorem dL_areDonors_336 : decode cL_areDonors 336 = .ok (.iload 8, 2) := by decide +kernel
theorem dL_areDonors_338 : decode cL_areDonors 338 = .ok (.imul, 1) := by decide +kernel
theorem dL_areDonors_339 : decode cL_areDonors 339 = .ok (.iconst 1, 1) := by decide +kernel
theorem dL_areDonors_340 : decode cL_areDonors 340 = .ok (.iadd, 1) := by decide +kernel
theorem dL_areDonors_341 : decode cL_areDonors 341 = .ok (.iload 13, 2) := by decide +kernel
theorem dL_areDonors_343 : decode cL_areDonors 343 = .ok (.iadd, 1) := by decide +kernel
theorem dL_areDonors_344 : decode cL_areDonors 344 = .ok (.iaload, 1) := by decide +kernel
theorem dL_areDonors_345 : decode cL_areDonors 345 = .ok (.if_icmp .ne 7, 3) := by decide +kernel
theorem dL_areDonors_348 : decode cL_areDonors 348 = .ok (.iconst 1, 1) := by decide +kernel
theorem dL_areDonors_349 : decode cL_areDonors 349 = .ok (.goto 4, 3) := by decide +kernel
theorem dL_areDonors_352 : decode cL_areDonors 352 = .ok (.iconst 0, 1) := by decide +kernel
theorem dL_areDonors_353 : decode cL_areDonors 353 = .ok (.istore 7, 2) := by decide +kernel
theorem dL_areDonors_355 : decode cL_areDonors 355 = .ok (.iinc 13 1, 3) := by decide +kernel
theorem dL_areDonors_358 : decode cL_areDonors 358 = .ok (.goto (-49), 3) := by decide +kernel
theorem dL_areDonors_361 : decode cL_areDonors 361 = .ok (.iinc 8 1, 3) := by decide +kernel
theorem dL_areDonors_364 : decode cL_areDonors 364 = .ok (.goto (-358), 3) := by decide +kernel
theorem dL_areDonors_367 : decode cL_areDonors 367 = .ok (.iload 7, 2) := by decide +kernel
theorem dL_areDonors_369 : decode cL_areDonors 369 = .ok (.ifCond .eq 19, 3) := by decide +kernel
theorem dL_areDonors_372 : decode cL_areDonors 372 = .ok (.aload_n 0, 1) := by decide +kernel
theorem dL_areDonors_373 : decode cL_areDonors 373 = .ok (.aload_n 1, 1) := by decide +kernel
theorem dL_areDonors_374 : decode cL_areDonors 374 = .ok (.iconst 3, 1) := by decide +kernel
theorem dL_areDonors_375 : decode cL_areDonors 375 = .ok (.iaload, 1) := by decide +kernel
theorem dL_areDonors_376 : decode cL_areDonors 376 = .ok (.iconst 0, 1) := by decide +kernel
theorem dL_areDonors_377 : decode cL_areDonors 377 = .ok (.invokevirtual 111, 3) := by decide +kernel
theorem dL_areDonors_380 : decode cL_areDonors 380 = .ok (.iconst (-1), 1) := by decide +kernel
theorem dL_areDonors_381 : decode cL_areDonors 381 = .ok (.if_icmp .ne 7, 3) := by decide +kernel
theorem dL_areDonors_384 : decode cL_areDonors 384 = .ok (.iconst 1, 1) := by decide +kernel
theorem dL_areDonors_385 : decode cL_areDonors 385 = .ok (.goto 4, 3) := by decide +kernel
theorem dL_areDonors_388 : decode cL_areDonors 388 = .ok (.iconst 0, 1) := by decide +kernel
theorem dL_areDonors_389 : decode cL_areDonors 389 = .ok (.ireturn, 1) := by decide +kernel
theorem dL_isSo_0 : decode cL_isSo 0 = .ok (.aload_n 0, 1) := by decide +kernel
theorem dL_isSo_1 : decode cL_isSo 1 = .ok (.aload_n 1, 1) := by decide +kernel
theorem dL_isSo_2 : decode cL_isSo 2 = .ok (.aload 4, 2) := by decide +kernel
theorem dL_isSo_4 : decode cL_isSo 4 = .ok (.aload 5, 2) := by decide +kernel
theorem dL_isSo_6 : decode cL_isSo 6 = .ok (.aload 6, 2) := by decide +kernel
theorem dL_isSo_8 : decode cL_isSo 8 = .ok (.aload 7, 2) := by decide +kernel
theorem dL_isSo_10 : decode cL_isSo 10 = .ok (.invokestatic 114, 3) := by decide +kernel
theorem dL_isSo_13 : decode cL_isSo 13 = .ok (.ifCond .eq 24, 3) := by decide +kernel
theorem dL_isSo_16 : decode cL_isSo 16 = .ok (.aload_n 0, 1) := by decide +kernel
theorem dL_isSo_17 : decode cL_isSo 17 = .ok (.aload_n 1, 1) := by decide +kernel
theorem dL_isSo_18 : decode cL_isSo 18 = .ok (.aload_n 3, 1) := by decide +kernel
theorem dL_isSo_19 : decode cL_isSo 19 = .ok (.aload 4, 2) := by decide +kernel
theorem dL_isSo_21 : decode cL_isSo 21 = .ok (.aload 5, 2) := by decide +kernel
theorem dL_isSo_23 : decode cL_isSo 23 = .ok (.aload 6, 2) := by decide +kernel
theorem dL_isSo_25 : decode cL_isSo 25 = .ok (.aload 7, 2) := by decide +kernel
theorem dL_isSo_27 : decode cL_isSo 27 = .ok (.invokestatic 118, 3) := by decide +kernel
theorem dL_isSo_30 : decode cL_isSo 30 = .ok (.ifCond .eq 7, 3) := by decide +kernel
theorem dL_isSo_33 : decode cL_isSo 33 = .ok (.iconst 1, 1) := by decide +kernel
theorem dL_isSo_34 : decode cL_isSo 34 = .ok (.goto 4, 3) := by decide +kernel
theorem dL_isSo_37 : decode cL_isSo 37 = .ok (.iconst 0, 1) := by decide +kernel
theorem dL_isSo_38 : decode cL_isSo 38 = .ok (.istore 8, 2) := by decide +kernel
theorem dL_isSo_40 : decode cL_isSo 40 = .ok (.bipush 10, 2) := by decide +kernel
theorem dL_isSo_42 : decode cL_isSo 42 = .ok (.newarray .int, 2) := by decide +kernel
theorem dL_isSo_44 : decode cL_isSo 44 = .ok (.astore 9, 2) := by decide +kernel
theorem dL_isSo_46 : decode cL_isSo 46 = .ok (.iconst 0, 1) := by decide +kernel
theorem dL_isSo_47 : decode cL_isSo 47 = .ok (.istore 10, 2) := by decide +kernel
theorem dL_isSo_49 : decode cL_isSo 49 = .ok (.iconst 0, 1) := by decide +kernel
theorem dL_isSo_50 : decode cL_isSo 50 = .ok (.istore 11, 2) := by decide +kernel
theorem dL_isSo_52 : decode cL_isSo 52 = .ok (.iload 11, 2) := by decide +kernel
theorem dL_isSo_54 : decode cL_isSo 54 = .ok (.aload_n 1, 1) := by decide +kernel
theorem dL_isSo_55 : decode cL_isSo 55 = .ok (.iconst 2, 1) := by decide +kernel
theorem dL_isSo_56 : decode cL_isSo 56 = .ok (.iaload, 1) := by decide +kernel
theorem dL_isSo_57 : decode cL_isSo 57 = .ok (.if_icmp .ge 287, 3) := by decide +kernel
theorem dL_isSo_60 : decode cL_isSo 60 = .ok (.iload 8, 2) := by decide +kernel
theorem dL_isSo_62 : decode cL_isSo 62 = .ok (.ifCond .eq 282, 3) := by decide +kernel
theorem dL_isSo_65 : decode cL_isSo 65 = .ok (.bipush 10, 2) := by decide +kernel
theorem dL_isSo_67 : decode cL_isSo 67 = .ok (.iload 11, 2) := by decide +kernel
theorem dL_isSo_69 : decode cL_isSo 69 = .ok (.imul, 1) := by decide +kernel
theorem dL_isSo_70 : decode cL_isSo 70 = .ok (.istore 12, 2) := by decide +kernel
theorem dL_isSo_72 : decode cL_isSo 72 = .ok (.iconst 0, 1) := by decide +kernel
theorem dL_isSo_73 : decode cL_isSo 73 = .ok (.istore 13, 2) := by decide +kernel
theorem dL_isSo_75 : decode cL_isSo 75 = .ok (.iload 13, 2) := by decide +kernel
theorem dL_isSo_77 : decode cL_isSo 77 = .ok (.bipush 9, 2) := by decide +kernel
theorem dL_isSo_79 : decode cL_isSo 79 = .ok (.if_icmp .ge 54, 3) := by decide +kernel
theorem dL_isSo_82 : decode cL_isSo 82 = .ok (.aload 9, 2) := by decide +kernel
theorem dL_isSo_84 : decode cL_isSo 84 = .ok (.iload 13, 2) := by decide +kernel
theorem dL_isSo_86 : decode cL_isSo 86 = .ok (.dup2, 1) := by decide +kernel
theorem dL_isSo_87 : decode cL_isSo 87 = .ok (.iaload, 1) := by decide +kernel
theorem dL_isSo_88 : decode cL_isSo 88 = .ok (.aload_n 2, 1) := by decide +kernel
theorem dL_isSo_89 : decode cL_isSo 89 = .ok (.iload 12, 2) := by decide +kernel
theorem dL_isSo_91 : decode cL_isSo 91 = .ok (.iload 13, 2) := by decide +kernel
theorem dL_isSo_93 : decode cL_isSo 93 = .ok (.iadd, 1) := by decide +kernel
theorem dL_isSo_94 : decode cL_isSo 94 = .ok (.iaload, 1) := by decide +kernel
theorem dL_isSo_95 : decode cL_isSo 95 = .ok (.iadd, 1) := by decide +kernel
theorem dL_isSo_96 : decode cL_isSo 96 = .ok (.iastore, 1) := by decide +kernel
theorem dL_isSo_97 : decode cL_isSo 97 = .ok (.iload 8, 2) := by decide +kernel
theorem dL_isSo_99 : decode cL_isSo 99 = .ok (.ifCond .eq 25, 3) := by decide +kernel
theorem dL_isSo_102 : decode cL_isSo 102 = .ok (.aload_n 0, 1) := by decide +kernel
theorem dL_isSo_103 : decode cL_isSo 103 = .ok (.iload 11, 2) := by decide +kernel
theorem dL_isSo_105 : decode cL_isSo 105 = .ok (.iload 13, 2) := by decide +kernel
theorem dL_isSo_107 : decode cL_isSo 107 = .ok (.invokevirtual 122, 3) := by decide +kernel
theorem dL_isSo_110 : decode cL_isSo 110 = .ok (.aload_n 2, 1) := by decide +kernel
theorem dL_isSo_111 : decode cL_isSo 111 = .ok (.iload 12, 2) := by decide +kernel
theorem dL_isSo_113 : decode cL_isSo 113 = .ok (.iload 13, 2) := by decide +kernel
theorem dL_isSo_115 : decode cL_isSo 115 = .ok (.iadd, 1) := by decide +kernel
theorem dL_isSo_116 : decode cL_isSo 116 = .ok (.iaload, 1) := by decide +kernel
theorem dL_isSo_117 : decode cL_isSo 117 = .ok (.if_icmp .ne 7, 3) := by decide +kernel
theorem dL_isSo_120 : decode cL_isSo 120 = .ok (.iconst 1, 1) := by decide +kernel
theorem dL_isSo_121 : decode cL_isSo 121 = .ok (.goto 4, 3) := by decide +kernel
theorem dL_isSo_124 : decode cL_isSo 124 = .ok (.iconst 0, 1) := by decide +kernel
theorem dL_isSo_125 : decode cL_isSo 125 = .ok (.istore 8, 2) := by decide +kernel
theorem dL_isSo_127 : decode cL_isSo 127 = .ok (.iinc 13 1, 3) := by decide +kernel
theorem dL_isSo_130 : decode cL_isSo 130 = .ok (.goto (-55), 3) := by decide +kernel
theorem dL_isSo_133 : decode cL_isSo 133 = .ok (.iload 10, 2) := by decide +kernel
theorem dL_isSo_135 : decode cL_isSo 135 = .ok (.aload_n 2, 1) := by decide +kernel
theorem dL_isSo_136 : decode cL_isSo 136 = .ok (.iload 12, 2) := by decide +kernel
theorem dL_isSo_138 : decode cL_isSo 138 = .ok (.bipush 9, 2) := by decide +kernel
theorem dL_isSo_140 : decode cL_isSo 140 = .ok (.iadd, 1) := by decide +kernel
theorem dL_isSo_141 : decode cL_isSo 141 = .ok (.iaload, 1) := by decide +kernel
theorem dL_isSo_142 : decode cL_isSo 142 = .ok (.ifCond .lt 7, 3) := by decide +kernel
theorem dL_isSo_145 : decode cL_isSo 145 = .ok (.iconst 1, 1) := by decide +kernel
theorem dL_isSo_146 : decode cL_isSo 146 = .ok (.goto 4, 3) := by decide +kernel
theorem dL_isSo_149 : decode cL_isSo 149 = .ok (.iconst 0, 1) := by decide +kernel
theorem dL_isSo_150 : decode cL_isSo 150 = .ok (.iadd, 1) := by decide +kernel
theorem dL_isSo_151 : decode cL_isSo 151 = .ok (.istore 10, 2) := by decide +kernel
theorem dL_isSo_153 : decode cL_isSo 153 = .ok (.iload 8, 2) := by decide +kernel
theorem dL_isSo_155 : decode cL_isSo 155 = .ok (.ifCond .eq 78, 3) := by decide +kernel
theorem dL_isSo_158 : decode cL_isSo 158 = .ok (.aload_n 0, 1) := by decide +kernel
theorem dL_isSo_159 : decode cL_isSo 159 = .ok (.iload 11, 2) := by decide +kernel
theorem dL_isSo_161 : decode cL_isSo 161 = .ok (.bipush 9, 2) := by decide +kernel
theorem dL_isSo_163 : decode cL_isSo 163 = .ok (.invokevirtual 122, 3) := by decide +kernel
theorem dL_isSo_166 : decode cL_isSo 166 = .ok (.aload_n 2, 1) := by decide +kernel
theorem dL_isSo_167 : decode cL_isSo 167 = .ok (.iload 12, 2) := by decide +kernel
theorem dL_isSo_169 : decode cL_isSo 169 = .ok (.bipush 9, 2) := by decide +kernel
theorem dL_isSo_171 : decode cL_isSo 171 = .ok (.iadd, 1) := by decide +kernel
theorem dL_isSo_172 : decode cL_isSo 172 = .ok (.iaload, 1) := by decide +kernel
theorem dL_isSo_173 : decode cL_isSo 173 = .ok (.if_icmp .ne 60, 3) := by decide +kernel
theorem dL_isSo_176 : decode cL_isSo 176 = .ok (.aload_n 0, 1) := by decide +kernel
theorem dL_isSo_177 : decode cL_isSo 177 = .ok (.iload 11, 2) := by decide +kernel
theorem dL_isSo_179 : decode cL_isSo 179 = .ok (.bipush 10, 2) := by decide +kernel
theorem dL_isSo_181 : decode cL_isSo 181 = .ok (.invokevirtual 122, 3) := by decide +kernel
theorem dL_isSo_184 : decode cL_isSo 184 = .ok (.aload_n 2, 1) := by decide +kernel
theorem dL_isSo_185 : decode cL_isSo 185 = .ok (.iload 11, 2) := by decide +kernel
theorem dL_isSo_187 : decode cL_isSo 187 = .ok (.invokestatic 15, 3) := by decide +kernel
theorem dL_isSo_190 : decode cL_isSo 190 = .ok (.if_icmp .ne 43, 3) := by decide +kernel
theorem dL_isSo_193 : decode cL_isSo 193 = .ok (.aload_n 0, 1) := by decide +kernel
theorem dL_isSo_194 : decode cL_isSo 194 = .ok (.iload 11, 2) := by decide +kernel
theorem dL_isSo_196 : decode cL_isSo 196 = .ok (.bipush 11, 2) := by decide +kernel
theorem dL_isSo_198 : decode cL_isSo 198 = .ok (.invokevirtual 122, 3) := by decide +kernel
theorem dL_isSo_201 : decode cL_isSo 201 = .ok (.iload 11, 2) := by decide +kernel
theorem dL_isSo_203 : decode cL_isSo 203 = .ok (.ifCond .ne 10, 3) := by decide +kernel
theorem dL_isSo_206 : decode cL_isSo 206 = .ok (.aload_n 1, 1) := by decide +kernel
theorem dL_isSo_207 : decode cL_isSo 207 = .ok (.bipush 7, 2) := by decide +kernel
theorem dL_isSo_209 : decode cL_isSo 209 = .ok (.iaload, 1) := by decide +kernel
theorem dL_isSo_210 : decode cL_isSo 210 = .ok (.goto 4, 3) := by decide +kernel
theorem dL_isSo_213 : decode cL_isSo 213 = .ok (.iconst 0, 1) := by decide +kernel
theorem dL_isSo_214 : decode cL_isSo 214 = .ok (.if_icmp .ne 19, 3) := by decide +kernel
theorem dL_isSo_217 : decode cL_isSo 217 = .ok (.aload_n 0, 1) := by decide +kernel
theorem dL_isSo_218 : decode cL_isSo 218 = .ok (.iload 11, 2) := by decide +kernel
theorem dL_isSo_220 : decode cL_isSo 220 = .ok (.bipush 12, 2) := by decide +kernel
theorem dL_isSo_222 : decode cL_isSo 222 = .ok (.invokevirtual 122, 3) := by decide +kernel
theorem dL_isSo_225 : decode cL_isSo 225 = .ok (.iconst (-1), 1) := by decide +kernel
theorem dL_isSo_226 : decode cL_isSo 226 = .ok (.if_icmp .ne 7, 3) := by decide +kernel
theorem dL_isSo_229 : decode cL_isSo 229 = .ok (.iconst 1, 1) := by decide +kernel
theorem dL_isSo_230 : decode cL_isSo 230 = .ok (.goto 4, 3) := by decide +kernel
theorem dL_isSo_233 : decode cL_isSo 233 = .ok (.iconst 0, 1) := by decide +kernel
theorem dL_isSo_234 : decode cL_isSo 234 = .ok (.istore 8, 2) := by decide +kernel
theorem dL_isSo_236 : decode cL_isSo 236 = .ok (.aload_n 2, 1) := by decide +kernel
theorem dL_isSo_237 : decode cL_isSo 237 = .ok (.iload 12, 2) := by decide +kernel
theorem dL_isSo_239 : decode cL_isSo 239 = .ok (.iconst 1, 1) := by decide +kernel
theorem dL_isSo_240 : decode cL_isSo 240 = .ok (.iadd, 1) := by decide +kernel
theorem dL_isSo_241 : decode cL_isSo 241 = .ok (.iaload, 1) := by decide +kernel
theorem dL_isSo_242 : decode cL_isSo 242 = .ok (.aload_n 2, 1) := by decide +kernel
theorem dL_isSo_243 : decode cL_isSo 243 = .ok (.iload 12, 2) := by decide +kernel
theorem dL_isSo_245 : decode cL_isSo 245 = .ok (.iconst 2, 1) := by decide +kernel
theorem dL_isSo_246 : decode cL_isSo 246 = .ok (.iadd, 1) := by decide +kernel
theorem dL_isSo_247 : decode cL_isSo 247 = .ok (.iaload, 1) := by decide +kernel
theorem dL_isSo_248 : decode cL_isSo 248 = .ok (.iadd, 1) := by decide +kernel
theorem dL_isSo_249 : decode cL_isSo 249 = .ok (.aload_n 2, 1) := by decide +kernel
theorem dL_isSo_250 : decode cL_isSo 250 = .ok (.iload 12, 2) := by decide +kernel
theorem dL_isSo_252 : decode cL_isSo 252 = .ok (.iconst 3, 1) := by decide +kernel
theorem dL_isSo_253 : decode cL_isSo 253 = .ok (.iadd, 1) := by decide +kernel
theorem dL_isSo_254 : decode cL_isSo 254 = .ok (.iaload, 1) := by decide +kernel
theorem dL_isSo_255 : decode cL_isSo 255 = .ok (.isub, 1) := by decide +kernel
theorem dL_isSo_256 : decode cL_isSo 256 = .ok (.aload_n 2, 1) := by decide +kernel
theorem dL_isSo_257 : decode cL_isSo 257 = .ok (.iload 12, 2) := by decide +kernel
theorem dL_isSo_259 : decode cL_isSo 259 = .ok (.iconst 4, 1) := by decide +kernel
theorem dL_isSo_260 : decode cL_isSo 260 = .ok (.iadd, 1) := by decide +kernel
theorem dL_isSo_261 : decode cL_isSo 261 = .ok (.iaload, 1) := by decide +kernel
theorem dL_isSo_262 : decode cL_isSo 262 = .ok (.iadd, 1) := by decide +kernel
theorem dL_isSo_263 : decode cL_isSo 263 = .ok (.aload_n 2, 1) := by decide +kernel
theorem dL_isSo_264 : decode cL_isSo 264 = .ok (.iload 12, 2) := by decide +kernel
theorem dL_isSo_266 : decode cL_isSo 266 = .ok (.iconst 5, 1) := by decide +kernel
theorem dL_isSo_267 : decode cL_isSo 267 = .ok (.iadd, 1) := by decide +kernel
theorem dL_isSo_268 : decode cL_isSo 268 = .ok (.iaload, 1) := by decide +kernel
theorem dL_isSo_269 : decode cL_isSo 269 = .ok (.isub, 1) := by decide +kernel
theorem dL_isSo_270 : decode cL_isSo 270 = .ok (.aload_n 2, 1) := by decide +kernel
theorem dL_isSo_271 : decode cL_isSo 271 = .ok (.iload 12, 2) := by decide +kernel
theorem dL_isSo_273 : decode cL_isSo 273 = .ok (.bipush 6, 2) := by decide +kernel
theorem dL_isSo_275 : decode cL_isSo 275 = .ok (.iadd, 1) := by decide +kernel
theorem dL_isSo_276 : decode cL_isSo 276 = .ok (.iaload, 1) := by decide +kernel
theorem dL_isSo_277 : decode cL_isSo 277 = .ok (.isub, 1) := by decide +kernel
theorem dL_isSo_278 : decode cL_isSo 278 = .ok (.aload_n 2, 1) := by decide +kernel
theorem dL_isSo_279 : decode cL_isSo 279 = .ok (.iload 12, 2) := by decide +kernel
theorem dL_isSo_281 : decode cL_isSo 281 = .ok (.bipush 7, 2) := by decide +kernel
theorem dL_isSo_283 : decode cL_isSo 283 = .ok (.iadd, 1) := by decide +kernel
theorem dL_isSo_284 : decode cL_isSo 284 = .ok (.iaload, 1) := by decide +kernel
theorem dL_isSo_285 : decode cL_isSo 285 = .ok (.iadd, 1) := by decide +kernel
theorem dL_isSo_286 : decode cL_isSo 286 = .ok (.aload_n 2, 1) := by decide +kernel
theorem dL_isSo_287 : decode cL_isSo 287 = .ok (.iload 12, 2) := by decide +kernel
theorem dL_isSo_289 : decode cL_isSo 289 = .ok (.bipush 8, 2) := by decide +kernel
theorem dL_isSo_291 : decode cL_isSo 291 = .ok (.iadd, 1) := by decide +kernel
theorem dL_isSo_292 : decode cL_isSo 292 = .ok (.iaload, 1) := by decide +kernel
theorem dL_isSo_293 : decode cL_isSo 293 = .ok (.isub, 1) := by decide +kernel
theorem dL_isSo_294 : decode cL_isSo 294 = .ok (.iload 11, 2) := by decide +kernel
theorem dL_isSo_296 : decode cL_isSo 296 = .ok (.ifCond .ne 10, 3) := by decide +kernel
theorem dL_isSo_299 : decode cL_isSo 299 = .ok (.aload_n 1, 1) := by decide +kernel
theorem dL_isSo_300 : decode cL_isSo 300 = .ok (.bipush 7, 2) := by decide +kernel
theorem dL_isSo_302 : decode cL_isSo 302 = .ok (.iaload, 1) := by decide +kernel
theorem dL_isSo_303 : decode cL_isSo 303 = .ok (.goto 4, 3) := by decide +kernel
theorem dL_isSo_306 : decode cL_isSo 306 = .ok (.iconst 0, 1) := by decide +kernel
theorem dL_isSo_307 : decode cL_isSo 307 = .ok (.isub, 1) := by decide +kernel
theorem dL_isSo_308 : decode cL_isSo 308 = .ok (.istore 13, 2) := by decide +kernel
theorem dL_isSo_310 : decode cL_isSo 310 = .ok (.iload 8, 2) := by decide +kernel
theorem dL_isSo_312 : decode cL_isSo 312 = .ok (.ifCond .eq 23, 3) := by decide +kernel
theorem dL_isSo_315 : decode cL_isSo 315 = .ok (.iload 13, 2) := by decide +kernel
theorem dL_isSo_317 : decode cL_isSo 317 = .ok (.aload_n 2, 1) := by decide +kernel
theorem dL_isSo_318 : decode cL_isSo 318 = .ok (.iload 12, 2) := by decide +kernel
theorem dL_isSo_320 : decode cL_isSo 320 = .ok (.iaload, 1) := by decide +kernel
theorem dL_isSo_321 : decode cL_isSo 321 = .ok (.if_icmp .ne 14, 3) := by decide +kernel
theorem dL_isSo_324 : decode cL_isSo 324 = .ok (.aload_n 2, 1) := by decide +kernel
theorem dL_isSo_325 : decode cL_isSo 325 = .ok (.iload 12, 2) := by decide +kernel
theorem dL_isSo_327 : decode cL_isSo 327 = .ok (.iaload, 1) := by decide +kernel
theorem dL_isSo_328 : decode cL_isSo 328 = .ok (.ifCond .lt 7, 3) := by decide +kernel
theorem dL_isSo_331 : decode cL_isSo 331 = .ok (.iconst 1, 1) := by decide +kernel
theorem dL_isSo_332 : decode cL_isSo 332 = .ok (.goto 4, 3) := by decide +kernel
theorem dL_isSo_335 : decode cL_isSo 335 = .ok (.iconst 0, 1) := by decide +kernel
theorem dL_isSo_336 : decode cL_isSo 336 = .ok (.istore 8, 2) := by decide +kernel
theorem dL_isSo_338 : decode cL_isSo 338 = .ok (.iinc 11 1, 3) := by decide +kernel
theorem dL_isSo_341 : decode cL_isSo 341 = .ok (.goto (-289), 3) := by decide +kernel
theorem dL_isSo_344 : decode cL_isSo 344 = .ok (.iload 8, 2) := by decide +kernel
theorem dL_isSo_346 : decode cL_isSo 346 = .ok (.ifCond .eq 139, 3) := by decide +kernel
theorem dL_isSo_349 : decode cL_isSo 349 = .ok (.aload_n 0, 1) := by decide +kernel
theorem dL_isSo_350 : decode cL_isSo 350 = .ok (.iconst 0, 1) := by decide +kernel
theorem dL_isSo_351 : decode cL_isSo 351 = .ok (.invokevirtual 125, 3) := by decide +kernel
theorem dL_isSo_354 : decode cL_isSo 354 = .ok (.aload_n 1, 1) := by decide +kernel
theorem dL_isSo_355 : decode cL_isSo 355 = .ok (.iconst 2, 1) := by decide +kernel
theorem dL_isSo_356 : decode cL_isSo 356 = .ok (.iaload, 1) := by decide +kernel
theorem dL_isSo_357 : decode cL_isSo 357 = .ok (.if_icmp .ne 128, 3) := by decide +kernel
theorem dL_isSo_360 : decode cL_isSo 360 = .ok (.aload_n 0, 1) := by decide +kernel
theorem dL_isSo_361 : decode cL_isSo 361 = .ok (.iconst 1, 1) := by decide +kernel
theorem dL_isSo_362 : decode cL_isSo 362 = .ok (.invokevirtual 125, 3) := by decide +kernel
theorem dL_isSo_365 : decode cL_isSo 365 = .ok (.aload_n 1, 1) := by decide +kernel
theorem dL_isSo_366 : decode cL_isSo 366 = .ok (.iconst 3, 1) := by decide +kernel
theorem dL_isSo_367 : decode cL_isSo 367 = .ok (.iaload, 1) := by decide +kernel
theorem dL_isSo_368 : decode cL_isSo 368 = .ok (.if_icmp .ne 117, 3) := by decide +kernel
theorem dL_isSo_371 : decode cL_isSo 371 = .ok (.aload_n 0, 1) := by decide +kernel
theorem dL_isSo_372 : decode cL_isSo 372 = .ok (.iconst 2, 1) := by decide +kernel
theorem dL_isSo_373 : decode cL_isSo 373 = .ok (.invokevirtual 125, 3) := by decide +kernel
theorem dL_isSo_376 : decode cL_isSo 376 = .ok (.aload_n 1, 1) := by decide +kernel
theorem dL_isSo_377 : decode cL_isSo 377 = .ok (.iconst 4, 1) := by decide +kernel
theorem dL_isSo_378 : decode cL_isSo 378 = .ok (.iaload, 1) := by decide +kernel
theorem dL_isSo_379 : decode cL_isSo 379 = .ok (.if_icmp .ne 106, 3) := by decide +kernel
theorem dL_isSo_382 : decode cL_isSo 382 = .ok (.aload_n 0, 1) := by decide +kernel
theorem dL_isSo_383 : decode cL_isSo 383 = .ok (.iconst 3, 1) := by decide +kernel
theorem dL_isSo_384 : decode cL_isSo 384 = .ok (.invokevirtual 125, 3) := by decide +kernel
theorem dL_isSo_387 : decode cL_isSo 387 = .ok (.aload_n 1, 1) := by decide +kernel
theorem dL_isSo_388 : decode cL_isSo 388 = .ok (.iconst 5, 1) := by decide +kernel
theorem dL_isSo_389 : decode cL_isSo 389 = .ok (.iaload, 1) := by decide +kernel
theorem dL_isSo_390 : decode cL_isSo 390 = .ok (.if_icmp .ne 95, 3) := by decide +kernel
theorem dL_isSo_393 : decode cL_isSo 393 = .ok (.aload_n 0, 1) := by decide +kernel
theorem dL_isSo_394 : decode cL_isSo 394 = .ok (.iconst 4, 1) := by decide +kernel
theorem dL_isSo_395 : decode cL_isSo 395 = .ok (.invokevirtual 125, 3) := by decide +kernel
theorem dL_isSo_398 : decode cL_isSo 398 = .ok (.aload_n 1, 1) := by decide +kernel
theorem dL_isSo_399 : decode cL_isSo 399 = .ok (.bipush 6, 2) := by decide +kernel
theorem dL_isSo_401 : decode cL_isSo 401 = .ok (.iaload, 1) := by decide +kernel
theorem dL_isSo_402 : decode cL_isSo 402 = .ok (.if_icmp .ne 83, 3) := by decide +kernel
theorem dL_isSo_405 : decode cL_isSo 405 = .ok (.aload_n 0, 1) := by decide +kernel
theorem dL_isSo_406 : decode cL_isSo 406 = .ok (.iconst 5, 1) := by decide +kernel
theorem dL_isSo_407 : decode cL_isSo 407 = .ok (.invokevirtual 125, 3) := by decide +kernel
theorem dL_isSo_410 : decode cL_isSo 410 = .ok (.aload 9, 2) := by decide +kernel
theorem dL_isSo_412 : decode cL_isSo 412 = .ok (.iconst 0, 1) := by decide +kernel
theorem dL_isSo_413 : decode cL_isSo 413 = .ok (.iaload, 1) := by decide +kernel
theorem dL_isSo_414 : decode cL_isSo 414 = .ok (.if_icmp .ne 71, 3) := by decide +kernel
theorem dL_isSo_417 : decode cL_isSo 417 = .ok (.aload_n 0, 1) := by decide +kernel
theorem dL_isSo_418 : decode cL_isSo 418 = .ok (.bipush 6, 2) := by decide +kernel
theorem dL_isSo_420 : decode cL_isSo 420 = .ok (.invokevirtual 125, 3) := by decide +kernel
theorem dL_isSo_423 : decode cL_isSo 423 = .ok (.aload 9, 2) := by decide +kernel
theorem dL_isSo_425 : decode cL_isSo 425 = .ok (.iconst 3, 1) := by decide +kernel
theorem dL_isSo_426 : decode cL_isSo 426 = .ok (.iaload, 1) := by decide +kernel
theorem dL_isSo_427 : decode cL_isSo 427 = .ok (.if_icmp .ne 58, 3) := by decide +kernel
theorem dL_isSo_430 : decode cL_isSo 430 = .ok (.aload_n 0, 1) := by decide +kernel
theorem dL_isSo_431 : decode cL_isSo 431 = .ok (.bipush 7, 2) := by decide +kernel
theorem dL_isSo_433 : decode cL_isSo 433 = .ok (.invokevirtual 125, 3) := by decide +kernel
theorem dL_isSo_436 : decode cL_isSo 436 = .ok (.aload 9, 2) := by decide +kernel
theorem dL_isSo_438 : decode cL_isSo 438 = .ok (.iconst 2, 1) := by decide +kernel
theorem dL_isSo_439 : decode cL_isSo 439 = .ok (.iaload, 1) := by decide +kernel
theorem dL_isSo_440 : decode cL_isSo 440 = .ok (.if_icmp .ne 45, 3) := by decide +kernel
theorem dL_isSo_443 : decode cL_isSo 443 = .ok (.aload_n 0, 1) := by decide +kernel
theorem dL_isSo_444 : decode cL_isSo 444 = .ok (.bipush 8, 2) := by decide +kernel
theorem dL_isSo_446 : decode cL_isSo 446 = .ok (.invokevirtual 125, 3) := by decide +kernel
theorem dL_isSo_449 : decode cL_isSo 449 = .ok (.aload 9, 2) := by decide +kernel
theorem dL_isSo_451 : decode cL_isSo 451 = .ok (.bipush 6, 2) := by decide +kernel
theorem dL_isSo_453 : decode cL_isSo 453 = .ok (.iaload, 1) := by decide +kernel
theorem dL_isSo_454 : decode cL_isSo 454 = .ok (.if_icmp .ne 31, 3) := by decide +kernel
theorem dL_isSo_457 : decode cL_isSo 457 = .ok (.aload_n 0, 1) := by decide +kernel
theorem dL_isSo_458 : decode cL_isSo 458 = .ok (.bipush 9, 2) := by decide +kernel
theorem dL_isSo_460 : decode cL_isSo 460 = .ok (.invokevirtual 125, 3) := by decide +kernel
theorem dL_isSo_463 : decode cL_isSo 463 = .ok (.aload 9, 2) := by decide +kernel
theorem dL_isSo_465 : decode cL_isSo 465 = .ok (.iconst 5, 1) := by decide +kernel
theorem dL_isSo_466 : decode cL_isSo 466 = .ok (.iaload, 1) := by decide +kernel
theorem dL_isSo_467 : decode cL_isSo 467 = .ok (.if_icmp .ne 18, 3) := by decide +kernel
theorem dL_isSo_470 : decode cL_isSo 470 = .ok (.aload_n 0, 1) := by decide +kernel
theorem dL_isSo_471 : decode cL_isSo 471 = .ok (.bipush 10, 2) := by decide +kernel
theorem dL_isSo_473 : decode cL_isSo 473 = .ok (.invokevirtual 125, 3) := by decide +kernel
theorem dL_isSo_476 : decode cL_isSo 476 = .ok (.iload 10, 2) := by decide +kernel
theorem dL_isSo_478 : decode cL_isSo 478 = .ok (.if_icmp .ne 7, 3) := by decide +kernel
theorem dL_isSo_481 : decode cL_isSo 481 = .ok (.iconst 1, 1) := by decide +kernel
theorem dL_isSo_482 : decode cL_isSo 482 = .ok (.goto 4, 3) := by decide +kernel
theorem dL_isSo_485 : decode cL_isSo 485 = .ok (.iconst 0, 1) := by decide +kernel
theorem dL_isSo_486 : decode cL_isSo 486 = .ok (.istore 8, 2) := by decide +kernel
theorem dL_isSo_488 : decode cL_isSo 488 = .ok (.iload 8, 2) := by decide +kernel
theorem dL_isSo_490 : decode cL_isSo 490 = .ok (.ifCond .eq 52, 3) := by decide +kernel
theorem dL_isSo_493 : decode cL_isSo 493 = .ok (.aload_n 0, 1) := by decide +kernel
theorem dL_isSo_494 : decode cL_isSo 494 = .ok (.bipush 12, 2) := by decide +kernel
theorem dL_isSo_496 : decode cL_isSo 496 = .ok (.invokevirtual 125, 3) := by decide +kernel
theorem dL_isSo_499 : decode cL_isSo 499 = .ok (.ifCond .ne 43, 3) := by decide +kernel
theorem dL_isSo_502 : decode cL_isSo 502 = .ok (.aload_n 0, 1) := by decide +kernel
theorem dL_isSo_503 : decode cL_isSo 503 = .ok (.bipush 13, 2) := by decide +kernel
theorem dL_isSo_505 : decode cL_isSo 505 = .ok (.invokevirtual 125, 3) := by decide +kernel
theorem dL_isSo_508 : decode cL_isSo 508 = .ok (.aload_n 1, 1) := by decide +kernel
theorem dL_isSo_509 : decode cL_isSo 509 = .ok (.iconst 0, 1) := by decide +kernel
theorem dL_isSo_510 : decode cL_isSo 510 = .ok (.iaload, 1) := by decide +kernel
theorem dL_isSo_511 : decode cL_isSo 511 = .ok (.if_icmp .ne 31, 3) := by decide +kernel
theorem dL_isSo_514 : decode cL_isSo 514 = .ok (.aload_n 0, 1) := by decide +kernel
theorem dL_isSo_515 : decode cL_isSo 515 = .ok (.bipush 14, 2) := by decide +kernel
theorem dL_isSo_517 : decode cL_isSo 517 = .ok (.invokevirtual 125, 3) := by decide +kernel
theorem dL_isSo_520 : decode cL_isSo 520 = .ok (.aload_n 1, 1) := by decide +kernel
theorem dL_isSo_521 : decode cL_isSo 521 = .ok (.iconst 1, 1) := by decide +kernel
theorem dL_isSo_522 : decode cL_isSo 522 = .ok (.iaload, 1) := by decide +kernel
theorem dL_isSo_523 : decode cL_isSo 523 = .ok (.if_icmp .ne 19, 3) := by decide +kernel
theorem dL_isSo_526 : decode cL_isSo 526 = .ok (.aload_n 0, 1) := by decide +kernel
theorem dL_isSo_527 : decode cL_isSo 527 = .ok (.aload_n 1, 1) := by decide +kernel
theorem dL_isSo_528 : decode cL_isSo 528 = .ok (.iconst 2, 1) := by decide +kernel
theorem dL_isSo_529 : decode cL_isSo 529 = .ok (.iaload, 1) := by decide +kernel
theorem dL_isSo_530 : decode cL_isSo 530 = .ok (.iconst 0, 1) := by decide +kernel
theorem dL_isSo_531 : decode cL_isSo 531 = .ok (.invokevirtual 122, 3) := by decide +kernel
theorem dL_isSo_534 : decode cL_isSo 534 = .ok (.iconst (-1), 1) := by decide +kernel
theorem dL_isSo_535 : decode cL_isSo 535 = .ok (.if_icmp .ne 7, 3) := by decide +kernel
theorem dL_isSo_538 : decode cL_isSo 538 = .ok (.iconst 1, 1) := by decide +kernel
theorem dL_isSo_539 : decode cL_isSo 539 = .ok (.goto 4, 3) := by decide +kernel
theorem dL_isSo_542 : decode cL_isSo 542 = .ok (.iconst 0, 1) := by decide +kernel
theorem dL_isSo_543 : decode cL_isSo 543 = .ok (.ireturn, 1) := by decide +kernel
theorem dL_law_0 : decode cL_law 0 = .ok (.new 27, 3) := by decide +kernel
theorem dL_law_3 : decode cL_law 3 = .ok (.dup, 1) := by decide +kernel
theorem dL_law_4 : decode cL_law 4 = .ok (.invokespecial 128, 3) := by decide +kernel
theorem dL_law_7 : decode cL_law 7 = .ok (.astore_n 1, 1) := by decide +kernel
theorem dL_law_8 : decode cL_law 8 = .ok (.bipush 8, 2) := by decide +kernel
theorem dL_law_10 : decode cL_law 10 = .ok (.newarray .int, 2) := by decide +kernel
theorem dL_law_12 : decode cL_law 12 = .ok (.astore_n 2, 1) := by decide +kernel
theorem dL_law_13 : decode cL_law 13 = .ok (.bipush 60, 2) := by decide +kernel
theorem dL_law_15 : decode cL_law 15 = .ok (.newarray .int, 2) := by decide +kernel
theorem dL_law_17 : decode cL_law 17 = .ok (.astore_n 3, 1) := by decide +kernel
theorem dL_law_18 : decode cL_law 18 = .ok (.bipush 56, 2) := by decide +kernel
theorem dL_law_20 : decode cL_law 20 = .ok (.newarray .int, 2) := by decide +kernel
theorem dL_law_22 : decode cL_law 22 = .ok (.astore 4, 2) := by decide +kernel
theorem dL_law_24 : decode cL_law 24 = .ok (.bipush 48, 2) := by decide +kernel
theorem dL_law_26 : decode cL_law 26 = .ok (.newarray .int, 2) := by decide +kernel
theorem dL_law_28 : decode cL_law 28 = .ok (.astore 5, 2) := by decide +kernel
theorem dL_law_30 : decode cL_law 30 = .ok (.bipush 48, 2) := by decide +kernel
theorem dL_law_32 : decode cL_law 32 = .ok (.newarray .int, 2) := by decide +kernel
theorem dL_law_34 : decode cL_law 34 = .ok (.astore 6, 2) := by decide +kernel
theorem dL_law_36 : decode cL_law 36 = .ok (.bipush 48, 2) := by decide +kernel
theorem dL_law_38 : decode cL_law 38 = .ok (.newarray .int, 2) := by decide +kernel
theorem dL_law_40 : decode cL_law 40 = .ok (.astore 7, 2) := by decide +kernel
theorem dL_law_42 : decode cL_law 42 = .ok (.bipush 48, 2) := by decide +kernel
theorem dL_law_44 : decode cL_law 44 = .ok (.newarray .int, 2) := by decide +kernel
theorem dL_law_46 : decode cL_law 46 = .ok (.astore 8, 2) := by decide +kernel
theorem dL_law_48 : decode cL_law 48 = .ok (.aload_n 2, 1) := by decide +kernel
theorem dL_law_49 : decode cL_law 49 = .ok (.iconst 0, 1) := by decide +kernel
theorem dL_law_50 : decode cL_law 50 = .ok (.bipush 60, 2) := by decide +kernel
theorem dL_law_52 : decode cL_law 52 = .ok (.iastore, 1) := by decide +kernel
theorem dL_law_53 : decode cL_law 53 = .ok (.aload_n 2, 1) := by decide +kernel
theorem dL_law_54 : decode cL_law 54 = .ok (.iconst 1, 1) := by decide +kernel
theorem dL_law_55 : decode cL_law 55 = .ok (.sipush 5000, 3) := by decide +kernel
theorem dL_law_58 : decode cL_law 58 = .ok (.iastore, 1) := by decide +kernel
theorem dL_law_59 : decode cL_law 59 = .ok (.aload_n 2, 1) := by decide +kernel
theorem dL_law_60 : decode cL_law 60 = .ok (.iconst 2, 1) := by decide +kernel
theorem dL_law_61 : decode cL_law 61 = .ok (.iconst 1, 1) := by decide +kernel
theorem dL_law_62 : decode cL_law 62 = .ok (.iastore, 1) := by decide +kernel
theorem dL_law_63 : decode cL_law 63 = .ok (.aload_n 3, 1) := by decide +kernel
theorem dL_law_64 : decode cL_law 64 = .ok (.bipush 9, 2) := by decide +kernel
theorem dL_law_66 : decode cL_law 66 = .ok (.bipush (-4), 2) := by decide +kernel
theorem dL_law_68 : decode cL_law 68 = .ok (.iastore, 1) := by decide +kernel
theorem dL_law_69 : decode cL_law 69 = .ok (.aload_n 1, 1) := by decide +kernel
theorem dL_law_70 : decode cL_law 70 = .ok (.aload_n 2, 1) := by decide +kernel
theorem dL_law_71 : decode cL_law 71 = .ok (.aload_n 3, 1) := by decide +kernel
theorem dL_law_72 : decode cL_law 72 = .ok (.aload 4, 2) := by decide +kernel
theorem dL_law_74 : decode cL_law 74 = .ok (.aload 5, 2) := by decide +kernel
theorem dL_law_76 : decode cL_law 76 = .ok (.aload 6, 2) := by decide +kernel
theorem dL_law_78 : decode cL_law 78 = .ok (.aload 7, 2) := by decide +kernel
theorem dL_law_80 : decode cL_law 80 = .ok (.aload 8, 2) := by decide +kernel
theorem dL_law_82 : decode cL_law 82 = .ok (.invokestatic 129, 3) := by decide +kernel
theorem dL_law_85 : decode cL_law 85 = .ok (.istore 9, 2) := by decide +kernel
theorem dL_law_87 : decode cL_law 87 = .ok (.iconst 0, 1) := by decide +kernel
theorem dL_law_88 : decode cL_law 88 = .ok (.istore 10, 2) := by decide +kernel
theorem dL_law_90 : decode cL_law 90 = .ok (.iload 10, 2) := by decide +kernel
theorem dL_law_92 : decode cL_law 92 = .ok (.bipush 10, 2) := by decide +kernel
theorem dL_law_94 : decode cL_law 94 = .ok (.if_icmp .ge 83, 3) := by decide +kernel
theorem dL_law_97 : decode cL_law 97 = .ok (.iload 9, 2) := by decide +kernel
theorem dL_law_99 : decode cL_law 99 = .ok (.ifCond .eq 78, 3) := by decide +kernel
theorem dL_law_102 : decode cL_law 102 = .ok (.aload_n 1, 1) := by decide +kernel
theorem dL_law_103 : decode cL_law 103 = .ok (.aload_n 2, 1) := by decide +kernel
theorem dL_law_104 : decode cL_law 104 = .ok (.aload_n 3, 1) := by decide +kernel
theorem dL_law_105 : decode cL_law 105 = .ok (.aload 4, 2) := by decide +kernel
theorem dL_law_107 : decode cL_law 107 = .ok (.aload 5, 2) := by decide +kernel
theorem dL_law_109 : decode cL_law 109 = .ok (.aload 6, 2) := by decide +kernel
theorem dL_law_111 : decode cL_law 111 = .ok (.aload 7, 2) := by decide +kernel
theorem dL_law_113 : decode cL_law 113 = .ok (.aload 8, 2) := by decide +kernel
theorem dL_law_115 : decode cL_law 115 = .ok (.aload_n 0, 1) := by decide +kernel
theorem dL_law_116 : decode cL_law 116 = .ok (.iconst 1, 1) := by decide +kernel
theorem dL_law_117 : decode cL_law 117 = .ok (.iload 10, 2) := by decide +kernel
theorem dL_law_119 : decode cL_law 119 = .ok (.iadd, 1) := by decide +kernel
theorem dL_law_120 : decode cL_law 120 = .ok (.invokestatic 133, 3) := by decide +kernel
theorem dL_law_123 : decode cL_law 123 = .ok (.ldc 8, 2) := by decide +kernel
theorem dL_law_125 : decode cL_law 125 = .ok (.iand, 1) := by decide +kernel
theorem dL_law_126 : decode cL_law 126 = .ok (.sipush 960, 3) := by decide +kernel
theorem dL_law_129 : decode cL_law 129 = .ok (.idiv, 1) := by decide +kernel
theorem dL_law_130 : decode cL_law 130 = .ok (.sipush 960, 3) := by decide +kernel
theorem dL_law_133 : decode cL_law 133 = .ok (.imul, 1) := by decide +kernel
theorem dL_law_134 : decode cL_law 134 = .ok (.iload 10, 2) := by decide +kernel
theorem dL_law_136 : decode cL_law 136 = .ok (.iconst 2, 1) := by decide +kernel
theorem dL_law_137 : decode cL_law 137 = .ok (.if_icmp .ge 7, 3) := by decide +kernel
theorem dL_law_140 : decode cL_law 140 = .ok (.iconst 0, 1) := by decide +kernel
theorem dL_law_141 : decode cL_law 141 = .ok (.goto 24, 3) := by decide +kernel
theorem dL_law_144 : decode cL_law 144 = .ok (.iload 10, 2) := by decide +kernel
theorem dL_law_146 : decode cL_law 146 = .ok (.iconst 5, 1) := by decide +kernel
theorem dL_law_147 : decode cL_law 147 = .ok (.if_icmp .ge 7, 3) := by decide +kernel
theorem dL_law_150 : decode cL_law 150 = .ok (.iconst 1, 1) := by decide +kernel
theorem dL_law_151 : decode cL_law 151 = .ok (.goto 14, 3) := by decide +kernel
theorem dL_law_154 : decode cL_law 154 = .ok (.iload 10, 2) := by decide +kernel
theorem dL_law_156 : decode cL_law 156 = .ok (.iconst 5, 1) := by decide +kernel
theorem dL_law_157 : decode cL_law 157 = .ok (.if_icmp .ne 7, 3) := by decide +kernel
theorem dL_law_160 : decode cL_law 160 = .ok (.iconst 2, 1) := by decide +kernel
theorem dL_law_161 : decode cL_law 161 = .ok (.goto 4, 3) := by decide +kernel
theorem dL_law_164 : decode cL_law 164 = .ok (.iconst 3, 1) := by decide +kernel
theorem dL_law_165 : decode cL_law 165 = .ok (.iadd, 1) := by decide +kernel
theorem dL_law_166 : decode cL_law 166 = .ok (.invokestatic 136, 3) := by decide +kernel
theorem dL_law_169 : decode cL_law 169 = .ok (.istore 9, 2) := by decide +kernel
theorem dL_law_171 : decode cL_law 171 = .ok (.iinc 10 1, 3) := by decide +kernel
theorem dL_law_174 : decode cL_law 174 = .ok (.goto (-84), 3) := by decide +kernel
theorem dL_law_177 : decode cL_law 177 = .ok (.bipush 12, 2) := by decide +kernel
theorem dL_law_179 : decode cL_law 179 = .ok (.aload_n 0, 1) := by decide +kernel
theorem dL_law_180 : decode cL_law 180 = .ok (.iconst 0, 1) := by decide +kernel
theorem dL_law_181 : decode cL_law 181 = .ok (.invokestatic 133, 3) := by decide +kernel
theorem dL_law_184 : decode cL_law 184 = .ok (.bipush 50, 2) := by decide +kernel
theorem dL_law_186 : decode cL_law 186 = .ok (.invokestatic 62, 3) := by decide +kernel
theorem dL_law_189 : decode cL_law 189 = .ok (.iadd, 1) := by decide +kernel
theorem dL_law_190 : decode cL_law 190 = .ok (.istore 10, 2) := by decide +kernel
theorem dL_law_192 : decode cL_law 192 = .ok (.iconst 0, 1) := by decide +kernel
theorem dL_law_193 : decode cL_law 193 = .ok (.istore 11, 2) := by decide +kernel
theorem dL_law_195 : decode cL_law 195 = .ok (.iload 11, 2) := by decide +kernel
theorem dL_law_197 : decode cL_law 197 = .ok (.iload 10, 2) := by decide +kernel
theorem dL_law_199 : decode cL_law 199 = .ok (.if_icmp .ge 75, 3) := by decide +kernel
theorem dL_law_202 : decode cL_law 202 = .ok (.iload 9, 2) := by decide +kernel
theorem dL_law_204 : decode cL_law 204 = .ok (.ifCond .eq 70, 3) := by decide +kernel
theorem dL_law_207 : decode cL_law 207 = .ok (.aload_n 1, 1) := by decide +kernel
theorem dL_law_208 : decode cL_law 208 = .ok (.aload_n 2, 1) := by decide +kernel
theorem dL_law_209 : decode cL_law 209 = .ok (.aload_n 3, 1) := by decide +kernel
theorem dL_law_210 : decode cL_law 210 = .ok (.aload 4, 2) := by decide +kernel
theorem dL_law_212 : decode cL_law 212 = .ok (.aload 5, 2) := by decide +kernel
theorem dL_law_214 : decode cL_law 214 = .ok (.aload 6, 2) := by decide +kernel
theorem dL_law_216 : decode cL_law 216 = .ok (.aload 7, 2) := by decide +kernel
theorem dL_law_218 : decode cL_law 218 = .ok (.aload 8, 2) := by decide +kernel
theorem dL_law_220 : decode cL_law 220 = .ok (.aload_n 0, 1) := by decide +kernel
theorem dL_law_221 : decode cL_law 221 = .ok (.bipush 11, 2) := by decide +kernel
theorem dL_law_223 : decode cL_law 223 = .ok (.iload 11, 2) := by decide +kernel
theorem dL_law_225 : decode cL_law 225 = .ok (.iadd, 1) := by decide +kernel
theorem dL_law_226 : decode cL_law 226 = .ok (.invokestatic 133, 3) := by decide +kernel
theorem dL_law_229 : decode cL_law 229 = .ok (.sipush 7919, 3) := by decide +kernel
theorem dL_law_232 : decode cL_law 232 = .ok (.iload 11, 2) := by decide +kernel
theorem dL_law_234 : decode cL_law 234 = .ok (.imul, 1) := by decide +kernel
theorem dL_law_235 : decode cL_law 235 = .ok (.ixor, 1) := by decide +kernel
theorem dL_law_236 : decode cL_law 236 = .ok (.invokestatic 136, 3) := by decide +kernel
theorem dL_law_239 : decode cL_law 239 = .ok (.ifCond .eq 26, 3) := by decide +kernel
theorem dL_law_242 : decode cL_law 242 = .ok (.aload_n 1, 1) := by decide +kernel
theorem dL_law_243 : decode cL_law 243 = .ok (.aload_n 2, 1) := by decide +kernel
theorem dL_law_244 : decode cL_law 244 = .ok (.aload_n 3, 1) := by decide +kernel
theorem dL_law_245 : decode cL_law 245 = .ok (.aload 4, 2) := by decide +kernel
theorem dL_law_247 : decode cL_law 247 = .ok (.aload 5, 2) := by decide +kernel
theorem dL_law_249 : decode cL_law 249 = .ok (.aload 6, 2) := by decide +kernel
theorem dL_law_251 : decode cL_law 251 = .ok (.aload 7, 2) := by decide +kernel
theorem dL_law_253 : decode cL_law 253 = .ok (.aload 8, 2) := by decide +kernel
theorem dL_law_255 : decode cL_law 255 = .ok (.invokestatic 129, 3) := by decide +kernel
theorem dL_law_258 : decode cL_law 258 = .ok (.ifCond .eq 7, 3) := by decide +kernel
theorem dL_law_261 : decode cL_law 261 = .ok (.iconst 1, 1) := by decide +kernel
theorem dL_law_262 : decode cL_law 262 = .ok (.goto 4, 3) := by decide +kernel
theorem dL_law_265 : decode cL_law 265 = .ok (.iconst 0, 1) := by decide +kernel
theorem dL_law_266 : decode cL_law 266 = .ok (.istore 9, 2) := by decide +kernel
theorem dL_law_268 : decode cL_law 268 = .ok (.iinc 11 1, 3) := by decide +kernel
theorem dL_law_271 : decode cL_law 271 = .ok (.goto (-76), 3) := by decide +kernel
theorem dL_law_274 : decode cL_law 274 = .ok (.iload 9, 2) := by decide +kernel
theorem dL_law_276 : decode cL_law 276 = .ok (.ifCond .eq 36, 3) := by decide +kernel
theorem dL_law_279 : decode cL_law 279 = .ok (.aload_n 1, 1) := by decide +kernel
theorem dL_law_280 : decode cL_law 280 = .ok (.bipush 15, 2) := by decide +kernel
theorem dL_law_282 : decode cL_law 282 = .ok (.invokevirtual 125, 3) := by decide +kernel
theorem dL_law_285 : decode cL_law 285 = .ok (.iconst (-1), 1) := by decide +kernel
theorem dL_law_286 : decode cL_law 286 = .ok (.if_icmp .ne 26, 3) := by decide +kernel
theorem dL_law_289 : decode cL_law 289 = .ok (.aload_n 1, 1) := by decide +kernel
theorem dL_law_290 : decode cL_law 290 = .ok (.iconst (-1), 1) := by decide +kernel
theorem dL_law_291 : decode cL_law 291 = .ok (.invokevirtual 125, 3) := by decide +kernel
theorem dL_law_294 : decode cL_law 294 = .ok (.iconst (-1), 1) := by decide +kernel
theorem dL_law_295 : decode cL_law 295 = .ok (.if_icmp .ne 17, 3) := by decide +kernel
theorem dL_law_298 : decode cL_law 298 = .ok (.aload_n 1, 1) := by decide +kernel
theorem dL_law_299 : decode cL_law 299 = .ok (.iconst 0, 1) := by decide +kernel
theorem dL_law_300 : decode cL_law 300 = .ok (.iconst (-1), 1) := by decide +kernel
theorem dL_law_301 : decode cL_law 301 = .ok (.invokevirtual 122, 3) := by decide +kernel
theorem dL_law_304 : decode cL_law 304 = .ok (.iconst (-1), 1) := by decide +kernel
theorem dL_law_305 : decode cL_law 305 = .ok (.if_icmp .ne 7, 3) := by decide +kernel
theorem dL_law_308 : decode cL_law 308 = .ok (.iconst 1, 1) := by decide +kernel
theorem dL_law_309 : decode cL_law 309 = .ok (.goto 4, 3) := by decide +kernel
theorem dL_law_312 : decode cL_law 312 = .ok (.iconst 0, 1) := by decide +kernel
theorem dL_law_313 : decode cL_law 313 = .ok (.ireturn, 1) := by decide +kernel
