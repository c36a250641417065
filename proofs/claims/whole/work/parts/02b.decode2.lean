theorem dX3_readExpression_10 : decode cX3_readExpression 10 = .ok (.invokevirtual 46, 3) := by decide +kernel
theorem dX3_readExpression_13 : decode cX3_readExpression 13 = .ok (.istore 4, 2) := by decide +kernel
theorem dX3_readExpression_15 : decode cX3_readExpression 15 = .ok (.aload_n 0, 1) := by decide +kernel
theorem dX3_readExpression_16 : decode cX3_readExpression 16 = .ok (.getfield 26, 3) := by decide +kernel
theorem dX3_readExpression_19 : decode cX3_readExpression 19 = .ok (.ifCond .ne 30, 3) := by decide +kernel
theorem dX3_readExpression_22 : decode cX3_readExpression 22 = .ok (.aload_n 0, 1) := by decide +kernel
theorem dX3_readExpression_23 : decode cX3_readExpression 23 = .ok (.iload 4, 2) := by decide +kernel
theorem dX3_readExpression_25 : decode cX3_readExpression 25 = .ok (.bipush 20, 2) := by decide +kernel
theorem dX3_readExpression_27 : decode cX3_readExpression 27 = .ok (.if_icmp .lt 14, 3) := by decide +kernel
theorem dX3_readExpression_30 : decode cX3_readExpression 30 = .ok (.iload 4, 2) := by decide +kernel
theorem dX3_readExpression_32 : decode cX3_readExpression 32 = .ok (.bipush 36, 2) := by decide +kernel
theorem dX3_readExpression_34 : decode cX3_readExpression 34 = .ok (.if_icmp .gt 7, 3) := by decide +kernel
theorem dX3_readExpression_37 : decode cX3_readExpression 37 = .ok (.iconst 1, 1) := by decide +kernel
theorem dX3_readExpression_38 : decode cX3_readExpression 38 = .ok (.goto 4, 3) := by decide +kernel
theorem dX3_readExpression_41 : decode cX3_readExpression 41 = .ok (.iconst 0, 1) := by decide +kernel
theorem dX3_readExpression_42 : decode cX3_readExpression 42 = .ok (.iload_n 1, 1) := by decide +kernel
theorem dX3_readExpression_43 : decode cX3_readExpression 43 = .ok (.invokevirtual 53, 3) := by decide +kernel
theorem dX3_readExpression_46 : decode cX3_readExpression 46 = .ok (.ifCond .ne 5, 3) := by decide +kernel
theorem dX3_readExpression_49 : decode cX3_readExpression 49 = .ok (.iconst 0, 1) := by decide +kernel
theorem dX3_readExpression_50 : decode cX3_readExpression 50 = .ok (.ireturn, 1) := by decide +kernel
theorem dX3_readExpression_51 : decode cX3_readExpression 51 = .ok (.aload_n 0, 1) := by decide +kernel
theorem dX3_readExpression_52 : decode cX3_readExpression 52 = .ok (.iload 4, 2) := by decide +kernel
theorem dX3_readExpression_54 : decode cX3_readExpression 54 = .ok (.invokevirtual 68, 3) := by decide +kernel
theorem dX3_readExpression_57 : decode cX3_readExpression 57 = .ok (.istore 5, 2) := by decide +kernel
theorem dX3_readExpression_59 : decode cX3_readExpression 59 = .ok (.iload 4, 2) := by decide +kernel
theorem dX3_readExpression_61 : decode cX3_readExpression 61 = .ok (.invokestatic 71, 3) := by decide +kernel
theorem dX3_readExpression_64 : decode cX3_readExpression 64 = .ok (.istore 6, 2) := by decide +kernel
theorem dX3_readExpression_66 : decode cX3_readExpression 66 = .ok (.iconst 0, 1) := by decide +kernel
theorem dX3_readExpression_67 : decode cX3_readExpression 67 = .ok (.istore 7, 2) := by decide +kernel
theorem dX3_readExpression_69 : decode cX3_readExpression 69 = .ok (.iload 7, 2) := by decide +kernel
theorem dX3_readExpression_71 : decode cX3_readExpression 71 = .ok (.iload 6, 2) := by decide +kernel
theorem dX3_readExpression_73 : decode cX3_readExpression 73 = .ok (.if_icmp .ge 23, 3) := by decide +kernel
theorem dX3_readExpression_76 : decode cX3_readExpression 76 = .ok (.aload_n 0, 1) := by decide +kernel
theorem dX3_readExpression_77 : decode cX3_readExpression 77 = .ok (.iload_n 1, 1) := by decide +kernel
theorem dX3_readExpression_78 : decode cX3_readExpression 78 = .ok (.iconst 1, 1) := by decide +kernel
theorem dX3_readExpression_79 : decode cX3_readExpression 79 = .ok (.iadd, 1) := by decide +kernel
theorem dX3_readExpression_80 : decode cX3_readExpression 80 = .ok (.iload_n 2, 1) := by decide +kernel
theorem dX3_readExpression_81 : decode cX3_readExpression 81 = .ok (.invokevirtual 60, 3) := by decide +kernel
theorem dX3_readExpression_84 : decode cX3_readExpression 84 = .ok (.ifCond .eq 6, 3) := by decide +kernel
theorem dX3_readExpression_87 : decode cX3_readExpression 87 = .ok (.iconst 1, 1) := by decide +kernel
theorem dX3_readExpression_88 : decode cX3_readExpression 88 = .ok (.istore 5, 2) := by decide +kernel
theorem dX3_readExpression_90 : decode cX3_readExpression 90 = .ok (.iinc 7 1, 3) := by decide +kernel
theorem dX3_readExpression_93 : decode cX3_readExpression 93 = .ok (.goto (-24), 3) := by decide +kernel
theorem dX3_readExpression_96 : decode cX3_readExpression 96 = .ok (.aload_n 0, 1) := by decide +kernel
theorem dX3_readExpression_97 : decode cX3_readExpression 97 = .ok (.getfield 9, 3) := by decide +kernel
theorem dX3_readExpression_100 : decode cX3_readExpression 100 = .ok (.iload_n 3, 1) := by decide +kernel
theorem dX3_readExpression_101 : decode cX3_readExpression 101 = .ok (.aload_n 0, 1) := by decide +kernel
theorem dX3_readExpression_102 : decode cX3_readExpression 102 = .ok (.getfield 23, 3) := by decide +kernel
theorem dX3_readExpression_105 : decode cX3_readExpression 105 = .ok (.iload_n 2, 1) := by decide +kernel
theorem dX3_readExpression_106 : decode cX3_readExpression 106 = .ok (.iload 5, 2) := by decide +kernel
theorem dX3_readExpression_108 : decode cX3_readExpression 108 = .ok (.invokevirtual 64, 3) := by decide +kernel
theorem dX3_readExpression_111 : decode cX3_readExpression 111 = .ok (.iload 5, 2) := by decide +kernel
theorem dX3_readExpression_113 : decode cX3_readExpression 113 = .ok (.ireturn, 1) := by decide +kernel
theorem dX3_mayBegin_0 : decode cX3_mayBegin 0 = .ok (.iload_n 1, 1) := by decide +kernel
theorem dX3_mayBegin_1 : decode cX3_mayBegin 1 = .ok (.ifCond .eq 17, 3) := by decide +kernel
theorem dX3_mayBegin_4 : decode cX3_mayBegin 4 = .ok (.aload_n 0, 1) := by decide +kernel
theorem dX3_mayBegin_5 : decode cX3_mayBegin 5 = .ok (.getfield 9, 3) := by decide +kernel
theorem dX3_mayBegin_8 : decode cX3_mayBegin 8 = .ok (.aload_n 0, 1) := by decide +kernel
theorem dX3_mayBegin_9 : decode cX3_mayBegin 9 = .ok (.getfield 23, 3) := by decide +kernel
theorem dX3_mayBegin_12 : decode cX3_mayBegin 12 = .ok (.invokevirtual 33, 3) := by decide +kernel
theorem dX3_mayBegin_15 : decode cX3_mayBegin 15 = .ok (.ifCond .ne 16, 3) := by decide +kernel
theorem dX3_mayBegin_18 : decode cX3_mayBegin 18 = .ok (.aload_n 0, 1) := by decide +kernel
theorem dX3_mayBegin_19 : decode cX3_mayBegin 19 = .ok (.bipush (-11), 2) := by decide +kernel
theorem dX3_mayBegin_21 : decode cX3_mayBegin 21 = .ok (.aload_n 0, 1) := by decide +kernel
theorem dX3_mayBegin_22 : decode cX3_mayBegin 22 = .ok (.getfield 23, 3) := by decide +kernel
theorem dX3_mayBegin_25 : decode cX3_mayBegin 25 = .ok (.invokevirtual 39, 3) := by decide +kernel
theorem dX3_mayBegin_28 : decode cX3_mayBegin 28 = .ok (.goto 32, 3) := by decide +kernel
theorem dX3_mayBegin_31 : decode cX3_mayBegin 31 = .ok (.iload_n 2, 1) := by decide +kernel
theorem dX3_mayBegin_32 : decode cX3_mayBegin 32 = .ok (.bipush 12, 2) := by decide +kernel
theorem dX3_mayBegin_34 : decode cX3_mayBegin 34 = .ok (.if_icmp .lt 16, 3) := by decide +kernel
theorem dX3_mayBegin_37 : decode cX3_mayBegin 37 = .ok (.aload_n 0, 1) := by decide +kernel
theorem dX3_mayBegin_38 : decode cX3_mayBegin 38 = .ok (.bipush (-13), 2) := by decide +kernel
theorem dX3_mayBegin_40 : decode cX3_mayBegin 40 = .ok (.aload_n 0, 1) := by decide +kernel
theorem dX3_mayBegin_41 : decode cX3_mayBegin 41 = .ok (.getfield 23, 3) := by decide +kernel
theorem dX3_mayBegin_44 : decode cX3_mayBegin 44 = .ok (.invokevirtual 39, 3) := by decide +kernel
theorem dX3_mayBegin_47 : decode cX3_mayBegin 47 = .ok (.goto 13, 3) := by decide +kernel
theorem dX3_mayBegin_50 : decode cX3_mayBegin 50 = .ok (.aload_n 0, 1) := by decide +kernel
theorem dX3_mayBegin_51 : decode cX3_mayBegin 51 = .ok (.dup, 1) := by decide +kernel
theorem dX3_mayBegin_52 : decode cX3_mayBegin 52 = .ok (.getfield 23, 3) := by decide +kernel
theorem dX3_mayBegin_55 : decode cX3_mayBegin 55 = .ok (.iconst 1, 1) := by decide +kernel
theorem dX3_mayBegin_56 : decode cX3_mayBegin 56 = .ok (.iadd, 1) := by decide +kernel
theorem dX3_mayBegin_57 : decode cX3_mayBegin 57 = .ok (.putfield 23, 3) := by decide +kernel
theorem dX3_mayBegin_60 : decode cX3_mayBegin 60 = .ok (.aload_n 0, 1) := by decide +kernel
theorem dX3_mayBegin_61 : decode cX3_mayBegin 61 = .ok (.getfield 26, 3) := by decide +kernel
theorem dX3_mayBegin_64 : decode cX3_mayBegin 64 = .ok (.ifCond .ne 7, 3) := by decide +kernel
theorem dX3_mayBegin_67 : decode cX3_mayBegin 67 = .ok (.iconst 1, 1) := by decide +kernel
theorem dX3_mayBegin_68 : decode cX3_mayBegin 68 = .ok (.goto 4, 3) := by decide +kernel
theorem dX3_mayBegin_71 : decode cX3_mayBegin 71 = .ok (.iconst 0, 1) := by decide +kernel
theorem dX3_mayBegin_72 : decode cX3_mayBegin 72 = .ok (.ireturn, 1) := by decide +kernel
theorem dX3_readOwnWord_0 : decode cX3_readOwnWord 0 = .ok (.iload_n 1, 1) := by decide +kernel
theorem dX3_readOwnWord_1 : decode cX3_readOwnWord 1 = .ok (.lookupswitch 101 #[(20, 35), (21, 74), (35, 88)], 35) := by decide +kernel
theorem dX3_readOwnWord_36 : decode cX3_readOwnWord 36 = .ok (.aload_n 0, 1) := by decide +kernel
theorem dX3_readOwnWord_37 : decode cX3_readOwnWord 37 = .ok (.getfield 9, 3) := by decide +kernel
theorem dX3_readOwnWord_40 : decode cX3_readOwnWord 40 = .ok (.aload_n 0, 1) := by decide +kernel
theorem dX3_readOwnWord_41 : decode cX3_readOwnWord 41 = .ok (.getfield 23, 3) := by decide +kernel
theorem dX3_readOwnWord_44 : decode cX3_readOwnWord 44 = .ok (.invokevirtual 33, 3) := by decide +kernel
theorem dX3_readOwnWord_47 : decode cX3_readOwnWord 47 = .ok (.ifCond .eq 16, 3) := by decide +kernel
theorem dX3_readOwnWord_50 : decode cX3_readOwnWord 50 = .ok (.aload_n 0, 1) := by decide +kernel
theorem dX3_readOwnWord_51 : decode cX3_readOwnWord 51 = .ok (.dup, 1) := by decide +kernel
theorem dX3_readOwnWord_52 : decode cX3_readOwnWord 52 = .ok (.getfield 23, 3) := by decide +kernel
theorem dX3_readOwnWord_55 : decode cX3_readOwnWord 55 = .ok (.iconst 1, 1) := by decide +kernel
theorem dX3_readOwnWord_56 : decode cX3_readOwnWord 56 = .ok (.iadd, 1) := by decide +kernel
theorem dX3_readOwnWord_57 : decode cX3_readOwnWord 57 = .ok (.putfield 23, 3) := by decide +kernel
theorem dX3_readOwnWord_60 : decode cX3_readOwnWord 60 = .ok (.goto 13, 3) := by decide +kernel
theorem dX3_readOwnWord_63 : decode cX3_readOwnWord 63 = .ok (.aload_n 0, 1) := by decide +kernel
theorem dX3_readOwnWord_64 : decode cX3_readOwnWord 64 = .ok (.bipush (-11), 2) := by decide +kernel
theorem dX3_readOwnWord_66 : decode cX3_readOwnWord 66 = .ok (.aload_n 0, 1) := by decide +kernel
theorem dX3_readOwnWord_67 : decode cX3_readOwnWord 67 = .ok (.getfield 23, 3) := by decide +kernel
theorem dX3_readOwnWord_70 : decode cX3_readOwnWord 70 = .ok (.invokevirtual 39, 3) := by decide +kernel
theorem dX3_readOwnWord_73 : decode cX3_readOwnWord 73 = .ok (.iconst 0, 1) := by decide +kernel
theorem dX3_readOwnWord_74 : decode cX3_readOwnWord 74 = .ok (.ireturn, 1) := by decide +kernel
theorem dX3_readOwnWord_75 : decode cX3_readOwnWord 75 = .ok (.aload_n 0, 1) := by decide +kernel
theorem dX3_readOwnWord_76 : decode cX3_readOwnWord 76 = .ok (.getfield 15, 3) := by decide +kernel
theorem dX3_readOwnWord_79 : decode cX3_readOwnWord 79 = .ok (.aload_n 0, 1) := by decide +kernel
theorem dX3_readOwnWord_80 : decode cX3_readOwnWord 80 = .ok (.bipush 10, 2) := by decide +kernel
theorem dX3_readOwnWord_82 : decode cX3_readOwnWord 82 = .ok (.invokevirtual 57, 3) := by decide +kernel
theorem dX3_readOwnWord_85 : decode cX3_readOwnWord 85 = .ok (.invokevirtual 76, 3) := by decide +kernel
theorem dX3_readOwnWord_88 : decode cX3_readOwnWord 88 = .ok (.ireturn, 1) := by decide +kernel
theorem dX3_readOwnWord_89 : decode cX3_readOwnWord 89 = .ok (.aload_n 0, 1) := by decide +kernel
theorem dX3_readOwnWord_90 : decode cX3_readOwnWord 90 = .ok (.getfield 15, 3) := by decide +kernel
theorem dX3_readOwnWord_93 : decode cX3_readOwnWord 93 = .ok (.aload_n 0, 1) := by decide +kernel
theorem dX3_readOwnWord_94 : decode cX3_readOwnWord 94 = .ok (.iconst 4, 1) := by decide +kernel
theorem dX3_readOwnWord_95 : decode cX3_readOwnWord 95 = .ok (.invokevirtual 57, 3) := by decide +kernel
theorem dX3_readOwnWord_98 : decode cX3_readOwnWord 98 = .ok (.invokevirtual 81, 3) := by decide +kernel
theorem dX3_readOwnWord_101 : decode cX3_readOwnWord 101 = .ok (.ireturn, 1) := by decide +kernel
theorem dX3_readOwnWord_102 : decode cX3_readOwnWord 102 = .ok (.iconst 0, 1) := by decide +kernel
theorem dX3_readOwnWord_103 : decode cX3_readOwnWord 103 = .ok (.ireturn, 1) := by decide +kernel
theorem dX3_readBelow_0 : decode cX3_readBelow 0 = .ok (.aload_n 0, 1) := by decide +kernel
theorem dX3_readBelow_1 : decode cX3_readBelow 1 = .ok (.getfield 9, 3) := by decide +kernel
theorem dX3_readBelow_4 : decode cX3_readBelow 4 = .ok (.aload_n 0, 1) := by decide +kernel
theorem dX3_readBelow_5 : decode cX3_readBelow 5 = .ok (.getfield 23, 3) := by decide +kernel
theorem dX3_readBelow_8 : decode cX3_readBelow 8 = .ok (.invokevirtual 46, 3) := by decide +kernel
theorem dX3_readBelow_11 : decode cX3_readBelow 11 = .ok (.istore_n 2, 1) := by decide +kernel
theorem dX3_readBelow_12 : decode cX3_readBelow 12 = .ok (.aload_n 0, 1) := by decide +kernel
theorem dX3_readBelow_13 : decode cX3_readBelow 13 = .ok (.getfield 9, 3) := by decide +kernel
theorem dX3_readBelow_16 : decode cX3_readBelow 16 = .ok (.aload_n 0, 1) := by decide +kernel
theorem dX3_readBelow_17 : decode cX3_readBelow 17 = .ok (.getfield 23, 3) := by decide +kernel
theorem dX3_readBelow_20 : decode cX3_readBelow 20 = .ok (.invokevirtual 33, 3) := by decide +kernel
theorem dX3_readBelow_23 : decode cX3_readBelow 23 = .ok (.ifCond .ne 16, 3) := by decide +kernel
theorem dX3_readBelow_26 : decode cX3_readBelow 26 = .ok (.aload_n 0, 1) := by decide +kernel
theorem dX3_readBelow_27 : decode cX3_readBelow 27 = .ok (.bipush (-11), 2) := by decide +kernel
theorem dX3_readBelow_29 : decode cX3_readBelow 29 = .ok (.aload_n 0, 1) := by decide +kernel
theorem dX3_readBelow_30 : decode cX3_readBelow 30 = .ok (.getfield 23, 3) := by decide +kernel
theorem dX3_readBelow_33 : decode cX3_readBelow 33 = .ok (.invokevirtual 39, 3) := by decide +kernel
theorem dX3_readBelow_36 : decode cX3_readBelow 36 = .ok (.goto 35, 3) := by decide +kernel
theorem dX3_readBelow_39 : decode cX3_readBelow 39 = .ok (.iload_n 2, 1) := by decide +kernel
theorem dX3_readBelow_40 : decode cX3_readBelow 40 = .ok (.ifCond .lt 8, 3) := by decide +kernel
theorem dX3_readBelow_43 : decode cX3_readBelow 43 = .ok (.iload_n 2, 1) := by decide +kernel
theorem dX3_readBelow_44 : decode cX3_readBelow 44 = .ok (.iload_n 1, 1) := by decide +kernel
theorem dX3_readBelow_45 : decode cX3_readBelow 45 = .ok (.if_icmp .lt 16, 3) := by decide +kernel
theorem dX3_readBelow_48 : decode cX3_readBelow 48 = .ok (.aload_n 0, 1) := by decide +kernel
theorem dX3_readBelow_49 : decode cX3_readBelow 49 = .ok (.bipush (-12), 2) := by decide +kernel
theorem dX3_readBelow_51 : decode cX3_readBelow 51 = .ok (.aload_n 0, 1) := by decide +kernel
theorem dX3_readBelow_52 : decode cX3_readBelow 52 = .ok (.getfield 23, 3) := by decide +kernel
theorem dX3_readBelow_55 : decode cX3_readBelow 55 = .ok (.invokevirtual 39, 3) := by decide +kernel
theorem dX3_readBelow_58 : decode cX3_readBelow 58 = .ok (.goto 13, 3) := by decide +kernel
theorem dX3_readBelow_61 : decode cX3_readBelow 61 = .ok (.aload_n 0, 1) := by decide +kernel
theorem dX3_readBelow_62 : decode cX3_readBelow 62 = .ok (.dup, 1) := by decide +kernel
theorem dX3_readBelow_63 : decode cX3_readBelow 63 = .ok (.getfield 23, 3) := by decide +kernel
theorem dX3_readBelow_66 : decode cX3_readBelow 66 = .ok (.iconst 1, 1) := by decide +kernel
theorem dX3_readBelow_67 : decode cX3_readBelow 67 = .ok (.iadd, 1) := by decide +kernel
theorem dX3_readBelow_68 : decode cX3_readBelow 68 = .ok (.putfield 23, 3) := by decide +kernel
theorem dX3_readBelow_71 : decode cX3_readBelow 71 = .ok (.iload_n 2, 1) := by decide +kernel
theorem dX3_readBelow_72 : decode cX3_readBelow 72 = .ok (.ireturn, 1) := by decide +kernel
theorem dX3_findLeak_0 : decode cX3_findLeak 0 = .ok (.iconst 0, 1) := by decide +kernel
theorem dX3_findLeak_1 : decode cX3_findLeak 1 = .ok (.istore_n 1, 1) := by decide +kernel
theorem dX3_findLeak_2 : decode cX3_findLeak 2 = .ok (.iload_n 1, 1) := by decide +kernel
theorem dX3_findLeak_3 : decode cX3_findLeak 3 = .ok (.sipush 400, 3) := by decide +kernel
theorem dX3_findLeak_6 : decode cX3_findLeak 6 = .ok (.if_icmp .ge 75, 3) := by decide +kernel
theorem dX3_findLeak_9 : decode cX3_findLeak 9 = .ok (.iload_n 1, 1) := by decide +kernel
theorem dX3_findLeak_10 : decode cX3_findLeak 10 = .ok (.aload_n 0, 1) := by decide +kernel
theorem dX3_findLeak_11 : decode cX3_findLeak 11 = .ok (.getfield 9, 3) := by decide +kernel
theorem dX3_findLeak_14 : decode cX3_findLeak 14 = .ok (.invokevirtual 84, 3) := by decide +kernel
theorem dX3_findLeak_17 : decode cX3_findLeak 17 = .ok (.if_icmp .ge 64, 3) := by decide +kernel
theorem dX3_findLeak_20 : decode cX3_findLeak 20 = .ok (.aload_n 0, 1) := by decide +kernel
theorem dX3_findLeak_21 : decode cX3_findLeak 21 = .ok (.getfield 26, 3) := by decide +kernel
theorem dX3_findLeak_24 : decode cX3_findLeak 24 = .ok (.ifCond .ne 57, 3) := by decide +kernel
theorem dX3_findLeak_27 : decode cX3_findLeak 27 = .ok (.aload_n 0, 1) := by decide +kernel
theorem dX3_findLeak_28 : decode cX3_findLeak 28 = .ok (.getfield 9, 3) := by decide +kernel
theorem dX3_findLeak_31 : decode cX3_findLeak 31 = .ok (.iload_n 1, 1) := by decide +kernel
theorem dX3_findLeak_32 : decode cX3_findLeak 32 = .ok (.invokevirtual 88, 3) := by decide +kernel
theorem dX3_findLeak_35 : decode cX3_findLeak 35 = .ok (.ifCond .eq 40, 3) := by decide +kernel
theorem dX3_findLeak_38 : decode cX3_findLeak 38 = .ok (.aload_n 0, 1) := by decide +kernel
theorem dX3_findLeak_39 : decode cX3_findLeak 39 = .ok (.iload_n 1, 1) := by decide +kernel
theorem dX3_findLeak_40 : decode cX3_findLeak 40 = .ok (.invokevirtual 91, 3) := by decide +kernel
theorem dX3_findLeak_43 : decode cX3_findLeak 43 = .ok (.ifCond .eq 32, 3) := by decide +kernel
theorem dX3_findLeak_46 : decode cX3_findLeak 46 = .ok (.aload_n 0, 1) := by decide +kernel
theorem dX3_findLeak_47 : decode cX3_findLeak 47 = .ok (.getfield 9, 3) := by decide +kernel
theorem dX3_findLeak_50 : decode cX3_findLeak 50 = .ok (.iload_n 1, 1) := by decide +kernel
theorem dX3_findLeak_51 : decode cX3_findLeak 51 = .ok (.invokevirtual 94, 3) := by decide +kernel
theorem dX3_findLeak_54 : decode cX3_findLeak 54 = .ok (.ifCond .ne 14, 3) := by decide +kernel
theorem dX3_findLeak_57 : decode cX3_findLeak 57 = .ok (.aload_n 0, 1) := by decide +kernel
theorem dX3_findLeak_58 : decode cX3_findLeak 58 = .ok (.getfield 9, 3) := by decide +kernel
theorem dX3_findLeak_61 : decode cX3_findLeak 61 = .ok (.iload_n 1, 1) := by decide +kernel
theorem dX3_findLeak_62 : decode cX3_findLeak 62 = .ok (.invokevirtual 97, 3) := by decide +kernel
theorem dX3_findLeak_65 : decode cX3_findLeak 65 = .ok (.ifCond .le 10, 3) := by decide +kernel
theorem dX3_findLeak_68 : decode cX3_findLeak 68 = .ok (.aload_n 0, 1) := by decide +kernel
theorem dX3_findLeak_69 : decode cX3_findLeak 69 = .ok (.bipush (-14), 2) := by decide +kernel
theorem dX3_findLeak_71 : decode cX3_findLeak 71 = .ok (.iload_n 1, 1) := by decide +kernel
theorem dX3_findLeak_72 : decode cX3_findLeak 72 = .ok (.invokevirtual 39, 3) := by decide +kernel
theorem dX3_findLeak_75 : decode cX3_findLeak 75 = .ok (.iinc 1 1, 3) := by decide +kernel
theorem dX3_findLeak_78 : decode cX3_findLeak 78 = .ok (.goto (-76), 3) := by decide +kernel
theorem dX3_findLeak_81 : decode cX3_findLeak 81 = .ok (.return_, 1) := by decide +kernel
theorem dX3_isOpen_0 : decode cX3_isOpen 0 = .ok (.aload_n 0, 1) := by decide +kernel
theorem dX3_isOpen_1 : decode cX3_isOpen 1 = .ok (.getfield 9, 3) := by decide +kernel
theorem dX3_isOpen_4 : decode cX3_isOpen 4 = .ok (.iload_n 1, 1) := by decide +kernel
theorem dX3_isOpen_5 : decode cX3_isOpen 5 = .ok (.invokevirtual 46, 3) := by decide +kernel
theorem dX3_isOpen_8 : decode cX3_isOpen 8 = .ok (.lookupswitch 114 #[(1, 60), (2, 86), (5, 112), (7, 112), (33, 112), (34, 112)], 60) := by decide +kernel
theorem dX3_isOpen_68 : decode cX3_isOpen 68 = .ok (.aload_n 0, 1) := by decide +kernel
theorem dX3_isOpen_69 : decode cX3_isOpen 69 = .ok (.getfield 15, 3) := by decide +kernel
theorem dX3_isOpen_72 : decode cX3_isOpen 72 = .ok (.aload_n 0, 1) := by decide +kernel
theorem dX3_isOpen_73 : decode cX3_isOpen 73 = .ok (.getfield 9, 3) := by decide +kernel
theorem dX3_isOpen_76 : decode cX3_isOpen 76 = .ok (.iload_n 1, 1) := by decide +kernel
theorem dX3_isOpen_77 : decode cX3_isOpen 77 = .ok (.iconst 1, 1) := by decide +kernel
theorem dX3_isOpen_78 : decode cX3_isOpen 78 = .ok (.iadd, 1) := by decide +kernel
theorem dX3_isOpen_79 : decode cX3_isOpen 79 = .ok (.invokevirtual 46, 3) := by decide +kernel
theorem dX3_isOpen_82 : decode cX3_isOpen 82 = .ok (.invokevirtual 76, 3) := by decide +kernel
theorem dX3_isOpen_85 : decode cX3_isOpen 85 = .ok (.ifCond .ne 7, 3) := by decide +kernel
theorem dX3_isOpen_88 : decode cX3_isOpen 88 = .ok (.iconst 1, 1) := by decide +kernel
theorem dX3_isOpen_89 : decode cX3_isOpen 89 = .ok (.goto 4, 3) := by decide +kernel
theorem dX3_isOpen_92 : decode cX3_isOpen 92 = .ok (.iconst 0, 1) := by decide +kernel
theorem dX3_isOpen_93 : decode cX3_isOpen 93 = .ok (.ireturn, 1) := by decide +kernel
theorem dX3_isOpen_94 : decode cX3_isOpen 94 = .ok (.aload_n 0, 1) := by decide +kernel
theorem dX3_isOpen_95 : decode cX3_isOpen 95 = .ok (.getfield 15, 3) := by decide +kernel
theorem dX3_isOpen_98 : decode cX3_isOpen 98 = .ok (.aload_n 0, 1) := by decide +kernel
theorem dX3_isOpen_99 : decode cX3_isOpen 99 = .ok (.getfield 9, 3) := by decide +kernel
theorem dX3_isOpen_102 : decode cX3_isOpen 102 = .ok (.iload_n 1, 1) := by decide +kernel
theorem dX3_isOpen_103 : decode cX3_isOpen 103 = .ok (.iconst 1, 1) := by decide +kernel
theorem dX3_isOpen_104 : decode cX3_isOpen 104 = .ok (.iadd, 1) := by decide +kernel
theorem dX3_isOpen_105 : decode cX3_isOpen 105 = .ok (.invokevirtual 46, 3) := by decide +kernel
theorem dX3_isOpen_108 : decode cX3_isOpen 108 = .ok (.invokevirtual 81, 3) := by decide +kernel
theorem dX3_isOpen_111 : decode cX3_isOpen 111 = .ok (.ifCond .ne 7, 3) := by decide +kernel
theorem dX3_isOpen_114 : decode cX3_isOpen 114 = .ok (.iconst 1, 1) := by decide +kernel
theorem dX3_isOpen_115 : decode cX3_isOpen 115 = .ok (.goto 4, 3) := by decide +kernel
theorem dX3_isOpen_118 : decode cX3_isOpen 118 = .ok (.iconst 0, 1) := by decide +kernel
theorem dX3_isOpen_119 : decode cX3_isOpen 119 = .ok (.ireturn, 1) := by decide +kernel
theorem dX3_isOpen_120 : decode cX3_isOpen 120 = .ok (.iconst 1, 1) := by decide +kernel
theorem dX3_isOpen_121 : decode cX3_isOpen 121 = .ok (.ireturn, 1) := by decide +kernel
theorem dX3_isOpen_122 : decode cX3_isOpen 122 = .ok (.iconst 0, 1) := by decide +kernel
theorem dX3_isOpen_123 : decode cX3_isOpen 123 = .ok (.ireturn, 1) := by decide +kernel
theorem dX4_partsOf_0 : decode cX4_partsOf 0 = .ok (.iload_n 0, 1) := by decide +kernel
theorem dX4_partsOf_1 : decode cX4_partsOf 1 = .ok (.lookupswitch 57 #[(20, 51), (21, 51), (32, 53), (35, 53), (36, 55)], 51) := by decide +kernel
theorem dX4_partsOf_52 : decode cX4_partsOf 52 = .ok (.iconst 0, 1) := by decide +kernel
theorem dX4_partsOf_53 : decode cX4_partsOf 53 = .ok (.ireturn, 1) := by decide +kernel
theorem dX4_partsOf_54 : decode cX4_partsOf 54 = .ok (.iconst 1, 1) := by decide +kernel
theorem dX4_partsOf_55 : decode cX4_partsOf 55 = .ok (.ireturn, 1) := by decide +kernel
theorem dX4_partsOf_56 : decode cX4_partsOf 56 = .ok (.iconst 3, 1) := by decide +kernel
theorem dX4_partsOf_57 : decode cX4_partsOf 57 = .ok (.ireturn, 1) := by decide +kernel
theorem dX4_partsOf_58 : decode cX4_partsOf 58 = .ok (.iconst 2, 1) := by decide +kernel
theorem dX4_partsOf_59 : decode cX4_partsOf 59 = .ok (.ireturn, 1) := by decide +kernel
theorem dX4_traps_0 : decode cX4_traps 0 = .ok (.iload_n 0, 1) := by decide +kernel
theorem dX4_traps_1 : decode cX4_traps 1 = .ok (.bipush 33, 2) := by decide +kernel
theorem dX4_traps_3 : decode cX4_traps 3 = .ok (.if_icmp .eq 9, 3) := by decide +kernel
theorem dX4_traps_6 : decode cX4_traps 6 = .ok (.iload_n 0, 1) := by decide +kernel
theorem dX4_traps_7 : decode cX4_traps 7 = .ok (.bipush 34, 2) := by decide +kernel
theorem dX4_traps_9 : decode cX4_traps 9 = .ok (.if_icmp .ne 11, 3) := by decide +kernel
theorem dX4_traps_12 : decode cX4_traps 12 = .ok (.iload_n 1, 1) := by decide +kernel
theorem dX4_traps_13 : decode cX4_traps 13 = .ok (.ifCond .ne 7, 3) := by decide +kernel
theorem dX4_traps_16 : decode cX4_traps 16 = .ok (.iconst 1, 1) := by decide +kernel
theorem dX4_traps_17 : decode cX4_traps 17 = .ok (.goto 4, 3) := by decide +kernel
theorem dX4_traps_20 : decode cX4_traps 20 = .ok (.iconst 0, 1) := by decide +kernel
theorem dX4_traps_21 : decode cX4_traps 21 = .ok (.ireturn, 1) := by decide +kernel
theorem dX4_reckon_0 : decode cX4_reckon 0 = .ok (.iload_n 0, 1) := by decide +kernel
theorem dX4_reckon_1 : decode cX4_reckon 1 = .ok (.tableswitch 161 22 34 #[67, 71, 75, 79, 83, 87, 91, 98, 105, 116, 127, 137, 149], 67) := by decide +kernel
theorem dX4_reckon_68 : decode cX4_reckon 68 = .ok (.iload_n 1, 1) := by decide +kernel
theorem dX4_reckon_69 : decode cX4_reckon 69 = .ok (.iload_n 2, 1) := by decide +kernel
theorem dX4_reckon_70 : decode cX4_reckon 70 = .ok (.iadd, 1) := by decide +kernel
theorem dX4_reckon_71 : decode cX4_reckon 71 = .ok (.ireturn, 1) := by decide +kernel
theorem dX4_reckon_72 : decode cX4_reckon 72 = .ok (.iload_n 1, 1) := by decide +kernel
theorem dX4_reckon_73 : decode cX4_reckon 73 = .ok (.iload_n 2, 1) := by decide +kernel
theorem dX4_reckon_74 : decode cX4_reckon 74 = .ok (.isub, 1) := by decide +kernel
theorem dX4_reckon_75 : decode cX4_reckon 75 = .ok (.ireturn, 1) := by decide +kernel
theorem dX4_reckon_76 : decode cX4_reckon 76 = .ok (.iload_n 1, 1) := by decide +kernel
theorem dX4_reckon_77 : decode cX4_reckon 77 = .ok (.iload_n 2, 1) := by decide +kernel
theorem dX4_reckon_78 : decode cX4_reckon 78 = .ok (.imul, 1) := by decide +kernel
theorem dX4_reckon_79 : decode cX4_reckon 79 = .ok (.ireturn, 1) := by decide +kernel
theorem dX4_reckon_80 : decode cX4_reckon 80 = .ok (.iload_n 1, 1) := by decide +kernel
theorem dX4_reckon_81 : decode cX4_reckon 81 = .ok (.iload_n 2, 1) := by decide +kernel
theorem dX4_reckon_82 : decode cX4_reckon 82 = .ok (.iand, 1) := by decide +kernel
theorem dX4_reckon_83 : decode cX4_reckon 83 = .ok (.ireturn, 1) := by decide +kernel
theorem dX4_reckon_84 : decode cX4_reckon 84 = .ok (.iload_n 1, 1) := by decide +kernel
theorem dX4_reckon_85 : decode cX4_reckon 85 = .ok (.iload_n 2, 1) := by decide +kernel
theorem dX4_reckon_86 : decode cX4_reckon 86 = .ok (.ior, 1) := by decide +kernel
theorem dX4_reckon_87 : decode cX4_reckon 87 = .ok (.ireturn, 1) := by decide +kernel
theorem dX4_reckon_88 : decode cX4_reckon 88 = .ok (.iload_n 1, 1) := by decide +kernel
theorem dX4_reckon_89 : decode cX4_reckon 89 = .ok (.iload_n 2, 1) := by decide +kernel
theorem dX4_reckon_90 : decode cX4_reckon 90 = .ok (.ixor, 1) := by decide +kernel
theorem dX4_reckon_91 : decode cX4_reckon 91 = .ok (.ireturn, 1) := by decide +kernel
theorem dX4_reckon_92 : decode cX4_reckon 92 = .ok (.iload_n 1, 1) := by decide +kernel
theorem dX4_reckon_93 : decode cX4_reckon 93 = .ok (.iload_n 2, 1) := by decide +kernel
theorem dX4_reckon_94 : decode cX4_reckon 94 = .ok (.bipush 31, 2) := by decide +kernel
theorem dX4_reckon_96 : decode cX4_reckon 96 = .ok (.iand, 1) := by decide +kernel
theorem dX4_reckon_97 : decode cX4_reckon 97 = .ok (.ishl, 1) := by decide +kernel
theorem dX4_reckon_98 : decode cX4_reckon 98 = .ok (.ireturn, 1) := by decide +kernel
theorem dX4_reckon_99 : decode cX4_reckon 99 = .ok (.iload_n 1, 1) := by decide +kernel
theorem dX4_reckon_100 : decode cX4_reckon 100 = .ok (.iload_n 2, 1) := by decide +kernel
theorem dX4_reckon_101 : decode cX4_reckon 101 = .ok (.bipush 31, 2) := by decide +kernel
theorem dX4_reckon_103 : decode cX4_reckon 103 = .ok (.iand, 1) := by decide +kernel
theorem dX4_reckon_104 : decode cX4_reckon 104 = .ok (.iushr, 1) := by decide +kernel
theorem dX4_reckon_105 : decode cX4_reckon 105 = .ok (.ireturn, 1) := by decide +kernel
theorem dX4_reckon_106 : decode cX4_reckon 106 = .ok (.iload_n 1, 1) := by decide +kernel
theorem dX4_reckon_107 : decode cX4_reckon 107 = .ok (.iload_n 2, 1) := by decide +kernel
theorem dX4_reckon_108 : decode cX4_reckon 108 = .ok (.if_icmp .ge 7, 3) := by decide +kernel
theorem dX4_reckon_111 : decode cX4_reckon 111 = .ok (.iconst 1, 1) := by decide +kernel
theorem dX4_reckon_112 : decode cX4_reckon 112 = .ok (.goto 4, 3) := by decide +kernel
theorem dX4_reckon_115 : decode cX4_reckon 115 = .ok (.iconst 0, 1) := by decide +kernel
theorem dX4_reckon_116 : decode cX4_reckon 116 = .ok (.ireturn, 1) := by decide +kernel
theorem dX4_reckon_117 : decode cX4_reckon 117 = .ok (.iload_n 1, 1) := by decide +kernel
theorem dX4_reckon_118 : decode cX4_reckon 118 = .ok (.iload_n 2, 1) := by decide +kernel
theorem dX4_reckon_119 : decode cX4_reckon 119 = .ok (.if_icmp .ne 7, 3) := by decide +kernel
theorem dX4_reckon_122 : decode cX4_reckon 122 = .ok (.iconst 1, 1) := by decide +kernel
theorem dX4_reckon_123 : decode cX4_reckon 123 = .ok (.goto 4, 3) := by decide +kernel
theorem dX4_reckon_126 : decode cX4_reckon 126 = .ok (.iconst 0, 1) := by decide +kernel
theorem dX4_reckon_127 : decode cX4_reckon 127 = .ok (.ireturn, 1) := by decide +kernel
theorem dX4_reckon_128 : decode cX4_reckon 128 = .ok (.iload_n 1, 1) := by decide +kernel
theorem dX4_reckon_129 : decode cX4_reckon 129 = .ok (.ifCond .ne 7, 3) := by decide +kernel
theorem dX4_reckon_132 : decode cX4_reckon 132 = .ok (.iconst 1, 1) := by decide +kernel
theorem dX4_reckon_133 : decode cX4_reckon 133 = .ok (.goto 4, 3) := by decide +kernel
theorem dX4_reckon_136 : decode cX4_reckon 136 = .ok (.iconst 0, 1) := by decide +kernel
theorem dX4_reckon_137 : decode cX4_reckon 137 = .ok (.ireturn, 1) := by decide +kernel
theorem dX4_reckon_138 : decode cX4_reckon 138 = .ok (.iload_n 2, 1) := by decide +kernel
theorem dX4_reckon_139 : decode cX4_reckon 139 = .ok (.ifCond .ne 7, 3) := by decide +kernel
theorem dX4_reckon_142 : decode cX4_reckon 142 = .ok (.iconst 0, 1) := by decide +kernel
theorem dX4_reckon_143 : decode cX4_reckon 143 = .ok (.goto 6, 3) := by decide +kernel
theorem dX4_reckon_146 : decode cX4_reckon 146 = .ok (.iload_n 1, 1) := by decide +kernel
theorem dX4_reckon_147 : decode cX4_reckon 147 = .ok (.iload_n 2, 1) := by decide +kernel
theorem dX4_reckon_148 : decode cX4_reckon 148 = .ok (.idiv, 1) := by decide +kernel
theorem dX4_reckon_149 : decode cX4_reckon 149 = .ok (.ireturn, 1) := by decide +kernel
theorem dX4_reckon_150 : decode cX4_reckon 150 = .ok (.iload_n 2, 1) := by decide +kernel
theorem dX4_reckon_151 : decode cX4_reckon 151 = .ok (.ifCond .ne 7, 3) := by decide +kernel
theorem dX4_reckon_154 : decode cX4_reckon 154 = .ok (.iconst 0, 1) := by decide +kernel
theorem dX4_reckon_155 : decode cX4_reckon 155 = .ok (.goto 6, 3) := by decide +kernel
theorem dX4_reckon_158 : decode cX4_reckon 158 = .ok (.iload_n 1, 1) := by decide +kernel
theorem dX4_reckon_159 : decode cX4_reckon 159 = .ok (.iload_n 2, 1) := by decide +kernel
theorem dX4_reckon_160 : decode cX4_reckon 160 = .ok (.irem, 1) := by decide +kernel
theorem dX4_reckon_161 : decode cX4_reckon 161 = .ok (.ireturn, 1) := by decide +kernel
theorem dX4_reckon_162 : decode cX4_reckon 162 = .ok (.iconst 0, 1) := by decide +kernel
theorem dX4_reckon_163 : decode cX4_reckon 163 = .ok (.ireturn, 1) := by decide +kernel
theorem dX5_init_0 : decode cX5_init 0 = .ok (.aload_n 0, 1) := by decide +kernel
theorem dX5_init_1 : decode cX5_init 1 = .ok (.invokespecial 3, 3) := by decide +kernel
theorem dX5_init_4 : decode cX5_init 4 = .ok (.aload_n 0, 1) := by decide +kernel
theorem dX5_init_5 : decode cX5_init 5 = .ok (.bipush 10, 2) := by decide +kernel
theorem dX5_init_7 : decode cX5_init 7 = .ok (.newarray .int, 2) := by decide +kernel
theorem dX5_init_9 : decode cX5_init 9 = .ok (.putfield 9, 3) := by decide +kernel
theorem dX5_init_12 : decode cX5_init 12 = .ok (.aload_n 0, 1) := by decide +kernel
theorem dX5_init_13 : decode cX5_init 13 = .ok (.bipush 10, 2) := by decide +kernel
theorem dX5_init_15 : decode cX5_init 15 = .ok (.newarray .boolean, 2) := by decide +kernel
theorem dX5_init_17 : decode cX5_init 17 = .ok (.putfield 15, 3) := by decide +kernel
theorem dX5_init_20 : decode cX5_init 20 = .ok (.aload_n 0, 1) := by decide +kernel
theorem dX5_init_21 : decode cX5_init 21 = .ok (.bipush 64, 2) := by decide +kernel
theorem dX5_init_23 : decode cX5_init 23 = .ok (.newarray .int, 2) := by decide +kernel
theorem dX5_init_25 : decode cX5_init 25 = .ok (.putfield 19, 3) := by decide +kernel
theorem dX5_init_28 : decode cX5_init 28 = .ok (.aload_n 0, 1) := by decide +kernel
theorem dX5_init_29 : decode cX5_init 29 = .ok (.iconst 4, 1) := by decide +kernel
theorem dX5_init_30 : decode cX5_init 30 = .ok (.newarray .int, 2) := by decide +kernel
theorem dX5_init_32 : decode cX5_init 32 = .ok (.putfield 22, 3) := by decide +kernel
theorem dX5_init_35 : decode cX5_init 35 = .ok (.aload_n 0, 1) := by decide +kernel
theorem dX5_init_36 : decode cX5_init 36 = .ok (.iconst 4, 1) := by decide +kernel
theorem dX5_init_37 : decode cX5_init 37 = .ok (.newarray .boolean, 2) := by decide +kernel
theorem dX5_init_39 : decode cX5_init 39 = .ok (.putfield 25, 3) := by decide +kernel
theorem dX5_init_42 : decode cX5_init 42 = .ok (.aload_n 0, 1) := by decide +kernel
theorem dX5_init_43 : decode cX5_init 43 = .ok (.getfield 22, 3) := by decide +kernel
theorem dX5_init_46 : decode cX5_init 46 = .ok (.iconst 4, 1) := by decide +kernel
theorem dX5_init_47 : decode cX5_init 47 = .ok (.invokestatic 28, 3) := by decide +kernel
theorem dX5_init_50 : decode cX5_init 50 = .ok (.return_, 1) := by decide +kernel
theorem dX5_hasVariable_0 : decode cX5_hasVariable 0 = .ok (.iload_n 1, 1) := by decide +kernel
theorem dX5_hasVariable_1 : decode cX5_hasVariable 1 = .ok (.ifCond .lt 13, 3) := by decide +kernel
theorem dX5_hasVariable_4 : decode cX5_hasVariable 4 = .ok (.iload_n 1, 1) := by decide +kernel
theorem dX5_hasVariable_5 : decode cX5_hasVariable 5 = .ok (.bipush 10, 2) := by decide +kernel
theorem dX5_hasVariable_7 : decode cX5_hasVariable 7 = .ok (.if_icmp .ge 7, 3) := by decide +kernel
theorem dX5_hasVariable_10 : decode cX5_hasVariable 10 = .ok (.iconst 1, 1) := by decide +kernel
theorem dX5_hasVariable_11 : decode cX5_hasVariable 11 = .ok (.goto 4, 3) := by decide +kernel
theorem dX5_hasVariable_14 : decode cX5_hasVariable 14 = .ok (.iconst 0, 1) := by decide +kernel
theorem dX5_hasVariable_15 : decode cX5_hasVariable 15 = .ok (.ireturn, 1) := by decide +kernel
theorem dX5_isSecretVariable_0 : decode cX5_isSecretVariable 0 = .ok (.aload_n 0, 1) := by decide +kernel
theorem dX5_isSecretVariable_1 : decode cX5_isSecretVariable 1 = .ok (.iload_n 1, 1) := by decide +kernel
theorem dX5_isSecretVariable_2 : decode cX5_isSecretVariable 2 = .ok (.invokevirtual 34, 3) := by decide +kernel
theorem dX5_isSecretVariable_5 : decode cX5_isSecretVariable 5 = .ok (.ifCond .eq 16, 3) := by decide +kernel
theorem dX5_isSecretVariable_8 : decode cX5_isSecretVariable 8 = .ok (.aload_n 0, 1) := by decide +kernel
theorem dX5_isSecretVariable_9 : decode cX5_isSecretVariable 9 = .ok (.getfield 15, 3) := by decide +kernel
theorem dX5_isSecretVariable_12 : decode cX5_isSecretVariable 12 = .ok (.iload_n 1, 1) := by decide +kernel
theorem dX5_isSecretVariable_13 : decode cX5_isSecretVariable 13 = .ok (.baload, 1) := by decide +kernel
theorem dX5_isSecretVariable_14 : decode cX5_isSecretVariable 14 = .ok (.ifCond .eq 7, 3) := by decide +kernel
theorem dX5_isSecretVariable_17 : decode cX5_isSecretVariable 17 = .ok (.iconst 1, 1) := by decide +kernel
theorem dX5_isSecretVariable_18 : decode cX5_isSecretVariable 18 = .ok (.goto 4, 3) := by decide +kernel
theorem dX5_isSecretVariable_21 : decode cX5_isSecretVariable 21 = .ok (.iconst 0, 1) := by decide +kernel
theorem dX5_isSecretVariable_22 : decode cX5_isSecretVariable 22 = .ok (.ireturn, 1) := by decide +kernel
theorem dX5_declareVariable_0 : decode cX5_declareVariable 0 = .ok (.aload_n 0, 1) := by decide +kernel
theorem dX5_declareVariable_1 : decode cX5_declareVariable 1 = .ok (.iload_n 1, 1) := by decide +kernel
theorem dX5_declareVariable_2 : decode cX5_declareVariable 2 = .ok (.invokevirtual 34, 3) := by decide +kernel
theorem dX5_declareVariable_5 : decode cX5_declareVariable 5 = .ok (.ifCond .eq 10, 3) := by decide +kernel
theorem dX5_declareVariable_8 : decode cX5_declareVariable 8 = .ok (.aload_n 0, 1) := by decide +kernel
theorem dX5_declareVariable_9 : decode cX5_declareVariable 9 = .ok (.getfield 15, 3) := by decide +kernel
theorem dX5_declareVariable_12 : decode cX5_declareVariable 12 = .ok (.iload_n 1, 1) := by decide +kernel
theorem dX5_declareVariable_13 : decode cX5_declareVariable 13 = .ok (.iload_n 2, 1) := by decide +kernel
theorem dX5_declareVariable_14 : decode cX5_declareVariable 14 = .ok (.bastore, 1) := by decide +kernel
theorem dX5_declareVariable_15 : decode cX5_declareVariable 15 = .ok (.return_, 1) := by decide +kernel
theorem dX5_numberOf_0 : decode cX5_numberOf 0 = .ok (.aload_n 0, 1) := by decide +kernel
theorem dX5_numberOf_1 : decode cX5_numberOf 1 = .ok (.iload_n 1, 1) := by decide +kernel
theorem dX5_numberOf_2 : decode cX5_numberOf 2 = .ok (.invokevirtual 34, 3) := by decide +kernel
theorem dX5_numberOf_5 : decode cX5_numberOf 5 = .ok (.ifCond .eq 12, 3) := by decide +kernel
theorem dX5_numberOf_8 : decode cX5_numberOf 8 = .ok (.aload_n 0, 1) := by decide +kernel
theorem dX5_numberOf_9 : decode cX5_numberOf 9 = .ok (.getfield 9, 3) := by decide +kernel
theorem dX5_numberOf_12 : decode cX5_numberOf 12 = .ok (.iload_n 1, 1) := by decide +kernel
theorem dX5_numberOf_13 : decode cX5_numberOf 13 = .ok (.iaload, 1) := by decide +kernel
theorem dX5_numberOf_14 : decode cX5_numberOf 14 = .ok (.goto 4, 3) := by decide +kernel
theorem dX5_numberOf_17 : decode cX5_numberOf 17 = .ok (.iconst 0, 1) := by decide +kernel
theorem dX5_numberOf_18 : decode cX5_numberOf 18 = .ok (.ireturn, 1) := by decide +kernel
theorem dX5_assign_0 : decode cX5_assign 0 = .ok (.aload_n 0, 1) := by decide +kernel
theorem dX5_assign_1 : decode cX5_assign 1 = .ok (.iload_n 1, 1) := by decide +kernel
theorem dX5_assign_2 : decode cX5_assign 2 = .ok (.invokevirtual 34, 3) := by decide +kernel
theorem dX5_assign_5 : decode cX5_assign 5 = .ok (.ifCond .eq 10, 3) := by decide +kernel
theorem dX5_assign_8 : decode cX5_assign 8 = .ok (.aload_n 0, 1) := by decide +kernel
theorem dX5_assign_9 : decode cX5_assign 9 = .ok (.getfield 9, 3) := by decide +kernel
theorem dX5_assign_12 : decode cX5_assign 12 = .ok (.iload_n 1, 1) := by decide +kernel
theorem dX5_assign_13 : decode cX5_assign 13 = .ok (.iload_n 2, 1) := by decide +kernel
theorem dX5_assign_14 : decode cX5_assign 14 = .ok (.iastore, 1) := by decide +kernel
theorem dX5_assign_15 : decode cX5_assign 15 = .ok (.return_, 1) := by decide +kernel
theorem dX5_hasTable_0 : decode cX5_hasTable 0 = .ok (.iload_n 1, 1) := by decide +kernel
theorem dX5_hasTable_1 : decode cX5_hasTable 1 = .ok (.ifCond .lt 12, 3) := by decide +kernel
theorem dX5_hasTable_4 : decode cX5_hasTable 4 = .ok (.iload_n 1, 1) := by decide +kernel
theorem dX5_hasTable_5 : decode cX5_hasTable 5 = .ok (.iconst 4, 1) := by decide +kernel
theorem dX5_hasTable_6 : decode cX5_hasTable 6 = .ok (.if_icmp .ge 7, 3) := by decide +kernel
theorem dX5_hasTable_9 : decode cX5_hasTable 9 = .ok (.iconst 1, 1) := by decide +kernel
theorem dX5_hasTable_10 : decode cX5_hasTable 10 = .ok (.goto 4, 3) := by decide +kernel
theorem dX5_hasTable_13 : decode cX5_hasTable 13 = .ok (.iconst 0, 1) := by decide +kernel
theorem dX5_hasTable_14 : decode cX5_hasTable 14 = .ok (.ireturn, 1) := by decide +kernel
theorem dX5_isSecretTable_0 : decode cX5_isSecretTable 0 = .ok (.aload_n 0, 1) := by decide +kernel
theorem dX5_isSecretTable_1 : decode cX5_isSecretTable 1 = .ok (.iload_n 1, 1) := by decide +kernel
theorem dX5_isSecretTable_2 : decode cX5_isSecretTable 2 = .ok (.invokevirtual 38, 3) := by decide +kernel
theorem dX5_isSecretTable_5 : decode cX5_isSecretTable 5 = .ok (.ifCond .eq 16, 3) := by decide +kernel
theorem dX5_isSecretTable_8 : decode cX5_isSecretTable 8 = .ok (.aload_n 0, 1) := by decide +kernel
theorem dX5_isSecretTable_9 : decode cX5_isSecretTable 9 = .ok (.getfield 25, 3) := by decide +kernel
theorem dX5_isSecretTable_12 : decode cX5_isSecretTable 12 = .ok (.iload_n 1, 1) := by decide +kernel
theorem dX5_isSecretTable_13 : decode cX5_isSecretTable 13 = .ok (.baload, 1) := by decide +kernel
theorem dX5_isSecretTable_14 : decode cX5_isSecretTable 14 = .ok (.ifCond .eq 7, 3) := by decide +kernel
theorem dX5_isSecretTable_17 : decode cX5_isSecretTable 17 = .ok (.iconst 1, 1) := by decide +kernel
theorem dX5_isSecretTable_18 : decode cX5_isSecretTable 18 = .ok (.goto 4, 3) := by decide +kernel
theorem dX5_isSecretTable_21 : decode cX5_isSecretTable 21 = .ok (.iconst 0, 1) := by decide +kernel
theorem dX5_isSecretTable_22 : decode cX5_isSecretTable 22 = .ok (.ireturn, 1) := by decide +kernel
theorem dX5_sizeOf_0 : decode cX5_sizeOf 0 = .ok (.aload_n 0, 1) := by decide +kernel
theorem dX5_sizeOf_1 : decode cX5_sizeOf 1 = .ok (.iload_n 1, 1) := by decide +kernel
theorem dX5_sizeOf_2 : decode cX5_sizeOf 2 = .ok (.invokevirtual 38, 3) := by decide +kernel
theorem dX5_sizeOf_5 : decode cX5_sizeOf 5 = .ok (.ifCond .eq 12, 3) := by decide +kernel
theorem dX5_sizeOf_8 : decode cX5_sizeOf 8 = .ok (.aload_n 0, 1) := by decide +kernel
theorem dX5_sizeOf_9 : decode cX5_sizeOf 9 = .ok (.getfield 22, 3) := by decide +kernel
theorem dX5_sizeOf_12 : decode cX5_sizeOf 12 = .ok (.iload_n 1, 1) := by decide +kernel
theorem dX5_sizeOf_13 : decode cX5_sizeOf 13 = .ok (.iaload, 1) := by decide +kernel
theorem dX5_sizeOf_14 : decode cX5_sizeOf 14 = .ok (.goto 4, 3) := by decide +kernel
theorem dX5_sizeOf_17 : decode cX5_sizeOf 17 = .ok (.iconst 0, 1) := by decide +kernel
theorem dX5_sizeOf_18 : decode cX5_sizeOf 18 = .ok (.ireturn, 1) := by decide +kernel
theorem dX5_declareTable_0 : decode cX5_declareTable 0 = .ok (.aload_n 0, 1) := by decide +kernel
theorem dX5_declareTable_1 : decode cX5_declareTable 1 = .ok (.iload_n 1, 1) := by decide +kernel
theorem dX5_declareTable_2 : decode cX5_declareTable 2 = .ok (.invokevirtual 38, 3) := by decide +kernel
theorem dX5_declareTable_5 : decode cX5_declareTable 5 = .ok (.ifCond .eq 14, 3) := by decide +kernel
theorem dX5_declareTable_8 : decode cX5_declareTable 8 = .ok (.iload_n 3, 1) := by decide +kernel
theorem dX5_declareTable_9 : decode cX5_declareTable 9 = .ok (.iconst 1, 1) := by decide +kernel
theorem dX5_declareTable_10 : decode cX5_declareTable 10 = .ok (.if_icmp .lt 9, 3) := by decide +kernel
theorem dX5_declareTable_13 : decode cX5_declareTable 13 = .ok (.iload_n 3, 1) := by decide +kernel
theorem dX5_declareTable_14 : decode cX5_declareTable 14 = .ok (.bipush 16, 2) := by decide +kernel
theorem dX5_declareTable_16 : decode cX5_declareTable 16 = .ok (.if_icmp .le 4, 3) := by decide +kernel
theorem dX5_declareTable_19 : decode cX5_declareTable 19 = .ok (.return_, 1) := by decide +kernel
theorem dX5_declareTable_20 : decode cX5_declareTable 20 = .ok (.aload_n 0, 1) := by decide +kernel
theorem dX5_declareTable_21 : decode cX5_declareTable 21 = .ok (.getfield 25, 3) := by decide +kernel
theorem dX5_declareTable_24 : decode cX5_declareTable 24 = .ok (.iload_n 1, 1) := by decide +kernel
theorem dX5_declareTable_25 : decode cX5_declareTable 25 = .ok (.iload_n 2, 1) := by decide +kernel
theorem dX5_declareTable_26 : decode cX5_declareTable 26 = .ok (.bastore, 1) := by decide +kernel
theorem dX5_declareTable_27 : decode cX5_declareTable 27 = .ok (.aload_n 0, 1) := by decide +kernel
theorem dX5_declareTable_28 : decode cX5_declareTable 28 = .ok (.getfield 22, 3) := by decide +kernel
theorem dX5_declareTable_31 : decode cX5_declareTable 31 = .ok (.iload_n 1, 1) := by decide +kernel
theorem dX5_declareTable_32 : decode cX5_declareTable 32 = .ok (.iload_n 3, 1) := by decide +kernel
theorem dX5_declareTable_33 : decode cX5_declareTable 33 = .ok (.iastore, 1) := by decide +kernel
theorem dX5_declareTable_34 : decode cX5_declareTable 34 = .ok (.iconst 0, 1) := by decide +kernel
theorem dX5_declareTable_35 : decode cX5_declareTable 35 = .ok (.istore 4, 2) := by decide +kernel
theorem dX5_declareTable_37 : decode cX5_declareTable 37 = .ok (.iload 4, 2) := by decide +kernel
theorem dX5_declareTable_39 : decode cX5_declareTable 39 = .ok (.bipush 16, 2) := by decide +kernel
theorem dX5_declareTable_41 : decode cX5_declareTable 41 = .ok (.if_icmp .ge 22, 3) := by decide +kernel
theorem dX5_declareTable_44 : decode cX5_declareTable 44 = .ok (.aload_n 0, 1) := by decide +kernel
theorem dX5_declareTable_45 : decode cX5_declareTable 45 = .ok (.getfield 19, 3) := by decide +kernel
theorem dX5_declareTable_48 : decode cX5_declareTable 48 = .ok (.bipush 16, 2) := by decide +kernel
theorem dX5_declareTable_50 : decode cX5_declareTable 50 = .ok (.iload_n 1, 1) := by decide +kernel
theorem dX5_declareTable_51 : decode cX5_declareTable 51 = .ok (.imul, 1) := by decide +kernel
theorem dX5_declareTable_52 : decode cX5_declareTable 52 = .ok (.iload 4, 2) := by decide +kernel
theorem dX5_declareTable_54 : decode cX5_declareTable 54 = .ok (.iadd, 1) := by decide +kernel
theorem dX5_declareTable_55 : decode cX5_declareTable 55 = .ok (.iconst 0, 1) := by decide +kernel
theorem dX5_declareTable_56 : decode cX5_declareTable 56 = .ok (.iastore, 1) := by decide +kernel
theorem dX5_declareTable_57 : decode cX5_declareTable 57 = .ok (.iinc 4 1, 3) := by decide +kernel
theorem dX5_declareTable_60 : decode cX5_declareTable 60 = .ok (.goto (-23), 3) := by decide +kernel
theorem dX5_declareTable_63 : decode cX5_declareTable 63 = .ok (.return_, 1) := by decide +kernel
theorem dX5_hasCell_0 : decode cX5_hasCell 0 = .ok (.iload_n 1, 1) := by decide +kernel
theorem dX5_hasCell_1 : decode cX5_hasCell 1 = .ok (.ifCond .lt 32, 3) := by decide +kernel
theorem dX5_hasCell_4 : decode cX5_hasCell 4 = .ok (.iload_n 1, 1) := by decide +kernel
theorem dX5_hasCell_5 : decode cX5_hasCell 5 = .ok (.iconst 4, 1) := by decide +kernel
theorem dX5_hasCell_6 : decode cX5_hasCell 6 = .ok (.if_icmp .ge 27, 3) := by decide +kernel
theorem dX5_hasCell_9 : decode cX5_hasCell 9 = .ok (.iload_n 2, 1) := by decide +kernel
theorem dX5_hasCell_10 : decode cX5_hasCell 10 = .ok (.ifCond .lt 23, 3) := by decide +kernel
theorem dX5_hasCell_13 : decode cX5_hasCell 13 = .ok (.iload_n 2, 1) := by decide +kernel
theorem dX5_hasCell_14 : decode cX5_hasCell 14 = .ok (.bipush 16, 2) := by decide +kernel
theorem dX5_hasCell_16 : decode cX5_hasCell 16 = .ok (.if_icmp .ge 17, 3) := by decide +kernel
theorem dX5_hasCell_19 : decode cX5_hasCell 19 = .ok (.iload_n 2, 1) := by decide +kernel
theorem dX5_hasCell_20 : decode cX5_hasCell 20 = .ok (.aload_n 0, 1) := by decide +kernel
theorem dX5_hasCell_21 : decode cX5_hasCell 21 = .ok (.getfield 22, 3) := by decide +kernel
theorem dX5_hasCell_24 : decode cX5_hasCell 24 = .ok (.iload_n 1, 1) := by decide +kernel
theorem dX5_hasCell_25 : decode cX5_hasCell 25 = .ok (.iaload, 1) := by decide +kernel
theorem dX5_hasCell_26 : decode cX5_hasCell 26 = .ok (.if_icmp .ge 7, 3) := by decide +kernel
theorem dX5_hasCell_29 : decode cX5_hasCell 29 = .ok (.iconst 1, 1) := by decide +kernel
theorem dX5_hasCell_30 : decode cX5_hasCell 30 = .ok (.goto 4, 3) := by decide +kernel
theorem dX5_hasCell_33 : decode cX5_hasCell 33 = .ok (.iconst 0, 1) := by decide +kernel
theorem dX5_hasCell_34 : decode cX5_hasCell 34 = .ok (.ireturn, 1) := by decide +kernel
theorem dX5_cell_0 : decode cX5_cell 0 = .ok (.aload_n 0, 1) := by decide +kernel
theorem dX5_cell_1 : decode cX5_cell 1 = .ok (.iload_n 1, 1) := by decide +kernel
theorem dX5_cell_2 : decode cX5_cell 2 = .ok (.iload_n 2, 1) := by decide +kernel
theorem dX5_cell_3 : decode cX5_cell 3 = .ok (.invokevirtual 41, 3) := by decide +kernel
theorem dX5_cell_6 : decode cX5_cell 6 = .ok (.ifCond .eq 17, 3) := by decide +kernel
theorem dX5_cell_9 : decode cX5_cell 9 = .ok (.aload_n 0, 1) := by decide +kernel
theorem dX5_cell_10 : decode cX5_cell 10 = .ok (.getfield 19, 3) := by decide +kernel
theorem dX5_cell_13 : decode cX5_cell 13 = .ok (.bipush 16, 2) := by decide +kernel
theorem dX5_cell_15 : decode cX5_cell 15 = .ok (.iload_n 1, 1) := by decide +kernel
theorem dX5_cell_16 : decode cX5_cell 16 = .ok (.imul, 1) := by decide +kernel
theorem dX5_cell_17 : decode cX5_cell 17 = .ok (.iload_n 2, 1) := by decide +kernel
theorem dX5_cell_18 : decode cX5_cell 18 = .ok (.iadd, 1) := by decide +kernel
theorem dX5_cell_19 : decode cX5_cell 19 = .ok (.iaload, 1) := by decide +kernel
theorem dX5_cell_20 : decode cX5_cell 20 = .ok (.goto 4, 3) := by decide +kernel
theorem dX5_cell_23 : decode cX5_cell 23 = .ok (.iconst 0, 1) := by decide +kernel
theorem dX5_cell_24 : decode cX5_cell 24 = .ok (.ireturn, 1) := by decide +kernel
theorem dX5_lay_0 : decode cX5_lay 0 = .ok (.aload_n 0, 1) := by decide +kernel
theorem dX5_lay_1 : decode cX5_lay 1 = .ok (.iload_n 1, 1) := by decide +kernel
theorem dX5_lay_2 : decode cX5_lay 2 = .ok (.iload_n 2, 1) := by decide +kernel
theorem dX5_lay_3 : decode cX5_lay 3 = .ok (.invokevirtual 41, 3) := by decide +kernel
theorem dX5_lay_6 : decode cX5_lay 6 = .ok (.ifCond .eq 15, 3) := by decide +kernel
theorem dX5_lay_9 : decode cX5_lay 9 = .ok (.aload_n 0, 1) := by decide +kernel
theorem dX5_lay_10 : decode cX5_lay 10 = .ok (.getfield 19, 3) := by decide +kernel
theorem dX5_lay_13 : decode cX5_lay 13 = .ok (.bipush 16, 2) := by decide +kernel
theorem dX5_lay_15 : decode cX5_lay 15 = .ok (.iload_n 1, 1) := by decide +kernel
theorem dX5_lay_16 : decode cX5_lay 16 = .ok (.imul, 1) := by decide +kernel
theorem dX5_lay_17 : decode cX5_lay 17 = .ok (.iload_n 2, 1) := by decide +kernel
theorem dX5_lay_18 : decode cX5_lay 18 = .ok (.iadd, 1) := by decide +kernel
theorem dX5_lay_19 : decode cX5_lay 19 = .ok (.iload_n 3, 1) := by decide +kernel
theorem dX5_lay_20 : decode cX5_lay 20 = .ok (.iastore, 1) := by decide +kernel
theorem dX5_lay_21 : decode cX5_lay 21 = .ok (.return_, 1) := by decide +kernel
theorem dX5_placeIn_0 : decode cX5_placeIn 0 = .ok (.aload_n 0, 1) := by decide +kernel
theorem dX5_placeIn_1 : decode cX5_placeIn 1 = .ok (.iload_n 1, 1) := by decide +kernel
theorem dX5_placeIn_2 : decode cX5_placeIn 2 = .ok (.invokevirtual 38, 3) := by decide +kernel
theorem dX5_placeIn_5 : decode cX5_placeIn 5 = .ok (.ifCond .eq 12, 3) := by decide +kernel
theorem dX5_placeIn_8 : decode cX5_placeIn 8 = .ok (.aload_n 0, 1) := by decide +kernel
theorem dX5_placeIn_9 : decode cX5_placeIn 9 = .ok (.getfield 22, 3) := by decide +kernel
theorem dX5_placeIn_12 : decode cX5_placeIn 12 = .ok (.iload_n 1, 1) := by decide +kernel
theorem dX5_placeIn_13 : decode cX5_placeIn 13 = .ok (.iaload, 1) := by decide +kernel
theorem dX5_placeIn_14 : decode cX5_placeIn 14 = .ok (.goto 4, 3) := by decide +kernel
theorem dX5_placeIn_17 : decode cX5_placeIn 17 = .ok (.iconst 0, 1) := by decide +kernel
theorem dX5_placeIn_18 : decode cX5_placeIn 18 = .ok (.istore_n 3, 1) := by decide +kernel
theorem dX5_placeIn_19 : decode cX5_placeIn 19 = .ok (.iload_n 3, 1) := by decide +kernel
theorem dX5_placeIn_20 : decode cX5_placeIn 20 = .ok (.iconst 1, 1) := by decide +kernel
theorem dX5_placeIn_21 : decode cX5_placeIn 21 = .ok (.if_icmp .ge 7, 3) := by decide +kernel
theorem dX5_placeIn_24 : decode cX5_placeIn 24 = .ok (.iconst 0, 1) := by decide +kernel
theorem dX5_placeIn_25 : decode cX5_placeIn 25 = .ok (.goto 13, 3) := by decide +kernel
theorem dX5_placeIn_28 : decode cX5_placeIn 28 = .ok (.iload_n 2, 1) := by decide +kernel
theorem dX5_placeIn_29 : decode cX5_placeIn 29 = .ok (.i2l, 1) := by decide +kernel
theorem dX5_placeIn_30 : decode cX5_placeIn 30 = .ok (.ldc2_w 45, 3) := by decide +kernel
theorem dX5_placeIn_33 : decode cX5_placeIn 33 = .ok (.land, 1) := by decide +kernel
theorem dX5_placeIn_34 : decode cX5_placeIn 34 = .ok (.iload_n 3, 1) := by decide +kernel
theorem dX5_placeIn_35 : decode cX5_placeIn 35 = .ok (.i2l, 1) := by decide +kernel
theorem dX5_placeIn_36 : decode cX5_placeIn 36 = .ok (.lrem, 1) := by decide +kernel
theorem dX5_placeIn_37 : decode cX5_placeIn 37 = .ok (.l2i, 1) := by decide +kernel
theorem dX5_placeIn_38 : decode cX5_placeIn 38 = .ok (.ireturn, 1) := by decide +kernel
theorem dX6_init_0 : decode cX6_init 0 = .ok (.aload_n 0, 1) := by decide +kernel
theorem dX6_init_1 : decode cX6_init 1 = .ok (.invokespecial 1, 3) := by decide +kernel
theorem dX6_init_4 : decode cX6_init 4 = .ok (.aload_n 0, 1) := by decide +kernel
theorem dX6_init_5 : decode cX6_init 5 = .ok (.iload_n 1, 1) := by decide +kernel
theorem dX6_init_6 : decode cX6_init 6 = .ok (.iconst 0, 1) := by decide +kernel
theorem dX6_init_7 : decode cX6_init 7 = .ok (.invokestatic 7, 3) := by decide +kernel
theorem dX6_init_10 : decode cX6_init 10 = .ok (.newarray .int, 2) := by decide +kernel
theorem dX6_init_12 : decode cX6_init 12 = .ok (.putfield 13, 3) := by decide +kernel
theorem dX6_init_15 : decode cX6_init 15 = .ok (.return_, 1) := by decide +kernel
theorem dX6_clear_0 : decode cX6_clear 0 = .ok (.aload_n 0, 1) := by decide +kernel
theorem dX6_clear_1 : decode cX6_clear 1 = .ok (.iconst 0, 1) := by decide +kernel
theorem dX6_clear_2 : decode cX6_clear 2 = .ok (.putfield 19, 3) := by decide +kernel
theorem dX6_clear_5 : decode cX6_clear 5 = .ok (.return_, 1) := by decide +kernel
theorem dX6_add_0 : decode cX6_add 0 = .ok (.aload_n 0, 1) := by decide +kernel
theorem dX6_add_1 : decode cX6_add 1 = .ok (.getfield 19, 3) := by decide +kernel
theorem dX6_add_4 : decode cX6_add 4 = .ok (.ifCond .lt 25, 3) := by decide +kernel
theorem dX6_add_7 : decode cX6_add 7 = .ok (.aload_n 0, 1) := by decide +kernel
theorem dX6_add_8 : decode cX6_add 8 = .ok (.getfield 19, 3) := by decide +kernel
theorem dX6_add_11 : decode cX6_add 11 = .ok (.aload_n 0, 1) := by decide +kernel
theorem dX6_add_12 : decode cX6_add 12 = .ok (.getfield 13, 3) := by decide +kernel
theorem dX6_add_15 : decode cX6_add 15 = .ok (.arraylength, 1) := by decide +kernel
theorem dX6_add_16 : decode cX6_add 16 = .ok (.if_icmp .ge 13, 3) := by decide +kernel
theorem dX6_add_19 : decode cX6_add 19 = .ok (.aload_n 0, 1) := by decide +kernel
theorem dX6_add_20 : decode cX6_add 20 = .ok (.getfield 13, 3) := by decide +kernel
theorem dX6_add_23 : decode cX6_add 23 = .ok (.aload_n 0, 1) := by decide +kernel
theorem dX6_add_24 : decode cX6_add 24 = .ok (.getfield 19, 3) := by decide +kernel
theorem dX6_add_27 : decode cX6_add 27 = .ok (.iload_n 1, 1) := by decide +kernel
theorem dX6_add_28 : decode cX6_add 28 = .ok (.iastore, 1) := by decide +kernel
theorem dX6_add_29 : decode cX6_add 29 = .ok (.aload_n 0, 1) := by decide +kernel
theorem dX6_add_30 : decode cX6_add 30 = .ok (.dup, 1) := by decide +kernel
theorem dX6_add_31 : decode cX6_add 31 = .ok (.getfield 19, 3) := by decide +kernel
theorem dX6_add_34 : decode cX6_add 34 = .ok (.iconst 1, 1) := by decide +kernel
theorem dX6_add_35 : decode cX6_add 35 = .ok (.iadd, 1) := by decide +kernel
theorem dX6_add_36 : decode cX6_add 36 = .ok (.putfield 19, 3) := by decide +kernel
theorem dX6_add_39 : decode cX6_add 39 = .ok (.return_, 1) := by decide +kernel
theorem dX6_read_0 : decode cX6_read 0 = .ok (.iload_n 1, 1) := by decide +kernel
theorem dX6_read_1 : decode cX6_read 1 = .ok (.ifCond .lt 29, 3) := by decide +kernel
theorem dX6_read_4 : decode cX6_read 4 = .ok (.iload_n 1, 1) := by decide +kernel
theorem dX6_read_5 : decode cX6_read 5 = .ok (.aload_n 0, 1) := by decide +kernel
theorem dX6_read_6 : decode cX6_read 6 = .ok (.getfield 19, 3) := by decide +kernel
theorem dX6_read_9 : decode cX6_read 9 = .ok (.if_icmp .ge 21, 3) := by decide +kernel
theorem dX6_read_12 : decode cX6_read 12 = .ok (.iload_n 1, 1) := by decide +kernel
theorem dX6_read_13 : decode cX6_read 13 = .ok (.aload_n 0, 1) := by decide +kernel
theorem dX6_read_14 : decode cX6_read 14 = .ok (.getfield 13, 3) := by decide +kernel
theorem dX6_read_17 : decode cX6_read 17 = .ok (.arraylength, 1) := by decide +kernel
theorem dX6_read_18 : decode cX6_read 18 = .ok (.if_icmp .ge 12, 3) := by decide +kernel
theorem dX6_read_21 : decode cX6_read 21 = .ok (.aload_n 0, 1) := by decide +kernel
theorem dX6_read_22 : decode cX6_read 22 = .ok (.getfield 13, 3) := by decide +kernel
theorem dX6_read_25 : decode cX6_read 25 = .ok (.iload_n 1, 1) := by decide +kernel
theorem dX6_read_26 : decode cX6_read 26 = .ok (.iaload, 1) := by decide +kernel
theorem dX6_read_27 : decode cX6_read 27 = .ok (.goto 4, 3) := by decide +kernel
theorem dX6_read_30 : decode cX6_read 30 = .ok (.iload_n 2, 1) := by decide +kernel
theorem dX6_read_31 : decode cX6_read 31 = .ok (.ireturn, 1) := by decide +kernel
theorem dX6_write_0 : decode cX6_write 0 = .ok (.iload_n 1, 1) := by decide +kernel
theorem dX6_write_1 : decode cX6_write 1 = .ok (.ifCond .lt 27, 3) := by decide +kernel
theorem dX6_write_4 : decode cX6_write 4 = .ok (.iload_n 1, 1) := by decide +kernel
theorem dX6_write_5 : decode cX6_write 5 = .ok (.aload_n 0, 1) := by decide +kernel
theorem dX6_write_6 : decode cX6_write 6 = .ok (.getfield 19, 3) := by decide +kernel
theorem dX6_write_9 : decode cX6_write 9 = .ok (.if_icmp .ge 19, 3) := by decide +kernel
theorem dX6_write_12 : decode cX6_write 12 = .ok (.iload_n 1, 1) := by decide +kernel
theorem dX6_write_13 : decode cX6_write 13 = .ok (.aload_n 0, 1) := by decide +kernel
theorem dX6_write_14 : decode cX6_write 14 = .ok (.getfield 13, 3) := by decide +kernel
theorem dX6_write_17 : decode cX6_write 17 = .ok (.arraylength, 1) := by decide +kernel
theorem dX6_write_18 : decode cX6_write 18 = .ok (.if_icmp .ge 10, 3) := by decide +kernel
theorem dX6_write_21 : decode cX6_write 21 = .ok (.aload_n 0, 1) := by decide +kernel
theorem dX6_write_22 : decode cX6_write 22 = .ok (.getfield 13, 3) := by decide +kernel
theorem dX6_write_25 : decode cX6_write 25 = .ok (.iload_n 1, 1) := by decide +kernel
theorem dX6_write_26 : decode cX6_write 26 = .ok (.iload_n 2, 1) := by decide +kernel
theorem dX6_write_27 : decode cX6_write 27 = .ok (.iastore, 1) := by decide +kernel
theorem dX6_write_28 : decode cX6_write 28 = .ok (.return_, 1) := by decide +kernel
theorem dX6_size_0 : decode cX6_size 0 = .ok (.aload_n 0, 1) := by decide +kernel
theorem dX6_size_1 : decode cX6_size 1 = .ok (.getfield 19, 3) := by decide +kernel
theorem dX6_size_4 : decode cX6_size 4 = .ok (.ireturn, 1) := by decide +kernel
theorem dX7_init_0 : decode cX7_init 0 = .ok (.aload_n 0, 1) := by decide +kernel
theorem dX7_init_1 : decode cX7_init 1 = .ok (.invokespecial 3, 3) := by decide +kernel
theorem dX7_init_4 : decode cX7_init 4 = .ok (.aload_n 0, 1) := by decide +kernel
theorem dX7_init_5 : decode cX7_init 5 = .ok (.new 9, 3) := by decide +kernel
theorem dX7_init_8 : decode cX7_init 8 = .ok (.dup, 1) := by decide +kernel
theorem dX7_init_9 : decode cX7_init 9 = .ok (.sipush 5000, 3) := by decide +kernel
theorem dX7_init_12 : decode cX7_init 12 = .ok (.invokespecial 11, 3) := by decide +kernel
theorem dX7_init_15 : decode cX7_init 15 = .ok (.putfield 14, 3) := by decide +kernel
theorem dX7_init_18 : decode cX7_init 18 = .ok (.return_, 1) := by decide +kernel
theorem dX7_clear_0 : decode cX7_clear 0 = .ok (.aload_n 0, 1) := by decide +kernel
theorem dX7_clear_1 : decode cX7_clear 1 = .ok (.getfield 14, 3) := by decide +kernel
theorem dX7_clear_4 : decode cX7_clear 4 = .ok (.invokevirtual 20, 3) := by decide +kernel
theorem dX7_clear_7 : decode cX7_clear 7 = .ok (.aload_n 0, 1) := by decide +kernel
theorem dX7_clear_8 : decode cX7_clear 8 = .ok (.lconst 0, 1) := by decide +kernel
theorem dX7_clear_9 : decode cX7_clear 9 = .ok (.putfield 23, 3) := by decide +kernel
theorem dX7_clear_12 : decode cX7_clear 12 = .ok (.return_, 1) := by decide +kernel
theorem dX7_add_0 : decode cX7_add 0 = .ok (.aload_n 0, 1) := by decide +kernel
theorem dX7_add_1 : decode cX7_add 1 = .ok (.getfield 14, 3) := by decide +kernel
theorem dX7_add_4 : decode cX7_add 4 = .ok (.iload_n 1, 1) := by decide +kernel
theorem dX7_add_5 : decode cX7_add 5 = .ok (.invokevirtual 27, 3) := by decide +kernel
theorem dX7_add_8 : decode cX7_add 8 = .ok (.aload_n 0, 1) := by decide +kernel
theorem dX7_add_9 : decode cX7_add 9 = .ok (.ldc2_w 30, 3) := by decide +kernel
theorem dX7_add_12 : decode cX7_add 12 = .ok (.aload_n 0, 1) := by decide +kernel
theorem dX7_add_13 : decode cX7_add 13 = .ok (.getfield 23, 3) := by decide +kernel
theorem dX7_add_16 : decode cX7_add 16 = .ok (.lmul, 1) := by decide +kernel
theorem dX7_add_17 : decode cX7_add 17 = .ok (.iload_n 1, 1) := by decide +kernel
theorem dX7_add_18 : decode cX7_add 18 = .ok (.i2l, 1) := by decide +kernel
theorem dX7_add_19 : decode cX7_add 19 = .ok (.ladd, 1) := by decide +kernel
theorem dX7_add_20 : decode cX7_add 20 = .ok (.putfield 23, 3) := by decide +kernel
theorem dX7_add_23 : decode cX7_add 23 = .ok (.return_, 1) := by decide +kernel
theorem dX7_read_0 : decode cX7_read 0 = .ok (.aload_n 0, 1) := by decide +kernel
theorem dX7_read_1 : decode cX7_read 1 = .ok (.getfield 14, 3) := by decide +kernel
theorem dX7_read_4 : decode cX7_read 4 = .ok (.iload_n 1, 1) := by decide +kernel
theorem dX7_read_5 : decode cX7_read 5 = .ok (.iconst (-1), 1) := by decide +kernel
theorem dX7_read_6 : decode cX7_read 6 = .ok (.invokevirtual 32, 3) := by decide +kernel
theorem dX7_read_9 : decode cX7_read 9 = .ok (.ireturn, 1) := by decide +kernel
theorem dX7_sum_0 : decode cX7_sum 0 = .ok (.aload_n 0, 1) := by decide +kernel
theorem dX7_sum_1 : decode cX7_sum 1 = .ok (.getfield 23, 3) := by decide +kernel
theorem dX7_sum_4 : decode cX7_sum 4 = .ok (.lreturn, 1) := by decide +kernel
theorem dX7_size_0 : decode cX7_size 0 = .ok (.aload_n 0, 1) := by decide +kernel
theorem dX7_size_1 : decode cX7_size 1 = .ok (.getfield 14, 3) := by decide +kernel
theorem dX7_size_4 : decode cX7_size 4 = .ok (.invokevirtual 36, 3) := by decide +kernel
theorem dX7_size_7 : decode cX7_size 7 = .ok (.ireturn, 1) := by decide +kernel
theorem dX8_init_0 : decode cX8_init 0 = .ok (.aload_n 0, 1) := by decide +kernel
theorem dX8_init_1 : decode cX8_init 1 = .ok (.invokespecial 3, 3) := by decide +kernel
theorem dX8_init_4 : decode cX8_init 4 = .ok (.aload_n 0, 1) := by decide +kernel
theorem dX8_init_5 : decode cX8_init 5 = .ok (.aload_n 1, 1) := by decide +kernel
theorem dX8_init_6 : decode cX8_init 6 = .ok (.putfield 9, 3) := by decide +kernel
theorem dX8_init_9 : decode cX8_init 9 = .ok (.aload_n 0, 1) := by decide +kernel
theorem dX8_init_10 : decode cX8_init 10 = .ok (.aload_n 2, 1) := by decide +kernel
theorem dX8_init_11 : decode cX8_init 11 = .ok (.putfield 15, 3) := by decide +kernel
theorem dX8_init_14 : decode cX8_init 14 = .ok (.aload_n 0, 1) := by decide +kernel
theorem dX8_init_15 : decode cX8_init 15 = .ok (.aload_n 3, 1) := by decide +kernel
theorem dX8_init_16 : decode cX8_init 16 = .ok (.putfield 19, 3) := by decide +kernel
theorem dX8_init_19 : decode cX8_init 19 = .ok (.return_, 1) := by decide +kernel
theorem dX8_walk_0 : decode cX8_walk 0 = .ok (.aload_n 0, 1) := by decide +kernel
theorem dX8_walk_1 : decode cX8_walk 1 = .ok (.getfield 19, 3) := by decide +kernel
theorem dX8_walk_4 : decode cX8_walk 4 = .ok (.invokevirtual 23, 3) := by decide +kernel
theorem dX8_walk_7 : decode cX8_walk 7 = .ok (.aload_n 0, 1) := by decide +kernel
theorem dX8_walk_8 : decode cX8_walk 8 = .ok (.iconst 0, 1) := by decide +kernel
theorem dX8_walk_9 : decode cX8_walk 9 = .ok (.putfield 28, 3) := by decide +kernel
theorem dX8_walk_12 : decode cX8_walk 12 = .ok (.aload_n 0, 1) := by decide +kernel
theorem dX8_walk_13 : decode cX8_walk 13 = .ok (.iconst 0, 1) := by decide +kernel
theorem dX8_walk_14 : decode cX8_walk 14 = .ok (.putfield 32, 3) := by decide +kernel
theorem dX8_walk_17 : decode cX8_walk 17 = .ok (.aload_n 0, 1) := by decide +kernel
theorem dX8_walk_18 : decode cX8_walk 18 = .ok (.iconst 0, 1) := by decide +kernel
theorem dX8_walk_19 : decode cX8_walk 19 = .ok (.iconst 0, 1) := by decide +kernel
theorem dX8_walk_20 : decode cX8_walk 20 = .ok (.invokevirtual 35, 3) := by decide +kernel
theorem dX8_walk_23 : decode cX8_walk 23 = .ok (.aload_n 0, 1) := by decide +kernel
theorem dX8_walk_24 : decode cX8_walk 24 = .ok (.getfield 32, 3) := by decide +kernel
theorem dX8_walk_27 : decode cX8_walk 27 = .ok (.ifCond .ne 10, 3) := by decide +kernel
theorem dX8_walk_30 : decode cX8_walk 30 = .ok (.aload_n 0, 1) := by decide +kernel
theorem dX8_walk_31 : decode cX8_walk 31 = .ok (.getfield 28, 3) := by decide +kernel
theorem dX8_walk_34 : decode cX8_walk 34 = .ok (.goto 7, 3) := by decide +kernel
theorem dX8_walk_37 : decode cX8_walk 37 = .ok (.aload_n 0, 1) := by decide +kernel
theorem dX8_walk_38 : decode cX8_walk 38 = .ok (.getfield 32, 3) := by decide +kernel
theorem dX8_walk_41 : decode cX8_walk 41 = .ok (.ireturn, 1) := by decide +kernel
theorem dX8_takeTurn_0 : decode cX8_takeTurn 0 = .ok (.aload_n 0, 1) := by decide +kernel
theorem dX8_takeTurn_1 : decode cX8_takeTurn 1 = .ok (.getfield 28, 3) := by decide +kernel
theorem dX8_takeTurn_4 : decode cX8_takeTurn 4 = .ok (.sipush 5000, 3) := by decide +kernel
theorem dX8_takeTurn_7 : decode cX8_takeTurn 7 = .ok (.if_icmp .lt 11, 3) := by decide +kernel
theorem dX8_takeTurn_10 : decode cX8_takeTurn 10 = .ok (.aload_n 0, 1) := by decide +kernel
theorem dX8_takeTurn_11 : decode cX8_takeTurn 11 = .ok (.bipush (-4), 2) := by decide +kernel
theorem dX8_takeTurn_13 : decode cX8_takeTurn 13 = .ok (.putfield 32, 3) := by decide +kernel
theorem dX8_takeTurn_16 : decode cX8_takeTurn 16 = .ok (.iconst 0, 1) := by decide +kernel
theorem dX8_takeTurn_17 : decode cX8_takeTurn 17 = .ok (.ireturn, 1) := by decide +kernel
theorem dX8_takeTurn_18 : decode cX8_takeTurn 18 = .ok (.aload_n 0, 1) := by decide +kernel
theorem dX8_takeTurn_19 : decode cX8_takeTurn 19 = .ok (.dup, 1) := by decide +kernel
theorem dX8_takeTurn_20 : decode cX8_takeTurn 20 = .ok (.getfield 28, 3) := by decide +kernel
theorem dX8_takeTurn_23 : decode cX8_takeTurn 23 = .ok (.iconst 1, 1) := by decide +kernel
theorem dX8_takeTurn_24 : decode cX8_takeTurn 24 = .ok (.iadd, 1) := by decide +kernel
theorem dX8_takeTurn_25 : decode cX8_takeTurn 25 = .ok (.putfield 28, 3) := by decide +kernel
theorem dX8_takeTurn_28 : decode cX8_takeTurn 28 = .ok (.iconst 1, 1) := by decide +kernel
theorem dX8_takeTurn_29 : decode cX8_takeTurn 29 = .ok (.ireturn, 1) := by decide +kernel
theorem dX8_doStatements_0 : decode cX8_doStatements 0 = .ok (.iload_n 1, 1) := by decide +kernel
theorem dX8_doStatements_1 : decode cX8_doStatements 1 = .ok (.istore_n 3, 1) := by decide +kernel
theorem dX8_doStatements_2 : decode cX8_doStatements 2 = .ok (.iconst 0, 1) := by decide +kernel
theorem dX8_doStatements_3 : decode cX8_doStatements 3 = .ok (.istore 4, 2) := by decide +kernel
theorem dX8_doStatements_5 : decode cX8_doStatements 5 = .ok (.iload 4, 2) := by decide +kernel
theorem dX8_doStatements_7 : decode cX8_doStatements 7 = .ok (.sipush 400, 3) := by decide +kernel
theorem dX8_doStatements_10 : decode cX8_doStatements 10 = .ok (.if_icmp .ge 42, 3) := by decide +kernel
theorem dX8_doStatements_13 : decode cX8_doStatements 13 = .ok (.aload_n 0, 1) := by decide +kernel
theorem dX8_doStatements_14 : decode cX8_doStatements 14 = .ok (.getfield 32, 3) := by decide +kernel
theorem dX8_doStatements_17 : decode cX8_doStatements 17 = .ok (.ifCond .ne 35, 3) := by decide +kernel
theorem dX8_doStatements_20 : decode cX8_doStatements 20 = .ok (.aload_n 0, 1) := by decide +kernel
theorem dX8_doStatements_21 : decode cX8_doStatements 21 = .ok (.getfield 9, 3) := by decide +kernel
theorem dX8_doStatements_24 : decode cX8_doStatements 24 = .ok (.iload_n 3, 1) := by decide +kernel
theorem dX8_doStatements_25 : decode cX8_doStatements 25 = .ok (.invokevirtual 39, 3) := by decide +kernel
theorem dX8_doStatements_28 : decode cX8_doStatements 28 = .ok (.ifCond .eq 24, 3) := by decide +kernel
theorem dX8_doStatements_31 : decode cX8_doStatements 31 = .ok (.aload_n 0, 1) := by decide +kernel
theorem dX8_doStatements_32 : decode cX8_doStatements 32 = .ok (.iload_n 3, 1) := by decide +kernel
theorem dX8_doStatements_33 : decode cX8_doStatements 33 = .ok (.iload_n 2, 1) := by decide +kernel
theorem dX8_doStatements_34 : decode cX8_doStatements 34 = .ok (.invokevirtual 45, 3) := by decide +kernel
theorem dX8_doStatements_37 : decode cX8_doStatements 37 = .ok (.aload_n 0, 1) := by decide +kernel
theorem dX8_doStatements_38 : decode cX8_doStatements 38 = .ok (.getfield 9, 3) := by decide +kernel
theorem dX8_doStatements_41 : decode cX8_doStatements 41 = .ok (.iload_n 3, 1) := by decide +kernel
theorem dX8_doStatements_42 : decode cX8_doStatements 42 = .ok (.invokevirtual 48, 3) := by decide +kernel
theorem dX8_doStatements_45 : decode cX8_doStatements 45 = .ok (.istore_n 3, 1) := by decide +kernel
theorem dX8_doStatements_46 : decode cX8_doStatements 46 = .ok (.iinc 4 1, 3) := by decide +kernel
theorem dX8_doStatements_49 : decode cX8_doStatements 49 = .ok (.goto (-44), 3) := by decide +kernel
theorem dX8_doStatements_52 : decode cX8_doStatements 52 = .ok (.return_, 1) := by decide +kernel
theorem dX8_doStatement_0 : decode cX8_doStatement 0 = .ok (.iload_n 2, 1) := by decide +kernel
theorem dX8_doStatement_1 : decode cX8_doStatement 1 = .ok (.bipush 12, 2) := by decide +kernel
theorem dX8_doStatement_3 : decode cX8_doStatement 3 = .ok (.if_icmp .ge 10, 3) := by decide +kernel
theorem dX8_doStatement_6 : decode cX8_doStatement 6 = .ok (.aload_n 0, 1) := by decide +kernel
theorem dX8_doStatement_7 : decode cX8_doStatement 7 = .ok (.invokevirtual 52, 3) := by decide +kernel
theorem dX8_doStatement_10 : decode cX8_doStatement 10 = .ok (.ifCond .ne 4, 3) := by decide +kernel
theorem dX8_doStatement_13 : decode cX8_doStatement 13 = .ok (.return_, 1) := by decide +kernel
theorem dX8_doStatement_14 : decode cX8_doStatement 14 = .ok (.aload_n 0, 1) := by decide +kernel
theorem dX8_doStatement_15 : decode cX8_doStatement 15 = .ok (.getfield 9, 3) := by decide +kernel
theorem dX8_doStatement_18 : decode cX8_doStatement 18 = .ok (.iload_n 1, 1) := by decide +kernel
theorem dX8_doStatement_19 : decode cX8_doStatement 19 = .ok (.invokevirtual 56, 3) := by decide +kernel
theorem dX8_doStatement_22 : decode cX8_doStatement 22 = .ok (.tableswitch 83 1 6 #[38, 47, 56, 83, 65, 74], 38) := by decide +kernel
theorem dX8_doStatement_60 : decode cX8_doStatement 60 = .ok (.aload_n 0, 1) := by decide +kernel
theorem dX8_doStatement_61 : decode cX8_doStatement 61 = .ok (.iload_n 1, 1) := by decide +kernel
theorem dX8_doStatement_62 : decode cX8_doStatement 62 = .ok (.iload_n 2, 1) := by decide +kernel
theorem dX8_doStatement_63 : decode cX8_doStatement 63 = .ok (.invokevirtual 59, 3) := by decide +kernel
theorem dX8_doStatement_66 : decode cX8_doStatement 66 = .ok (.goto 45, 3) := by decide +kernel
theorem dX8_doStatement_69 : decode cX8_doStatement 69 = .ok (.aload_n 0, 1) := by decide +kernel
theorem dX8_doStatement_70 : decode cX8_doStatement 70 = .ok (.iload_n 1, 1) := by decide +kernel
theorem dX8_doStatement_71 : decode cX8_doStatement 71 = .ok (.iload_n 2, 1) := by decide +kernel
theorem dX8_doStatement_72 : decode cX8_doStatement 72 = .ok (.invokevirtual 62, 3) := by decide +kernel
theorem dX8_doStatement_75 : decode cX8_doStatement 75 = .ok (.goto 36, 3) := by decide +kernel
theorem dX8_doStatement_78 : decode cX8_doStatement 78 = .ok (.aload_n 0, 1) := by decide +kernel
theorem dX8_doStatement_79 : decode cX8_doStatement 79 = .ok (.iload_n 1, 1) := by decide +kernel
theorem dX8_doStatement_80 : decode cX8_doStatement 80 = .ok (.iload_n 2, 1) := by decide +kernel
theorem dX8_doStatement_81 : decode cX8_doStatement 81 = .ok (.invokevirtual 65, 3) := by decide +kernel
theorem dX8_doStatement_84 : decode cX8_doStatement 84 = .ok (.goto 27, 3) := by decide +kernel
theorem dX8_doStatement_87 : decode cX8_doStatement 87 = .ok (.aload_n 0, 1) := by decide +kernel
theorem dX8_doStatement_88 : decode cX8_doStatement 88 = .ok (.iload_n 1, 1) := by decide +kernel
theorem dX8_doStatement_89 : decode cX8_doStatement 89 = .ok (.iload_n 2, 1) := by decide +kernel
theorem dX8_doStatement_90 : decode cX8_doStatement 90 = .ok (.invokevirtual 68, 3) := by decide +kernel
theorem dX8_doStatement_93 : decode cX8_doStatement 93 = .ok (.goto 18, 3) := by decide +kernel
theorem dX8_doStatement_96 : decode cX8_doStatement 96 = .ok (.aload_n 0, 1) := by decide +kernel
theorem dX8_doStatement_97 : decode cX8_doStatement 97 = .ok (.iload_n 1, 1) := by decide +kernel
theorem dX8_doStatement_98 : decode cX8_doStatement 98 = .ok (.iload_n 2, 1) := by decide +kernel
theorem dX8_doStatement_99 : decode cX8_doStatement 99 = .ok (.invokevirtual 71, 3) := by decide +kernel
theorem dX8_doStatement_102 : decode cX8_doStatement 102 = .ok (.goto 9, 3) := by decide +kernel
theorem dX8_doStatement_105 : decode cX8_doStatement 105 = .ok (.aload_n 0, 1) := by decide +kernel
theorem dX8_doStatement_106 : decode cX8_doStatement 106 = .ok (.iload_n 1, 1) := by decide +kernel
theorem dX8_doStatement_107 : decode cX8_doStatement 107 = .ok (.iload_n 2, 1) := by decide +kernel
theorem dX8_doStatement_108 : decode cX8_doStatement 108 = .ok (.invokevirtual 74, 3) := by decide +kernel
theorem dX8_doStatement_111 : decode cX8_doStatement 111 = .ok (.return_, 1) := by decide +kernel
theorem dX8_doLet_0 : decode cX8_doLet 0 = .ok (.aload_n 0, 1) := by decide +kernel
theorem dX8_doLet_1 : decode cX8_doLet 1 = .ok (.aload_n 0, 1) := by decide +kernel
theorem dX8_doLet_2 : decode cX8_doLet 2 = .ok (.getfield 9, 3) := by decide +kernel
theorem dX8_doLet_5 : decode cX8_doLet 5 = .ok (.iload_n 1, 1) := by decide +kernel
theorem dX8_doLet_6 : decode cX8_doLet 6 = .ok (.invokevirtual 77, 3) := by decide +kernel
theorem dX8_doLet_9 : decode cX8_doLet 9 = .ok (.iload_n 2, 1) := by decide +kernel
theorem dX8_doLet_10 : decode cX8_doLet 10 = .ok (.iconst 1, 1) := by decide +kernel
theorem dX8_doLet_11 : decode cX8_doLet 11 = .ok (.iadd, 1) := by decide +kernel
theorem dX8_doLet_12 : decode cX8_doLet 12 = .ok (.invokevirtual 80, 3) := by decide +kernel
theorem dX8_doLet_15 : decode cX8_doLet 15 = .ok (.istore_n 3, 1) := by decide +kernel
theorem dX8_doLet_16 : decode cX8_doLet 16 = .ok (.aload_n 0, 1) := by decide +kernel
theorem dX8_doLet_17 : decode cX8_doLet 17 = .ok (.getfield 32, 3) := by decide +kernel
theorem dX8_doLet_20 : decode cX8_doLet 20 = .ok (.ifCond .ne 21, 3) := by decide +kernel
theorem dX8_doLet_23 : decode cX8_doLet 23 = .ok (.aload_n 0, 1) := by decide +kernel
theorem dX8_doLet_24 : decode cX8_doLet 24 = .ok (.getfield 15, 3) := by decide +kernel
theorem dX8_doLet_27 : decode cX8_doLet 27 = .ok (.aload_n 0, 1) := by decide +kernel
theorem dX8_doLet_28 : decode cX8_doLet 28 = .ok (.getfield 9, 3) := by decide +kernel
theorem dX8_doLet_31 : decode cX8_doLet 31 = .ok (.iload_n 1, 1) := by decide +kernel
theorem dX8_doLet_32 : decode cX8_doLet 32 = .ok (.iconst 1, 1) := by decide +kernel
theorem dX8_doLet_33 : decode cX8_doLet 33 = .ok (.iadd, 1) := by decide +kernel
theorem dX8_doLet_34 : decode cX8_doLet 34 = .ok (.invokevirtual 56, 3) := by decide +kernel
theorem dX8_doLet_37 : decode cX8_doLet 37 = .ok (.iload_n 3, 1) := by decide +kernel
theorem dX8_doLet_38 : decode cX8_doLet 38 = .ok (.invokevirtual 84, 3) := by decide +kernel
theorem dX8_doLet_41 : decode cX8_doLet 41 = .ok (.return_, 1) := by decide +kernel
theorem dX8_doLay_0 : decode cX8_doLay 0 = .ok (.aload_n 0, 1) := by decide +kernel
theorem dX8_doLay_1 : decode cX8_doLay 1 = .ok (.getfield 9, 3) := by decide +kernel
theorem dX8_doLay_4 : decode cX8_doLay 4 = .ok (.iload_n 1, 1) := by decide +kernel
theorem dX8_doLay_5 : decode cX8_doLay 5 = .ok (.iconst 1, 1) := by decide +kernel
theorem dX8_doLay_6 : decode cX8_doLay 6 = .ok (.iadd, 1) := by decide +kernel
theorem dX8_doLay_7 : decode cX8_doLay 7 = .ok (.invokevirtual 56, 3) := by decide +kernel
theorem dX8_doLay_10 : decode cX8_doLay 10 = .ok (.istore_n 3, 1) := by decide +kernel
theorem dX8_doLay_11 : decode cX8_doLay 11 = .ok (.aload_n 0, 1) := by decide +kernel
theorem dX8_doLay_12 : decode cX8_doLay 12 = .ok (.getfield 9, 3) := by decide +kernel
theorem dX8_doLay_15 : decode cX8_doLay 15 = .ok (.iload_n 1, 1) := by decide +kernel
theorem dX8_doLay_16 : decode cX8_doLay 16 = .ok (.invokevirtual 77, 3) := by decide +kernel
theorem dX8_doLay_19 : decode cX8_doLay 19 = .ok (.istore 4, 2) := by decide +kernel
theorem dX8_doLay_21 : decode cX8_doLay 21 = .ok (.aload_n 0, 1) := by decide +kernel
theorem dX8_doLay_22 : decode cX8_doLay 22 = .ok (.getfield 15, 3) := by decide +kernel
theorem dX8_doLay_25 : decode cX8_doLay 25 = .ok (.iload_n 3, 1) := by decide +kernel
theorem dX8_doLay_26 : decode cX8_doLay 26 = .ok (.aload_n 0, 1) := by decide +kernel
theorem dX8_doLay_27 : decode cX8_doLay 27 = .ok (.iload 4, 2) := by decide +kernel
theorem dX8_doLay_29 : decode cX8_doLay 29 = .ok (.iload_n 2, 1) := by decide +kernel
theorem dX8_doLay_30 : decode cX8_doLay 30 = .ok (.iconst 1, 1) := by decide +kernel
theorem dX8_doLay_31 : decode cX8_doLay 31 = .ok (.iadd, 1) := by decide +kernel
theorem dX8_doLay_32 : decode cX8_doLay 32 = .ok (.invokevirtual 80, 3) := by decide +kernel
theorem dX8_doLay_35 : decode cX8_doLay 35 = .ok (.invokevirtual 89, 3) := by decide +kernel
theorem dX8_doLay_38 : decode cX8_doLay 38 = .ok (.istore 5, 2) := by decide +kernel
theorem dX8_doLay_40 : decode cX8_doLay 40 = .ok (.aload_n 0, 1) := by decide +kernel
theorem dX8_doLay_41 : decode cX8_doLay 41 = .ok (.aload_n 0, 1) := by decide +kernel
theorem dX8_doLay_42 : decode cX8_doLay 42 = .ok (.getfield 9, 3) := by decide +kernel
theorem dX8_doLay_45 : decode cX8_doLay 45 = .ok (.iload 4, 2) := by decide +kernel
theorem dX8_doLay_47 : decode cX8_doLay 47 = .ok (.invokevirtual 48, 3) := by decide +kernel
theorem dX8_doLay_50 : decode cX8_doLay 50 = .ok (.iload_n 2, 1) := by decide +kernel
theorem dX8_doLay_51 : decode cX8_doLay 51 = .ok (.iconst 1, 1) := by decide +kernel
theorem dX8_doLay_52 : decode cX8_doLay 52 = .ok (.iadd, 1) := by decide +kernel
theorem dX8_doLay_53 : decode cX8_doLay 53 = .ok (.invokevirtual 80, 3) := by decide +kernel
theorem dX8_doLay_56 : decode cX8_doLay 56 = .ok (.istore 6, 2) := by decide +kernel
theorem dX8_doLay_58 : decode cX8_doLay 58 = .ok (.aload_n 0, 1) := by decide +kernel
theorem dX8_doLay_59 : decode cX8_doLay 59 = .ok (.getfield 32, 3) := by decide +kernel
theorem dX8_doLay_62 : decode cX8_doLay 62 = .ok (.ifCond .ne 15, 3) := by decide +kernel
theorem dX8_doLay_65 : decode cX8_doLay 65 = .ok (.aload_n 0, 1) := by decide +kernel
theorem dX8_doLay_66 : decode cX8_doLay 66 = .ok (.getfield 15, 3) := by decide +kernel
theorem dX8_doLay_69 : decode cX8_doLay 69 = .ok (.iload_n 3, 1) := by decide +kernel
theorem dX8_doLay_70 : decode cX8_doLay 70 = .ok (.iload 5, 2) := by decide +kernel
theorem dX8_doLay_72 : decode cX8_doLay 72 = .ok (.iload 6, 2) := by decide +kernel
theorem dX8_doLay_74 : decode cX8_doLay 74 = .ok (.invokevirtual 92, 3) := by decide +kernel
theorem dX8_doLay_77 : decode cX8_doLay 77 = .ok (.return_, 1) := by decide +kernel
theorem dX8_doIf_0 : decode cX8_doIf 0 = .ok (.aload_n 0, 1) := by decide +kernel
theorem dX8_doIf_1 : decode cX8_doIf 1 = .ok (.getfield 9, 3) := by decide +kernel
theorem dX8_doIf_4 : decode cX8_doIf 4 = .ok (.iload_n 1, 1) := by decide +kernel
theorem dX8_doIf_5 : decode cX8_doIf 5 = .ok (.invokevirtual 77, 3) := by decide +kernel
theorem dX8_doIf_8 : decode cX8_doIf 8 = .ok (.istore_n 3, 1) := by decide +kernel
theorem dX8_doIf_9 : decode cX8_doIf 9 = .ok (.aload_n 0, 1) := by decide +kernel
theorem dX8_doIf_10 : decode cX8_doIf 10 = .ok (.iload_n 3, 1) := by decide +kernel
theorem dX8_doIf_11 : decode cX8_doIf 11 = .ok (.iload_n 2, 1) := by decide +kernel
theorem dX8_doIf_12 : decode cX8_doIf 12 = .ok (.iconst 1, 1) := by decide +kernel
theorem dX8_doIf_13 : decode cX8_doIf 13 = .ok (.iadd, 1) := by decide +kernel
theorem dX8_doIf_14 : decode cX8_doIf 14 = .ok (.invokevirtual 80, 3) := by decide +kernel
theorem dX8_doIf_17 : decode cX8_doIf 17 = .ok (.istore 4, 2) := by decide +kernel
theorem dX8_doIf_19 : decode cX8_doIf 19 = .ok (.aload_n 0, 1) := by decide +kernel
theorem dX8_doIf_20 : decode cX8_doIf 20 = .ok (.getfield 9, 3) := by decide +kernel
theorem dX8_doIf_23 : decode cX8_doIf 23 = .ok (.iload_n 3, 1) := by decide +kernel
theorem dX8_doIf_24 : decode cX8_doIf 24 = .ok (.invokevirtual 48, 3) := by decide +kernel
theorem dX8_doIf_27 : decode cX8_doIf 27 = .ok (.istore 5, 2) := by decide +kernel
theorem dX8_doIf_29 : decode cX8_doIf 29 = .ok (.iload 4, 2) := by decide +kernel
theorem dX8_doIf_31 : decode cX8_doIf 31 = .ok (.ifCond .eq 13, 3) := by decide +kernel
theorem dX8_doIf_34 : decode cX8_doIf 34 = .ok (.aload_n 0, 1) := by decide +kernel
theorem dX8_doIf_35 : decode cX8_doIf 35 = .ok (.iload 5, 2) := by decide +kernel
theorem dX8_doIf_37 : decode cX8_doIf 37 = .ok (.iload_n 2, 1) := by decide +kernel
theorem dX8_doIf_38 : decode cX8_doIf 38 = .ok (.iconst 1, 1) := by decide +kernel
theorem dX8_doIf_39 : decode cX8_doIf 39 = .ok (.iadd, 1) := by decide +kernel
theorem dX8_doIf_40 : decode cX8_doIf 40 = .ok (.invokevirtual 35, 3) := by decide +kernel
theorem dX8_doIf_43 : decode cX8_doIf 43 = .ok (.return_, 1) := by decide +kernel
theorem dX8_doIf_44 : decode cX8_doIf 44 = .ok (.aload_n 0, 1) := by decide +kernel
theorem dX8_doIf_45 : decode cX8_doIf 45 = .ok (.getfield 9, 3) := by decide +kernel
theorem dX8_doIf_48 : decode cX8_doIf 48 = .ok (.iload 5, 2) := by decide +kernel
theorem dX8_doIf_50 : decode cX8_doIf 50 = .ok (.invokevirtual 96, 3) := by decide +kernel
theorem dX8_doIf_53 : decode cX8_doIf 53 = .ok (.istore 6, 2) := by decide +kernel
theorem dX8_doIf_55 : decode cX8_doIf 55 = .ok (.aload_n 0, 1) := by decide +kernel
theorem dX8_doIf_56 : decode cX8_doIf 56 = .ok (.getfield 9, 3) := by decide +kernel
theorem dX8_doIf_59 : decode cX8_doIf 59 = .ok (.iload 6, 2) := by decide +kernel
theorem dX8_doIf_61 : decode cX8_doIf 61 = .ok (.invokevirtual 56, 3) := by decide +kernel
theorem dX8_doIf_64 : decode cX8_doIf 64 = .ok (.iconst 4, 1) := by decide +kernel
theorem dX8_doIf_65 : decode cX8_doIf 65 = .ok (.if_icmp .ne 14, 3) := by decide +kernel
theorem dX8_doIf_68 : decode cX8_doIf 68 = .ok (.aload_n 0, 1) := by decide +kernel
theorem dX8_doIf_69 : decode cX8_doIf 69 = .ok (.iload 6, 2) := by decide +kernel
theorem dX8_doIf_71 : decode cX8_doIf 71 = .ok (.iconst 1, 1) := by decide +kernel
theorem dX8_doIf_72 : decode cX8_doIf 72 = .ok (.iadd, 1) := by decide +kernel
theorem dX8_doIf_73 : decode cX8_doIf 73 = .ok (.iload_n 2, 1) := by decide +kernel
theorem dX8_doIf_74 : decode cX8_doIf 74 = .ok (.iconst 1, 1) := by decide +kernel
theorem dX8_doIf_75 : decode cX8_doIf 75 = .ok (.iadd, 1) := by decide +kernel
theorem dX8_doIf_76 : decode cX8_doIf 76 = .ok (.invokevirtual 35, 3) := by decide +kernel
theorem dX8_doIf_79 : decode cX8_doIf 79 = .ok (.return_, 1) := by decide +kernel
theorem dX8_doWhile_0 : decode cX8_doWhile 0 = .ok (.aload_n 0, 1) := by decide +kernel
theorem dX8_doWhile_1 : decode cX8_doWhile 1 = .ok (.getfield 9, 3) := by decide +kernel
theorem dX8_doWhile_4 : decode cX8_doWhile 4 = .ok (.iload_n 1, 1) := by decide +kernel
theorem dX8_doWhile_5 : decode cX8_doWhile 5 = .ok (.invokevirtual 77, 3) := by decide +kernel
theorem dX8_doWhile_8 : decode cX8_doWhile 8 = .ok (.istore_n 3, 1) := by decide +kernel
theorem dX8_doWhile_9 : decode cX8_doWhile 9 = .ok (.aload_n 0, 1) := by decide +kernel
theorem dX8_doWhile_10 : decode cX8_doWhile 10 = .ok (.getfield 9, 3) := by decide +kernel
theorem dX8_doWhile_13 : decode cX8_doWhile 13 = .ok (.iload_n 3, 1) := by decide +kernel
theorem dX8_doWhile_14 : decode cX8_doWhile 14 = .ok (.invokevirtual 48, 3) := by decide +kernel
theorem dX8_doWhile_17 : decode cX8_doWhile 17 = .ok (.istore 4, 2) := by decide +kernel
theorem dX8_doWhile_19 : decode cX8_doWhile 19 = .ok (.iconst 0, 1) := by decide +kernel
theorem dX8_doWhile_20 : decode cX8_doWhile 20 = .ok (.istore 5, 2) := by decide +kernel
theorem dX8_doWhile_22 : decode cX8_doWhile 22 = .ok (.iload 5, 2) := by decide +kernel
theorem dX8_doWhile_24 : decode cX8_doWhile 24 = .ok (.sipush 5000, 3) := by decide +kernel
theorem dX8_doWhile_27 : decode cX8_doWhile 27 = .ok (.if_icmp .gt 56, 3) := by decide +kernel
theorem dX8_doWhile_30 : decode cX8_doWhile 30 = .ok (.aload_n 0, 1) := by decide +kernel
theorem dX8_doWhile_31 : decode cX8_doWhile 31 = .ok (.iload_n 3, 1) := by decide +kernel
theorem dX8_doWhile_32 : decode cX8_doWhile 32 = .ok (.iload_n 2, 1) := by decide +kernel
theorem dX8_doWhile_33 : decode cX8_doWhile 33 = .ok (.iconst 1, 1) := by decide +kernel
theorem dX8_doWhile_34 : decode cX8_doWhile 34 = .ok (.iadd, 1) := by decide +kernel
theorem dX8_doWhile_35 : decode cX8_doWhile 35 = .ok (.invokevirtual 80, 3) := by decide +kernel
theorem dX8_doWhile_38 : decode cX8_doWhile 38 = .ok (.istore 6, 2) := by decide +kernel
theorem dX8_doWhile_40 : decode cX8_doWhile 40 = .ok (.iload 6, 2) := by decide +kernel
theorem dX8_doWhile_42 : decode cX8_doWhile 42 = .ok (.ifCond .eq 10, 3) := by decide +kernel
theorem dX8_doWhile_45 : decode cX8_doWhile 45 = .ok (.aload_n 0, 1) := by decide +kernel
theorem dX8_doWhile_46 : decode cX8_doWhile 46 = .ok (.getfield 32, 3) := by decide +kernel
theorem dX8_doWhile_49 : decode cX8_doWhile 49 = .ok (.ifCond .eq 4, 3) := by decide +kernel
theorem dX8_doWhile_52 : decode cX8_doWhile 52 = .ok (.return_, 1) := by decide +kernel
theorem dX8_doWhile_53 : decode cX8_doWhile 53 = .ok (.aload_n 0, 1) := by decide +kernel
theorem dX8_doWhile_54 : decode cX8_doWhile 54 = .ok (.iload 4, 2) := by decide +kernel
theorem dX8_doWhile_56 : decode cX8_doWhile 56 = .ok (.iload_n 2, 1) := by decide +kernel
theorem dX8_doWhile_57 : decode cX8_doWhile 57 = .ok (.iconst 1, 1) := by decide +kernel
theorem dX8_doWhile_58 : decode cX8_doWhile 58 = .ok (.iadd, 1) := by decide +kernel
theorem dX8_doWhile_59 : decode cX8_doWhile 59 = .ok (.invokevirtual 35, 3) := by decide +kernel
theorem dX8_doWhile_62 : decode cX8_doWhile 62 = .ok (.aload_n 0, 1) := by decide +kernel
theorem dX8_doWhile_63 : decode cX8_doWhile 63 = .ok (.getfield 32, 3) := by decide +kernel
theorem dX8_doWhile_66 : decode cX8_doWhile 66 = .ok (.ifCond .ne 10, 3) := by decide +kernel
theorem dX8_doWhile_69 : decode cX8_doWhile 69 = .ok (.aload_n 0, 1) := by decide +kernel
theorem dX8_doWhile_70 : decode cX8_doWhile 70 = .ok (.invokevirtual 52, 3) := by decide +kernel
theorem dX8_doWhile_73 : decode cX8_doWhile 73 = .ok (.ifCond .ne 4, 3) := by decide +kernel
theorem dX8_doWhile_76 : decode cX8_doWhile 76 = .ok (.return_, 1) := by decide +kernel
theorem dX8_doWhile_77 : decode cX8_doWhile 77 = .ok (.iinc 5 1, 3) := by decide +kernel
theorem dX8_doWhile_80 : decode cX8_doWhile 80 = .ok (.goto (-58), 3) := by decide +kernel
theorem dX8_doWhile_83 : decode cX8_doWhile 83 = .ok (.return_, 1) := by decide +kernel
theorem dX8_doTimes_0 : decode cX8_doTimes 0 = .ok (.aload_n 0, 1) := by decide +kernel
theorem dX8_doTimes_1 : decode cX8_doTimes 1 = .ok (.getfield 9, 3) := by decide +kernel
theorem dX8_doTimes_4 : decode cX8_doTimes 4 = .ok (.iload_n 1, 1) := by decide +kernel
theorem dX8_doTimes_5 : decode cX8_doTimes 5 = .ok (.iconst 1, 1) := by decide +kernel
theorem dX8_doTimes_6 : decode cX8_doTimes 6 = .ok (.iadd, 1) := by decide +kernel
theorem dX8_doTimes_7 : decode cX8_doTimes 7 = .ok (.invokevirtual 56, 3) := by decide +kernel
theorem dX8_doTimes_10 : decode cX8_doTimes 10 = .ok (.istore_n 3, 1) := by decide +kernel
theorem dX8_doTimes_11 : decode cX8_doTimes 11 = .ok (.iconst 0, 1) := by decide +kernel
theorem dX8_doTimes_12 : decode cX8_doTimes 12 = .ok (.istore 4, 2) := by decide +kernel
theorem dX8_doTimes_14 : decode cX8_doTimes 14 = .ok (.iload 4, 2) := by decide +kernel
theorem dX8_doTimes_16 : decode cX8_doTimes 16 = .ok (.bipush 20, 2) := by decide +kernel
theorem dX8_doTimes_18 : decode cX8_doTimes 18 = .ok (.if_icmp .ge 45, 3) := by decide +kernel
theorem dX8_doTimes_21 : decode cX8_doTimes 21 = .ok (.iload 4, 2) := by decide +kernel
theorem dX8_doTimes_23 : decode cX8_doTimes 23 = .ok (.iload_n 3, 1) := by decide +kernel
theorem dX8_doTimes_24 : decode cX8_doTimes 24 = .ok (.if_icmp .ge 39, 3) := by decide +kernel
theorem dX8_doTimes_27 : decode cX8_doTimes 27 = .ok (.aload_n 0, 1) := by decide +kernel
theorem dX8_doTimes_28 : decode cX8_doTimes 28 = .ok (.aload_n 0, 1) := by decide +kernel
theorem dX8_doTimes_29 : decode cX8_doTimes 29 = .ok (.getfield 9, 3) := by decide +kernel
theorem dX8_doTimes_32 : decode cX8_doTimes 32 = .ok (.iload_n 1, 1) := by decide +kernel
theorem dX8_doTimes_33 : decode cX8_doTimes 33 = .ok (.invokevirtual 77, 3) := by decide +kernel
theorem dX8_doTimes_36 : decode cX8_doTimes 36 = .ok (.iload_n 2, 1) := by decide +kernel
theorem dX8_doTimes_37 : decode cX8_doTimes 37 = .ok (.iconst 1, 1) := by decide +kernel
theorem dX8_doTimes_38 : decode cX8_doTimes 38 = .ok (.iadd, 1) := by decide +kernel
theorem dX8_doTimes_39 : decode cX8_doTimes 39 = .ok (.invokevirtual 35, 3) := by decide +kernel
theorem dX8_doTimes_42 : decode cX8_doTimes 42 = .ok (.aload_n 0, 1) := by decide +kernel
theorem dX8_doTimes_43 : decode cX8_doTimes 43 = .ok (.getfield 32, 3) := by decide +kernel
theorem dX8_doTimes_46 : decode cX8_doTimes 46 = .ok (.ifCond .ne 10, 3) := by decide +kernel
theorem dX8_doTimes_49 : decode cX8_doTimes 49 = .ok (.aload_n 0, 1) := by decide +kernel
theorem dX8_doTimes_50 : decode cX8_doTimes 50 = .ok (.invokevirtual 52, 3) := by decide +kernel
theorem dX8_doTimes_53 : decode cX8_doTimes 53 = .ok (.ifCond .ne 4, 3) := by decide +kernel
theorem dX8_doTimes_56 : decode cX8_doTimes 56 = .ok (.return_, 1) := by decide +kernel
theorem dX8_doTimes_57 : decode cX8_doTimes 57 = .ok (.iinc 4 1, 3) := by decide +kernel
theorem dX8_doTimes_60 : decode cX8_doTimes 60 = .ok (.goto (-46), 3) := by decide +kernel
theorem dX8_doTimes_63 : decode cX8_doTimes 63 = .ok (.return_, 1) := by decide +kernel
theorem dX8_doTell_0 : decode cX8_doTell 0 = .ok (.aload_n 0, 1) := by decide +kernel
theorem dX8_doTell_1 : decode cX8_doTell 1 = .ok (.aload_n 0, 1) := by decide +kernel
theorem dX8_doTell_2 : decode cX8_doTell 2 = .ok (.getfield 9, 3) := by decide +kernel
theorem dX8_doTell_5 : decode cX8_doTell 5 = .ok (.iload_n 1, 1) := by decide +kernel
theorem dX8_doTell_6 : decode cX8_doTell 6 = .ok (.invokevirtual 77, 3) := by decide +kernel
theorem dX8_doTell_9 : decode cX8_doTell 9 = .ok (.iload_n 2, 1) := by decide +kernel
theorem dX8_doTell_10 : decode cX8_doTell 10 = .ok (.iconst 1, 1) := by decide +kernel
theorem dX8_doTell_11 : decode cX8_doTell 11 = .ok (.iadd, 1) := by decide +kernel
theorem dX8_doTell_12 : decode cX8_doTell 12 = .ok (.invokevirtual 80, 3) := by decide +kernel
theorem dX8_doTell_15 : decode cX8_doTell 15 = .ok (.istore_n 3, 1) := by decide +kernel
theorem dX8_doTell_16 : decode cX8_doTell 16 = .ok (.aload_n 0, 1) := by decide +kernel
theorem dX8_doTell_17 : decode cX8_doTell 17 = .ok (.getfield 32, 3) := by decide +kernel
theorem dX8_doTell_20 : decode cX8_doTell 20 = .ok (.ifCond .ne 11, 3) := by decide +kernel
theorem dX8_doTell_23 : decode cX8_doTell 23 = .ok (.aload_n 0, 1) := by decide +kernel
theorem dX8_doTell_24 : decode cX8_doTell 24 = .ok (.getfield 19, 3) := by decide +kernel
theorem dX8_doTell_27 : decode cX8_doTell 27 = .ok (.iload_n 3, 1) := by decide +kernel
theorem dX8_doTell_28 : decode cX8_doTell 28 = .ok (.invokevirtual 99, 3) := by decide +kernel
theorem dX8_doTell_31 : decode cX8_doTell 31 = .ok (.return_, 1) := by decide +kernel
theorem dX8_valueOf_0 : decode cX8_valueOf 0 = .ok (.iload_n 2, 1) := by decide +kernel
theorem dX8_valueOf_1 : decode cX8_valueOf 1 = .ok (.bipush 12, 2) := by decide +kernel
theorem dX8_valueOf_3 : decode cX8_valueOf 3 = .ok (.if_icmp .ge 10, 3) := by decide +kernel
theorem dX8_valueOf_6 : decode cX8_valueOf 6 = .ok (.aload_n 0, 1) := by decide +kernel
theorem dX8_valueOf_7 : decode cX8_valueOf 7 = .ok (.getfield 32, 3) := by decide +kernel
theorem dX8_valueOf_10 : decode cX8_valueOf 10 = .ok (.ifCond .eq 5, 3) := by decide +kernel
theorem dX8_valueOf_13 : decode cX8_valueOf 13 = .ok (.iconst 0, 1) := by decide +kernel
theorem dX8_valueOf_14 : decode cX8_valueOf 14 = .ok (.ireturn, 1) := by decide +kernel
theorem dX8_valueOf_15 : decode cX8_valueOf 15 = .ok (.aload_n 0, 1) := by decide +kernel
theorem dX8_valueOf_16 : decode cX8_valueOf 16 = .ok (.getfield 9, 3) := by decide +kernel
theorem dX8_valueOf_19 : decode cX8_valueOf 19 = .ok (.iload_n 1, 1) := by decide +kernel
theorem dX8_valueOf_20 : decode cX8_valueOf 20 = .ok (.invokevirtual 56, 3) := by decide +kernel
theorem dX8_valueOf_23 : decode cX8_valueOf 23 = .ok (.istore_n 3, 1) := by decide +kernel
theorem dX8_valueOf_24 : decode cX8_valueOf 24 = .ok (.aload_n 0, 1) := by decide +kernel
theorem dX8_valueOf_25 : decode cX8_valueOf 25 = .ok (.getfield 9, 3) := by decide +kernel
theorem dX8_valueOf_28 : decode cX8_valueOf 28 = .ok (.iload_n 1, 1) := by decide +kernel
theorem dX8_valueOf_29 : decode cX8_valueOf 29 = .ok (.iconst 1, 1) := by decide +kernel
theorem dX8_valueOf_30 : decode cX8_valueOf 30 = .ok (.iadd, 1) := by decide +kernel
theorem dX8_valueOf_31 : decode cX8_valueOf 31 = .ok (.invokevirtual 56, 3) := by decide +kernel
theorem dX8_valueOf_34 : decode cX8_valueOf 34 = .ok (.istore 4, 2) := by decide +kernel
theorem dX8_valueOf_36 : decode cX8_valueOf 36 = .ok (.iload_n 3, 1) := by decide +kernel
theorem dX8_valueOf_37 : decode cX8_valueOf 37 = .ok (.bipush 20, 2) := by decide +kernel
theorem dX8_valueOf_39 : decode cX8_valueOf 39 = .ok (.if_icmp .ne 6, 3) := by decide +kernel
theorem dX8_valueOf_42 : decode cX8_valueOf 42 = .ok (.iload 4, 2) := by decide +kernel
theorem dX8_valueOf_44 : decode cX8_valueOf 44 = .ok (.ireturn, 1) := by decide +kernel
theorem dX8_valueOf_45 : decode cX8_valueOf 45 = .ok (.iload_n 3, 1) := by decide +kernel
theorem dX8_valueOf_46 : decode cX8_valueOf 46 = .ok (.bipush 21, 2) := by decide +kernel
theorem dX8_valueOf_48 : decode cX8_valueOf 48 = .ok (.if_icmp .ne 13, 3) := by decide +kernel
theorem dX8_valueOf_51 : decode cX8_valueOf 51 = .ok (.aload_n 0, 1) := by decide +kernel
theorem dX8_valueOf_52 : decode cX8_valueOf 52 = .ok (.getfield 15, 3) := by decide +kernel
theorem dX8_valueOf_55 : decode cX8_valueOf 55 = .ok (.iload 4, 2) := by decide +kernel
theorem dX8_valueOf_57 : decode cX8_valueOf 57 = .ok (.invokevirtual 103, 3) := by decide +kernel
theorem dX8_valueOf_60 : decode cX8_valueOf 60 = .ok (.ireturn, 1) := by decide +kernel
theorem dX8_valueOf_61 : decode cX8_valueOf 61 = .ok (.aload_n 0, 1) := by decide +kernel
theorem dX8_valueOf_62 : decode cX8_valueOf 62 = .ok (.getfield 9, 3) := by decide +kernel
theorem dX8_valueOf_65 : decode cX8_valueOf 65 = .ok (.iload_n 1, 1) := by decide +kernel
theorem dX8_valueOf_66 : decode cX8_valueOf 66 = .ok (.invokevirtual 77, 3) := by decide +kernel
theorem dX8_valueOf_69 : decode cX8_valueOf 69 = .ok (.istore 5, 2) := by decide +kernel
theorem dX8_valueOf_71 : decode cX8_valueOf 71 = .ok (.aload_n 0, 1) := by decide +kernel
theorem dX8_valueOf_72 : decode cX8_valueOf 72 = .ok (.iload 5, 2) := by decide +kernel
theorem dX8_valueOf_74 : decode cX8_valueOf 74 = .ok (.iload_n 2, 1) := by decide +kernel
theorem dX8_valueOf_75 : decode cX8_valueOf 75 = .ok (.iconst 1, 1) := by decide +kernel
theorem dX8_valueOf_76 : decode cX8_valueOf 76 = .ok (.iadd, 1) := by decide +kernel
theorem dX8_valueOf_77 : decode cX8_valueOf 77 = .ok (.invokevirtual 80, 3) := by decide +kernel
theorem dX8_valueOf_80 : decode cX8_valueOf 80 = .ok (.istore 6, 2) := by decide +kernel
theorem dX8_valueOf_82 : decode cX8_valueOf 82 = .ok (.iload_n 3, 1) := by decide +kernel
theorem dX8_valueOf_83 : decode cX8_valueOf 83 = .ok (.bipush 35, 2) := by decide +kernel
theorem dX8_valueOf_85 : decode cX8_valueOf 85 = .ok (.if_icmp .ne 24, 3) := by decide +kernel
theorem dX8_valueOf_88 : decode cX8_valueOf 88 = .ok (.aload_n 0, 1) := by decide +kernel
theorem dX8_valueOf_89 : decode cX8_valueOf 89 = .ok (.getfield 15, 3) := by decide +kernel
theorem dX8_valueOf_92 : decode cX8_valueOf 92 = .ok (.iload 4, 2) := by decide +kernel
theorem dX8_valueOf_94 : decode cX8_valueOf 94 = .ok (.aload_n 0, 1) := by decide +kernel
theorem dX8_valueOf_95 : decode cX8_valueOf 95 = .ok (.getfield 15, 3) := by decide +kernel
theorem dX8_valueOf_98 : decode cX8_valueOf 98 = .ok (.iload 4, 2) := by decide +kernel
theorem dX8_valueOf_100 : decode cX8_valueOf 100 = .ok (.iload 6, 2) := by decide +kernel
theorem dX8_valueOf_102 : decode cX8_valueOf 102 = .ok (.invokevirtual 89, 3) := by decide +kernel
theorem dX8_valueOf_105 : decode cX8_valueOf 105 = .ok (.invokevirtual 106, 3) := by decide +kernel
theorem dX8_valueOf_108 : decode cX8_valueOf 108 = .ok (.ireturn, 1) := by decide +kernel
theorem dX8_valueOf_109 : decode cX8_valueOf 109 = .ok (.iload_n 3, 1) := by decide +kernel
theorem dX8_valueOf_110 : decode cX8_valueOf 110 = .ok (.bipush 32, 2) := by decide +kernel
theorem dX8_valueOf_112 : decode cX8_valueOf 112 = .ok (.if_icmp .ne 11, 3) := by decide +kernel
theorem dX8_valueOf_115 : decode cX8_valueOf 115 = .ok (.iload_n 3, 1) := by decide +kernel
theorem dX8_valueOf_116 : decode cX8_valueOf 116 = .ok (.iload 6, 2) := by decide +kernel
theorem dX8_valueOf_118 : decode cX8_valueOf 118 = .ok (.iconst 0, 1) := by decide +kernel
theorem dX8_valueOf_119 : decode cX8_valueOf 119 = .ok (.invokestatic 109, 3) := by decide +kernel
theorem dX8_valueOf_122 : decode cX8_valueOf 122 = .ok (.ireturn, 1) := by decide +kernel
theorem dX8_valueOf_123 : decode cX8_valueOf 123 = .ok (.aload_n 0, 1) := by decide +kernel
theorem dX8_valueOf_124 : decode cX8_valueOf 124 = .ok (.getfield 9, 3) := by decide +kernel
theorem dX8_valueOf_127 : decode cX8_valueOf 127 = .ok (.iload 5, 2) := by decide +kernel
theorem dX8_valueOf_129 : decode cX8_valueOf 129 = .ok (.invokevirtual 48, 3) := by decide +kernel
theorem dX8_valueOf_132 : decode cX8_valueOf 132 = .ok (.istore 7, 2) := by decide +kernel
theorem dX8_valueOf_134 : decode cX8_valueOf 134 = .ok (.aload_n 0, 1) := by decide +kernel
theorem dX8_valueOf_135 : decode cX8_valueOf 135 = .ok (.iload 7, 2) := by decide +kernel
theorem dX8_valueOf_137 : decode cX8_valueOf 137 = .ok (.iload_n 2, 1) := by decide +kernel
theorem dX8_valueOf_138 : decode cX8_valueOf 138 = .ok (.iconst 1, 1) := by decide +kernel
theorem dX8_valueOf_139 : decode cX8_valueOf 139 = .ok (.iadd, 1) := by decide +kernel
theorem dX8_valueOf_140 : decode cX8_valueOf 140 = .ok (.invokevirtual 80, 3) := by decide +kernel
theorem dX8_valueOf_143 : decode cX8_valueOf 143 = .ok (.istore 8, 2) := by decide +kernel
theorem dX8_valueOf_145 : decode cX8_valueOf 145 = .ok (.iload_n 3, 1) := by decide +kernel
theorem dX8_valueOf_146 : decode cX8_valueOf 146 = .ok (.bipush 36, 2) := by decide +kernel
theorem dX8_valueOf_148 : decode cX8_valueOf 148 = .ok (.if_icmp .ne 34, 3) := by decide +kernel
theorem dX8_valueOf_151 : decode cX8_valueOf 151 = .ok (.aload_n 0, 1) := by decide +kernel
theorem dX8_valueOf_152 : decode cX8_valueOf 152 = .ok (.aload_n 0, 1) := by decide +kernel
theorem dX8_valueOf_153 : decode cX8_valueOf 153 = .ok (.getfield 9, 3) := by decide +kernel
theorem dX8_valueOf_156 : decode cX8_valueOf 156 = .ok (.iload 7, 2) := by decide +kernel
theorem dX8_valueOf_158 : decode cX8_valueOf 158 = .ok (.invokevirtual 48, 3) := by decide +kernel
theorem dX8_valueOf_161 : decode cX8_valueOf 161 = .ok (.iload_n 2, 1) := by decide +kernel
theorem dX8_valueOf_162 : decode cX8_valueOf 162 = .ok (.iconst 1, 1) := by decide +kernel
theorem dX8_valueOf_163 : decode cX8_valueOf 163 = .ok (.iadd, 1) := by decide +kernel
theorem dX8_valueOf_164 : decode cX8_valueOf 164 = .ok (.invokevirtual 80, 3) := by decide +kernel
theorem dX8_valueOf_167 : decode cX8_valueOf 167 = .ok (.istore 9, 2) := by decide +kernel
theorem dX8_valueOf_169 : decode cX8_valueOf 169 = .ok (.iload 6, 2) := by decide +kernel
theorem dX8_valueOf_171 : decode cX8_valueOf 171 = .ok (.ifCond .eq 8, 3) := by decide +kernel
theorem dX8_valueOf_174 : decode cX8_valueOf 174 = .ok (.iload 8, 2) := by decide +kernel
theorem dX8_valueOf_176 : decode cX8_valueOf 176 = .ok (.goto 5, 3) := by decide +kernel
theorem dX8_valueOf_179 : decode cX8_valueOf 179 = .ok (.iload 9, 2) := by decide +kernel
theorem dX8_valueOf_181 : decode cX8_valueOf 181 = .ok (.ireturn, 1) := by decide +kernel
theorem dX8_valueOf_182 : decode cX8_valueOf 182 = .ok (.iload_n 3, 1) := by decide +kernel
theorem dX8_valueOf_183 : decode cX8_valueOf 183 = .ok (.iload 8, 2) := by decide +kernel
theorem dX8_valueOf_185 : decode cX8_valueOf 185 = .ok (.invokestatic 115, 3) := by decide +kernel
theorem dX8_valueOf_188 : decode cX8_valueOf 188 = .ok (.ifCond .eq 9, 3) := by decide +kernel
theorem dX8_valueOf_191 : decode cX8_valueOf 191 = .ok (.aload_n 0, 1) := by decide +kernel
theorem dX8_valueOf_192 : decode cX8_valueOf 192 = .ok (.bipush (-5), 2) := by decide +kernel
theorem dX8_valueOf_194 : decode cX8_valueOf 194 = .ok (.putfield 32, 3) := by decide +kernel
theorem dX8_valueOf_197 : decode cX8_valueOf 197 = .ok (.iload_n 3, 1) := by decide +kernel
theorem dX8_valueOf_198 : decode cX8_valueOf 198 = .ok (.iload 6, 2) := by decide +kernel
theorem dX8_valueOf_200 : decode cX8_valueOf 200 = .ok (.iload 8, 2) := by decide +kernel
theorem dX8_valueOf_202 : decode cX8_valueOf 202 = .ok (.invokestatic 109, 3) := by decide +kernel
theorem dX8_valueOf_205 : decode cX8_valueOf 205 = .ok (.ireturn, 1) := by decide +kernel
theorem dX9_init_0 : decode cX9_init 0 = .ok (.aload_n 0, 1) := by decide +kernel
theorem dX9_init_1 : decode cX9_init 1 = .ok (.invokespecial 3, 3) := by decide +kernel
theorem dX9_init_4 : decode cX9_init 4 = .ok (.aload_n 0, 1) := by decide +kernel
theorem dX9_init_5 : decode cX9_init 5 = .ok (.new 9, 3) := by decide +kernel
theorem dX9_init_8 : decode cX9_init 8 = .ok (.dup, 1) := by decide +kernel
theorem dX9_init_9 : decode cX9_init 9 = .ok (.invokespecial 11, 3) := by decide +kernel
theorem dX9_init_12 : decode cX9_init 12 = .ok (.putfield 12, 3) := by decide +kernel
theorem dX9_init_15 : decode cX9_init 15 = .ok (.aload_n 0, 1) := by decide +kernel
theorem dX9_init_16 : decode cX9_init 16 = .ok (.new 16, 3) := by decide +kernel
theorem dX9_init_19 : decode cX9_init 19 = .ok (.dup, 1) := by decide +kernel
theorem dX9_init_20 : decode cX9_init 20 = .ok (.invokespecial 18, 3) := by decide +kernel
theorem dX9_init_23 : decode cX9_init 23 = .ok (.putfield 19, 3) := by decide +kernel
theorem dX9_init_26 : decode cX9_init 26 = .ok (.aload_n 0, 1) := by decide +kernel
theorem dX9_init_27 : decode cX9_init 27 = .ok (.new 16, 3) := by decide +kernel
theorem dX9_init_30 : decode cX9_init 30 = .ok (.dup, 1) := by decide +kernel
theorem dX9_init_31 : decode cX9_init 31 = .ok (.invokespecial 18, 3) := by decide +kernel
theorem dX9_init_34 : decode cX9_init 34 = .ok (.putfield 23, 3) := by decide +kernel
theorem dX9_init_37 : decode cX9_init 37 = .ok (.aload_n 0, 1) := by decide +kernel
theorem dX9_init_38 : decode cX9_init 38 = .ok (.new 26, 3) := by decide +kernel
theorem dX9_init_41 : decode cX9_init 41 = .ok (.dup, 1) := by decide +kernel
theorem dX9_init_42 : decode cX9_init 42 = .ok (.sipush 2048, 3) := by decide +kernel
theorem dX9_init_45 : decode cX9_init 45 = .ok (.invokespecial 28, 3) := by decide +kernel
theorem dX9_init_48 : decode cX9_init 48 = .ok (.putfield 31, 3) := by decide +kernel
theorem dX9_init_51 : decode cX9_init 51 = .ok (.aload_n 0, 1) := by decide +kernel
theorem dX9_init_52 : decode cX9_init 52 = .ok (.new 26, 3) := by decide +kernel
theorem dX9_init_55 : decode cX9_init 55 = .ok (.dup, 1) := by decide +kernel
theorem dX9_init_56 : decode cX9_init 56 = .ok (.sipush 300, 3) := by decide +kernel
theorem dX9_init_59 : decode cX9_init 59 = .ok (.invokespecial 28, 3) := by decide +kernel
theorem dX9_init_62 : decode cX9_init 62 = .ok (.putfield 35, 3) := by decide +kernel
theorem dX9_init_65 : decode cX9_init 65 = .ok (.aload_n 0, 1) := by decide +kernel
theorem dX9_init_66 : decode cX9_init 66 = .ok (.new 38, 3) := by decide +kernel
theorem dX9_init_69 : decode cX9_init 69 = .ok (.dup, 1) := by decide +kernel
theorem dX9_init_70 : decode cX9_init 70 = .ok (.invokespecial 40, 3) := by decide +kernel
theorem dX9_init_73 : decode cX9_init 73 = .ok (.putfield 41, 3) := by decide +kernel
theorem dX9_init_76 : decode cX9_init 76 = .ok (.aload_n 0, 1) := by decide +kernel
theorem dX9_init_77 : decode cX9_init 77 = .ok (.new 45, 3) := by decide +kernel
theorem dX9_init_80 : decode cX9_init 80 = .ok (.dup, 1) := by decide +kernel
theorem dX9_init_81 : decode cX9_init 81 = .ok (.aload_n 0, 1) := by decide +kernel
theorem dX9_init_82 : decode cX9_init 82 = .ok (.getfield 19, 3) := by decide +kernel
theorem dX9_init_85 : decode cX9_init 85 = .ok (.aload_n 0, 1) := by decide +kernel
theorem dX9_init_86 : decode cX9_init 86 = .ok (.getfield 12, 3) := by decide +kernel
theorem dX9_init_89 : decode cX9_init 89 = .ok (.invokespecial 47, 3) := by decide +kernel
theorem dX9_init_92 : decode cX9_init 92 = .ok (.putfield 50, 3) := by decide +kernel
theorem dX9_init_95 : decode cX9_init 95 = .ok (.aload_n 0, 1) := by decide +kernel
theorem dX9_init_96 : decode cX9_init 96 = .ok (.new 54, 3) := by decide +kernel
theorem dX9_init_99 : decode cX9_init 99 = .ok (.dup, 1) := by decide +kernel
theorem dX9_init_100 : decode cX9_init 100 = .ok (.aload_n 0, 1) := by decide +kernel
theorem dX9_init_101 : decode cX9_init 101 = .ok (.getfield 23, 3) := by decide +kernel
theorem dX9_init_104 : decode cX9_init 104 = .ok (.aload_n 0, 1) := by decide +kernel
theorem dX9_init_105 : decode cX9_init 105 = .ok (.getfield 31, 3) := by decide +kernel
theorem dX9_init_108 : decode cX9_init 108 = .ok (.invokespecial 56, 3) := by decide +kernel
theorem dX9_init_111 : decode cX9_init 111 = .ok (.putfield 59, 3) := by decide +kernel
theorem dX9_init_114 : decode cX9_init 114 = .ok (.aload_n 0, 1) := by decide +kernel
theorem dX9_init_115 : decode cX9_init 115 = .ok (.new 63, 3) := by decide +kernel
theorem dX9_init_118 : decode cX9_init 118 = .ok (.dup, 1) := by decide +kernel
theorem dX9_init_119 : decode cX9_init 119 = .ok (.aload_n 0, 1) := by decide +kernel
theorem dX9_init_120 : decode cX9_init 120 = .ok (.getfield 31, 3) := by decide +kernel
theorem dX9_init_123 : decode cX9_init 123 = .ok (.aload_n 0, 1) := by decide +kernel
theorem dX9_init_124 : decode cX9_init 124 = .ok (.getfield 12, 3) := by decide +kernel
theorem dX9_init_127 : decode cX9_init 127 = .ok (.aload_n 0, 1) := by decide +kernel
theorem dX9_init_128 : decode cX9_init 128 = .ok (.getfield 35, 3) := by decide +kernel
theorem dX9_init_131 : decode cX9_init 131 = .ok (.aload_n 0, 1) := by decide +kernel
theorem dX9_init_132 : decode cX9_init 132 = .ok (.getfield 41, 3) := by decide +kernel
theorem dX9_init_135 : decode cX9_init 135 = .ok (.invokespecial 65, 3) := by decide +kernel
theorem dX9_init_138 : decode cX9_init 138 = .ok (.putfield 68, 3) := by decide +kernel
theorem dX9_init_141 : decode cX9_init 141 = .ok (.aload_n 0, 1) := by decide +kernel
theorem dX9_init_142 : decode cX9_init 142 = .ok (.new 72, 3) := by decide +kernel
theorem dX9_init_145 : decode cX9_init 145 = .ok (.dup, 1) := by decide +kernel
theorem dX9_init_146 : decode cX9_init 146 = .ok (.aload_n 0, 1) := by decide +kernel
theorem dX9_init_147 : decode cX9_init 147 = .ok (.getfield 23, 3) := by decide +kernel
theorem dX9_init_150 : decode cX9_init 150 = .ok (.aload_n 0, 1) := by decide +kernel
theorem dX9_init_151 : decode cX9_init 151 = .ok (.getfield 12, 3) := by decide +kernel
theorem dX9_init_154 : decode cX9_init 154 = .ok (.aload_n 0, 1) := by decide +kernel
theorem dX9_init_155 : decode cX9_init 155 = .ok (.getfield 35, 3) := by decide +kernel
theorem dX9_init_158 : decode cX9_init 158 = .ok (.invokespecial 74, 3) := by decide +kernel
theorem dX9_init_161 : decode cX9_init 161 = .ok (.putfield 77, 3) := by decide +kernel
theorem dX9_init_164 : decode cX9_init 164 = .ok (.aload_n 0, 1) := by decide +kernel
theorem dX9_init_165 : decode cX9_init 165 = .ok (.iconst (-1), 1) := by decide +kernel
theorem dX9_init_166 : decode cX9_init 166 = .ok (.putfield 81, 3) := by decide +kernel
theorem dX9_init_169 : decode cX9_init 169 = .ok (.return_, 1) := by decide +kernel
theorem dX9_variable_0 : decode cX9_variable 0 = .ok (.aload_n 0, 1) := by decide +kernel
theorem dX9_variable_1 : decode cX9_variable 1 = .ok (.getfield 12, 3) := by decide +kernel
theorem dX9_variable_4 : decode cX9_variable 4 = .ok (.iload_n 1, 1) := by decide +kernel
theorem dX9_variable_5 : decode cX9_variable 5 = .ok (.invokevirtual 85, 3) := by decide +kernel
theorem dX9_variable_8 : decode cX9_variable 8 = .ok (.ifCond .ne 6, 3) := by decide +kernel
theorem dX9_variable_11 : decode cX9_variable 11 = .ok (.bipush (-2), 2) := by decide +kernel
theorem dX9_variable_13 : decode cX9_variable 13 = .ok (.ireturn, 1) := by decide +kernel
theorem dX9_variable_14 : decode cX9_variable 14 = .ok (.aload_n 0, 1) := by decide +kernel
theorem dX9_variable_15 : decode cX9_variable 15 = .ok (.getfield 12, 3) := by decide +kernel
theorem dX9_variable_18 : decode cX9_variable 18 = .ok (.iload_n 1, 1) := by decide +kernel
theorem dX9_variable_19 : decode cX9_variable 19 = .ok (.invokevirtual 89, 3) := by decide +kernel
theorem dX9_variable_22 : decode cX9_variable 22 = .ok (.ifCond .eq 7, 3) := by decide +kernel
theorem dX9_variable_25 : decode cX9_variable 25 = .ok (.iconst 1, 1) := by decide +kernel
theorem dX9_variable_26 : decode cX9_variable 26 = .ok (.goto 4, 3) := by decide +kernel
theorem dX9_variable_29 : decode cX9_variable 29 = .ok (.iconst 0, 1) := by decide +kernel
theorem dX9_variable_30 : decode cX9_variable 30 = .ok (.istore_n 3, 1) := by decide +kernel
theorem dX9_variable_31 : decode cX9_variable 31 = .ok (.aload_n 0, 1) := by decide +kernel
theorem dX9_variable_32 : decode cX9_variable 32 = .ok (.getfield 12, 3) := by decide +kernel
theorem dX9_variable_35 : decode cX9_variable 35 = .ok (.iload_n 1, 1) := by decide +kernel
theorem dX9_variable_36 : decode cX9_variable 36 = .ok (.iload_n 2, 1) := by decide +kernel
theorem dX9_variable_37 : decode cX9_variable 37 = .ok (.invokevirtual 92, 3) := by decide +kernel
theorem dX9_variable_40 : decode cX9_variable 40 = .ok (.aload_n 0, 1) := by decide +kernel
theorem dX9_variable_41 : decode cX9_variable 41 = .ok (.invokevirtual 96, 3) := by decide +kernel
theorem dX9_variable_44 : decode cX9_variable 44 = .ok (.iload_n 3, 1) := by decide +kernel
theorem dX9_variable_45 : decode cX9_variable 45 = .ok (.ireturn, 1) := by decide +kernel
theorem dX9_table_0 : decode cX9_table 0 = .ok (.aload_n 0, 1) := by decide +kernel
theorem dX9_table_1 : decode cX9_table 1 = .ok (.getfield 12, 3) := by decide +kernel
theorem dX9_table_4 : decode cX9_table 4 = .ok (.iload_n 1, 1) := by decide +kernel
theorem dX9_table_5 : decode cX9_table 5 = .ok (.invokevirtual 99, 3) := by decide +kernel
theorem dX9_table_8 : decode cX9_table 8 = .ok (.ifCond .eq 14, 3) := by decide +kernel
theorem dX9_table_11 : decode cX9_table 11 = .ok (.iload_n 3, 1) := by decide +kernel
theorem dX9_table_12 : decode cX9_table 12 = .ok (.iconst 1, 1) := by decide +kernel
theorem dX9_table_13 : decode cX9_table 13 = .ok (.if_icmp .lt 9, 3) := by decide +kernel
theorem dX9_table_16 : decode cX9_table 16 = .ok (.iload_n 3, 1) := by decide +kernel
theorem dX9_table_17 : decode cX9_table 17 = .ok (.bipush 16, 2) := by decide +kernel
theorem dX9_table_19 : decode cX9_table 19 = .ok (.if_icmp .le 6, 3) := by decide +kernel
theorem dX9_table_22 : decode cX9_table 22 = .ok (.bipush (-2), 2) := by decide +kernel
theorem dX9_table_24 : decode cX9_table 24 = .ok (.ireturn, 1) := by decide +kernel
theorem dX9_table_25 : decode cX9_table 25 = .ok (.aload_n 0, 1) := by decide +kernel
theorem dX9_table_26 : decode cX9_table 26 = .ok (.getfield 12, 3) := by decide +kernel
theorem dX9_table_29 : decode cX9_table 29 = .ok (.iload_n 1, 1) := by decide +kernel
theorem dX9_table_30 : decode cX9_table 30 = .ok (.invokevirtual 102, 3) := by decide +kernel
theorem dX9_table_33 : decode cX9_table 33 = .ok (.istore 4, 2) := by decide +kernel
theorem dX9_table_35 : decode cX9_table 35 = .ok (.aload_n 0, 1) := by decide +kernel
theorem dX9_table_36 : decode cX9_table 36 = .ok (.getfield 12, 3) := by decide +kernel
theorem dX9_table_39 : decode cX9_table 39 = .ok (.iload_n 1, 1) := by decide +kernel
theorem dX9_table_40 : decode cX9_table 40 = .ok (.iload_n 2, 1) := by decide +kernel
theorem dX9_table_41 : decode cX9_table 41 = .ok (.iload_n 3, 1) := by decide +kernel
theorem dX9_table_42 : decode cX9_table 42 = .ok (.invokevirtual 106, 3) := by decide +kernel
theorem dX9_table_45 : decode cX9_table 45 = .ok (.aload_n 0, 1) := by decide +kernel
theorem dX9_table_46 : decode cX9_table 46 = .ok (.invokevirtual 96, 3) := by decide +kernel
theorem dX9_table_49 : decode cX9_table 49 = .ok (.iload 4, 2) := by decide +kernel
theorem dX9_table_51 : decode cX9_table 51 = .ok (.ireturn, 1) := by decide +kernel
theorem dX9_token_0 : decode cX9_token 0 = .ok (.aload_n 0, 1) := by decide +kernel
theorem dX9_token_1 : decode cX9_token 1 = .ok (.getfield 19, 3) := by decide +kernel
theorem dX9_token_4 : decode cX9_token 4 = .ok (.iload_n 1, 1) := by decide +kernel
theorem dX9_token_5 : decode cX9_token 5 = .ok (.invokevirtual 110, 3) := by decide +kernel
theorem dX9_token_8 : decode cX9_token 8 = .ok (.ifCond .eq 13, 3) := by decide +kernel
theorem dX9_token_11 : decode cX9_token 11 = .ok (.aload_n 0, 1) := by decide +kernel
theorem dX9_token_12 : decode cX9_token 12 = .ok (.getfield 19, 3) := by decide +kernel
theorem dX9_token_15 : decode cX9_token 15 = .ok (.invokevirtual 113, 3) := by decide +kernel
theorem dX9_token_18 : decode cX9_token 18 = .ok (.goto 5, 3) := by decide +kernel
theorem dX9_token_21 : decode cX9_token 21 = .ok (.bipush (-3), 2) := by decide +kernel
theorem dX9_token_23 : decode cX9_token 23 = .ok (.ireturn, 1) := by decide +kernel
theorem dX9_check_0 : decode cX9_check 0 = .ok (.aload_n 0, 1) := by decide +kernel
theorem dX9_check_1 : decode cX9_check 1 = .ok (.getfield 50, 3) := by decide +kernel
theorem dX9_check_4 : decode cX9_check 4 = .ok (.invokevirtual 117, 3) := by decide +kernel
theorem dX9_check_7 : decode cX9_check 7 = .ok (.istore_n 1, 1) := by decide +kernel
theorem dX9_check_8 : decode cX9_check 8 = .ok (.aload_n 0, 1) := by decide +kernel
theorem dX9_check_9 : decode cX9_check 9 = .ok (.aload_n 0, 1) := by decide +kernel
theorem dX9_check_10 : decode cX9_check 10 = .ok (.getfield 50, 3) := by decide +kernel
theorem dX9_check_13 : decode cX9_check 13 = .ok (.invokevirtual 120, 3) := by decide +kernel
theorem dX9_check_16 : decode cX9_check 16 = .ok (.putfield 81, 3) := by decide +kernel
theorem dX9_check_19 : decode cX9_check 19 = .ok (.iload_n 1, 1) := by decide +kernel
theorem dX9_check_20 : decode cX9_check 20 = .ok (.ifCond .ne 21, 3) := by decide +kernel
theorem dX9_check_23 : decode cX9_check 23 = .ok (.aload_n 0, 1) := by decide +kernel
theorem dX9_check_24 : decode cX9_check 24 = .ok (.getfield 23, 3) := by decide +kernel
theorem dX9_check_27 : decode cX9_check 27 = .ok (.aload_n 0, 1) := by decide +kernel
theorem dX9_check_28 : decode cX9_check 28 = .ok (.getfield 19, 3) := by decide +kernel
theorem dX9_check_31 : decode cX9_check 31 = .ok (.invokevirtual 122, 3) := by decide +kernel
theorem dX9_check_34 : decode cX9_check 34 = .ok (.aload_n 0, 1) := by decide +kernel
theorem dX9_check_35 : decode cX9_check 35 = .ok (.getfield 59, 3) := by decide +kernel
theorem dX9_check_38 : decode cX9_check 38 = .ok (.invokevirtual 126, 3) := by decide +kernel
theorem dX9_check_41 : decode cX9_check 41 = .ok (.aload_n 0, 1) := by decide +kernel
theorem dX9_check_42 : decode cX9_check 42 = .ok (.getfield 19, 3) := by decide +kernel
theorem dX9_check_45 : decode cX9_check 45 = .ok (.invokevirtual 129, 3) := by decide +kernel
theorem dX9_check_48 : decode cX9_check 48 = .ok (.iload_n 1, 1) := by decide +kernel
theorem dX9_check_49 : decode cX9_check 49 = .ok (.ifCond .ne 13, 3) := by decide +kernel
theorem dX9_check_52 : decode cX9_check 52 = .ok (.aload_n 0, 1) := by decide +kernel
theorem dX9_check_53 : decode cX9_check 53 = .ok (.getfield 31, 3) := by decide +kernel
theorem dX9_check_56 : decode cX9_check 56 = .ok (.invokevirtual 132, 3) := by decide +kernel
theorem dX9_check_59 : decode cX9_check 59 = .ok (.goto 4, 3) := by decide +kernel
theorem dX9_check_62 : decode cX9_check 62 = .ok (.iload_n 1, 1) := by decide +kernel
theorem dX9_check_63 : decode cX9_check 63 = .ok (.ireturn, 1) := by decide +kernel
theorem dX9_place_0 : decode cX9_place 0 = .ok (.aload_n 0, 1) := by decide +kernel
theorem dX9_place_1 : decode cX9_place 1 = .ok (.getfield 81, 3) := by decide +kernel
theorem dX9_place_4 : decode cX9_place 4 = .ok (.ireturn, 1) := by decide +kernel
theorem dX9_code_0 : decode cX9_code 0 = .ok (.aload_n 0, 1) := by decide +kernel
theorem dX9_code_1 : decode cX9_code 1 = .ok (.getfield 31, 3) := by decide +kernel
theorem dX9_code_4 : decode cX9_code 4 = .ok (.iload_n 1, 1) := by decide +kernel
theorem dX9_code_5 : decode cX9_code 5 = .ok (.iconst 0, 1) := by decide +kernel
theorem dX9_code_6 : decode cX9_code 6 = .ok (.invokevirtual 133, 3) := by decide +kernel
theorem dX9_code_9 : decode cX9_code 9 = .ok (.ireturn, 1) := by decide +kernel
theorem dX9_set_0 : decode cX9_set 0 = .ok (.aload_n 0, 1) := by decide +kernel
theorem dX9_set_1 : decode cX9_set 1 = .ok (.getfield 12, 3) := by decide +kernel
theorem dX9_set_4 : decode cX9_set 4 = .ok (.iload_n 1, 1) := by decide +kernel
theorem dX9_set_5 : decode cX9_set 5 = .ok (.invokevirtual 85, 3) := by decide +kernel
theorem dX9_set_8 : decode cX9_set 8 = .ok (.ifCond .ne 6, 3) := by decide +kernel
theorem dX9_set_11 : decode cX9_set 11 = .ok (.bipush (-2), 2) := by decide +kernel
theorem dX9_set_13 : decode cX9_set 13 = .ok (.ireturn, 1) := by decide +kernel
theorem dX9_set_14 : decode cX9_set 14 = .ok (.aload_n 0, 1) := by decide +kernel
theorem dX9_set_15 : decode cX9_set 15 = .ok (.getfield 12, 3) := by decide +kernel
theorem dX9_set_18 : decode cX9_set 18 = .ok (.iload_n 1, 1) := by decide +kernel
theorem dX9_set_19 : decode cX9_set 19 = .ok (.invokevirtual 137, 3) := by decide +kernel
theorem dX9_set_22 : decode cX9_set 22 = .ok (.istore_n 3, 1) := by decide +kernel
theorem dX9_set_23 : decode cX9_set 23 = .ok (.aload_n 0, 1) := by decide +kernel
theorem dX9_set_24 : decode cX9_set 24 = .ok (.getfield 12, 3) := by decide +kernel
theorem dX9_set_27 : decode cX9_set 27 = .ok (.iload_n 1, 1) := by decide +kernel
theorem dX9_set_28 : decode cX9_set 28 = .ok (.iload_n 2, 1) := by decide +kernel
theorem dX9_set_29 : decode cX9_set 29 = .ok (.invokevirtual 140, 3) := by decide +kernel
theorem dX9_set_32 : decode cX9_set 32 = .ok (.iload_n 3, 1) := by decide +kernel
theorem dX9_set_33 : decode cX9_set 33 = .ok (.ireturn, 1) := by decide +kernel
theorem dX9_put_0 : decode cX9_put 0 = .ok (.aload_n 0, 1) := by decide +kernel
theorem dX9_put_1 : decode cX9_put 1 = .ok (.getfield 12, 3) := by decide +kernel
theorem dX9_put_4 : decode cX9_put 4 = .ok (.iload_n 1, 1) := by decide +kernel
theorem dX9_put_5 : decode cX9_put 5 = .ok (.iload_n 2, 1) := by decide +kernel
theorem dX9_put_6 : decode cX9_put 6 = .ok (.invokevirtual 144, 3) := by decide +kernel
theorem dX9_put_9 : decode cX9_put 9 = .ok (.ifCond .ne 6, 3) := by decide +kernel
theorem dX9_put_12 : decode cX9_put 12 = .ok (.bipush (-2), 2) := by decide +kernel
theorem dX9_put_14 : decode cX9_put 14 = .ok (.ireturn, 1) := by decide +kernel
theorem dX9_put_15 : decode cX9_put 15 = .ok (.aload_n 0, 1) := by decide +kernel
theorem dX9_put_16 : decode cX9_put 16 = .ok (.getfield 12, 3) := by decide +kernel
theorem dX9_put_19 : decode cX9_put 19 = .ok (.iload_n 1, 1) := by decide +kernel
theorem dX9_put_20 : decode cX9_put 20 = .ok (.iload_n 2, 1) := by decide +kernel
theorem dX9_put_21 : decode cX9_put 21 = .ok (.invokevirtual 148, 3) := by decide +kernel
theorem dX9_put_24 : decode cX9_put 24 = .ok (.istore 4, 2) := by decide +kernel
theorem dX9_put_26 : decode cX9_put 26 = .ok (.aload_n 0, 1) := by decide +kernel
theorem dX9_put_27 : decode cX9_put 27 = .ok (.getfield 12, 3) := by decide +kernel
theorem dX9_put_30 : decode cX9_put 30 = .ok (.iload_n 1, 1) := by decide +kernel
theorem dX9_put_31 : decode cX9_put 31 = .ok (.iload_n 2, 1) := by decide +kernel
theorem dX9_put_32 : decode cX9_put 32 = .ok (.iload_n 3, 1) := by decide +kernel
theorem dX9_put_33 : decode cX9_put 33 = .ok (.invokevirtual 151, 3) := by decide +kernel
theorem dX9_put_36 : decode cX9_put 36 = .ok (.iload 4, 2) := by decide +kernel
theorem dX9_put_38 : decode cX9_put 38 = .ok (.ireturn, 1) := by decide +kernel
theorem dX9_get_0 : decode cX9_get 0 = .ok (.aload_n 0, 1) := by decide +kernel
theorem dX9_get_1 : decode cX9_get 1 = .ok (.getfield 12, 3) := by decide +kernel
theorem dX9_get_4 : decode cX9_get 4 = .ok (.iload_n 1, 1) := by decide +kernel
theorem dX9_get_5 : decode cX9_get 5 = .ok (.invokevirtual 85, 3) := by decide +kernel
theorem dX9_get_8 : decode cX9_get 8 = .ok (.ifCond .eq 14, 3) := by decide +kernel
theorem dX9_get_11 : decode cX9_get 11 = .ok (.aload_n 0, 1) := by decide +kernel
theorem dX9_get_12 : decode cX9_get 12 = .ok (.getfield 12, 3) := by decide +kernel
theorem dX9_get_15 : decode cX9_get 15 = .ok (.iload_n 1, 1) := by decide +kernel
theorem dX9_get_16 : decode cX9_get 16 = .ok (.invokevirtual 137, 3) := by decide +kernel
theorem dX9_get_19 : decode cX9_get 19 = .ok (.goto 5, 3) := by decide +kernel
theorem dX9_get_22 : decode cX9_get 22 = .ok (.bipush (-2), 2) := by decide +kernel
theorem dX9_get_24 : decode cX9_get 24 = .ok (.ireturn, 1) := by decide +kernel
theorem dX9_at_0 : decode cX9_at 0 = .ok (.aload_n 0, 1) := by decide +kernel
theorem dX9_at_1 : decode cX9_at 1 = .ok (.getfield 12, 3) := by decide +kernel
theorem dX9_at_4 : decode cX9_at 4 = .ok (.iload_n 1, 1) := by decide +kernel
theorem dX9_at_5 : decode cX9_at 5 = .ok (.iload_n 2, 1) := by decide +kernel
theorem dX9_at_6 : decode cX9_at 6 = .ok (.invokevirtual 144, 3) := by decide +kernel
theorem dX9_at_9 : decode cX9_at 9 = .ok (.ifCond .eq 15, 3) := by decide +kernel
theorem dX9_at_12 : decode cX9_at 12 = .ok (.aload_n 0, 1) := by decide +kernel
theorem dX9_at_13 : decode cX9_at 13 = .ok (.getfield 12, 3) := by decide +kernel
theorem dX9_at_16 : decode cX9_at 16 = .ok (.iload_n 1, 1) := by decide +kernel
theorem dX9_at_17 : decode cX9_at 17 = .ok (.iload_n 2, 1) := by decide +kernel
theorem dX9_at_18 : decode cX9_at 18 = .ok (.invokevirtual 148, 3) := by decide +kernel
theorem dX9_at_21 : decode cX9_at 21 = .ok (.goto 5, 3) := by decide +kernel
theorem dX9_at_24 : decode cX9_at 24 = .ok (.bipush (-2), 2) := by decide +kernel
theorem dX9_at_26 : decode cX9_at 26 = .ok (.ireturn, 1) := by decide +kernel
theorem dX9_run_0 : decode cX9_run 0 = .ok (.aload_n 0, 1) := by decide +kernel
theorem dX9_run_1 : decode cX9_run 1 = .ok (.invokevirtual 155, 3) := by decide +kernel
theorem dX9_run_4 : decode cX9_run 4 = .ok (.ifCond .eq 13, 3) := by decide +kernel
theorem dX9_run_7 : decode cX9_run 7 = .ok (.aload_n 0, 1) := by decide +kernel
theorem dX9_run_8 : decode cX9_run 8 = .ok (.getfield 68, 3) := by decide +kernel
theorem dX9_run_11 : decode cX9_run 11 = .ok (.invokevirtual 159, 3) := by decide +kernel
theorem dX9_run_14 : decode cX9_run 14 = .ok (.goto 5, 3) := by decide +kernel
theorem dX9_run_17 : decode cX9_run 17 = .ok (.bipush (-2), 2) := by decide +kernel
theorem dX9_run_19 : decode cX9_run 19 = .ok (.ireturn, 1) := by decide +kernel
theorem dX9_plain_0 : decode cX9_plain 0 = .ok (.aload_n 0, 1) := by decide +kernel
theorem dX9_plain_1 : decode cX9_plain 1 = .ok (.invokevirtual 155, 3) := by decide +kernel
theorem dX9_plain_4 : decode cX9_plain 4 = .ok (.ifCond .eq 13, 3) := by decide +kernel
theorem dX9_plain_7 : decode cX9_plain 7 = .ok (.aload_n 0, 1) := by decide +kernel
theorem dX9_plain_8 : decode cX9_plain 8 = .ok (.getfield 77, 3) := by decide +kernel
theorem dX9_plain_11 : decode cX9_plain 11 = .ok (.invokevirtual 162, 3) := by decide +kernel
theorem dX9_plain_14 : decode cX9_plain 14 = .ok (.goto 5, 3) := by decide +kernel
theorem dX9_plain_17 : decode cX9_plain 17 = .ok (.bipush (-2), 2) := by decide +kernel
theorem dX9_plain_19 : decode cX9_plain 19 = .ok (.ireturn, 1) := by decide +kernel
theorem dX9_told_0 : decode cX9_told 0 = .ok (.aload_n 0, 1) := by decide +kernel
theorem dX9_told_1 : decode cX9_told 1 = .ok (.getfield 35, 3) := by decide +kernel
theorem dX9_told_4 : decode cX9_told 4 = .ok (.iload_n 1, 1) := by decide +kernel
theorem dX9_told_5 : decode cX9_told 5 = .ok (.iconst 0, 1) := by decide +kernel
theorem dX9_told_6 : decode cX9_told 6 = .ok (.invokevirtual 133, 3) := by decide +kernel
theorem dX9_told_9 : decode cX9_told 9 = .ok (.ireturn, 1) := by decide +kernel
theorem dX9_trace_0 : decode cX9_trace 0 = .ok (.aload_n 0, 1) := by decide +kernel
theorem dX9_trace_1 : decode cX9_trace 1 = .ok (.getfield 41, 3) := by decide +kernel
theorem dX9_trace_4 : decode cX9_trace 4 = .ok (.iload_n 1, 1) := by decide +kernel
theorem dX9_trace_5 : decode cX9_trace 5 = .ok (.invokevirtual 165, 3) := by decide +kernel
theorem dX9_trace_8 : decode cX9_trace 8 = .ok (.ireturn, 1) := by decide +kernel
theorem dX9_mark_0 : decode cX9_mark 0 = .ok (.aload_n 0, 1) := by decide +kernel
theorem dX9_mark_1 : decode cX9_mark 1 = .ok (.getfield 41, 3) := by decide +kernel
theorem dX9_mark_4 : decode cX9_mark 4 = .ok (.invokevirtual 167, 3) := by decide +kernel
theorem dX9_mark_7 : decode cX9_mark 7 = .ok (.lreturn, 1) := by decide +kernel
theorem dX9_count_0 : decode cX9_count 0 = .ok (.iload_n 1, 1) := by decide +kernel
theorem dX9_count_1 : decode cX9_count 1 = .ok (.tableswitch 63 0 3 #[31, 39, 47, 55], 31) := by decide +kernel
theorem dX9_count_32 : decode cX9_count 32 = .ok (.aload_n 0, 1) := by decide +kernel
theorem dX9_count_33 : decode cX9_count 33 = .ok (.getfield 19, 3) := by decide +kernel
theorem dX9_count_36 : decode cX9_count 36 = .ok (.invokevirtual 113, 3) := by decide +kernel
theorem dX9_count_39 : decode cX9_count 39 = .ok (.ireturn, 1) := by decide +kernel
theorem dX9_count_40 : decode cX9_count 40 = .ok (.aload_n 0, 1) := by decide +kernel
theorem dX9_count_41 : decode cX9_count 41 = .ok (.getfield 31, 3) := by decide +kernel
theorem dX9_count_44 : decode cX9_count 44 = .ok (.invokevirtual 132, 3) := by decide +kernel
theorem dX9_count_47 : decode cX9_count 47 = .ok (.ireturn, 1) := by decide +kernel
theorem dX9_count_48 : decode cX9_count 48 = .ok (.aload_n 0, 1) := by decide +kernel
theorem dX9_count_49 : decode cX9_count 49 = .ok (.getfield 35, 3) := by decide +kernel
theorem dX9_count_52 : decode cX9_count 52 = .ok (.invokevirtual 132, 3) := by decide +kernel
theorem dX9_count_55 : decode cX9_count 55 = .ok (.ireturn, 1) := by decide +kernel
theorem dX9_count_56 : decode cX9_count 56 = .ok (.aload_n 0, 1) := by decide +kernel
theorem dX9_count_57 : decode cX9_count 57 = .ok (.getfield 41, 3) := by decide +kernel
theorem dX9_count_60 : decode cX9_count 60 = .ok (.invokevirtual 171, 3) := by decide +kernel
theorem dX9_count_63 : decode cX9_count 63 = .ok (.ireturn, 1) := by decide +kernel
theorem dX9_count_64 : decode cX9_count 64 = .ok (.bipush (-2), 2) := by decide +kernel
theorem dX9_count_66 : decode cX9_count 66 = .ok (.ireturn, 1) := by decide +kernel
theorem dX9_hasProgram_0 : decode cX9_hasProgram 0 = .ok (.aload_n 0, 1) := by decide +kernel
theorem dX9_hasProgram_1 : decode cX9_hasProgram 1 = .ok (.getfield 31, 3) := by decide +kernel
theorem dX9_hasProgram_4 : decode cX9_hasProgram 4 = .ok (.invokevirtual 132, 3) := by decide +kernel
theorem dX9_hasProgram_7 : decode cX9_hasProgram 7 = .ok (.ifCond .le 7, 3) := by decide +kernel
theorem dX9_hasProgram_10 : decode cX9_hasProgram 10 = .ok (.iconst 1, 1) := by decide +kernel
theorem dX9_hasProgram_11 : decode cX9_hasProgram 11 = .ok (.goto 4, 3) := by decide +kernel
theorem dX9_hasProgram_14 : decode cX9_hasProgram 14 = .ok (.iconst 0, 1) := by decide +kernel
theorem dX9_hasProgram_15 : decode cX9_hasProgram 15 = .ok (.ireturn, 1) := by decide +kernel
theorem dX9_dropProgram_0 : decode cX9_dropProgram 0 = .ok (.aload_n 0, 1) := by decide +kernel
theorem dX9_dropProgram_1 : decode cX9_dropProgram 1 = .ok (.getfield 31, 3) := by decide +kernel
theorem dX9_dropProgram_4 : decode cX9_dropProgram 4 = .ok (.invokevirtual 172, 3) := by decide +kernel
theorem dX9_dropProgram_7 : decode cX9_dropProgram 7 = .ok (.return_, 1) := by decide +kernel
theorem dX10_init_0 : decode cX10_init 0 = .ok (.aload_n 0, 1) := by decide +kernel
theorem dX10_init_1 : decode cX10_init 1 = .ok (.invokespecial 1, 3) := by decide +kernel
theorem dX10_init_4 : decode cX10_init 4 = .ok (.aload_n 0, 1) := by decide +kernel
theorem dX10_init_5 : decode cX10_init 5 = .ok (.sipush 400, 3) := by decide +kernel
theorem dX10_init_8 : decode cX10_init 8 = .ok (.newarray .int, 2) := by decide +kernel
theorem dX10_init_10 : decode cX10_init 10 = .ok (.putfield 7, 3) := by decide +kernel
theorem dX10_init_13 : decode cX10_init 13 = .ok (.aload_n 0, 1) := by decide +kernel
theorem dX10_init_14 : decode cX10_init 14 = .ok (.bipush 10, 2) := by decide +kernel
theorem dX10_init_16 : decode cX10_init 16 = .ok (.newarray .boolean, 2) := by decide +kernel
theorem dX10_init_18 : decode cX10_init 18 = .ok (.putfield 13, 3) := by decide +kernel
theorem dX10_init_21 : decode cX10_init 21 = .ok (.aload_n 0, 1) := by decide +kernel
theorem dX10_init_22 : decode cX10_init 22 = .ok (.iconst 4, 1) := by decide +kernel
theorem dX10_init_23 : decode cX10_init 23 = .ok (.newarray .boolean, 2) := by decide +kernel
theorem dX10_init_25 : decode cX10_init 25 = .ok (.putfield 17, 3) := by decide +kernel
theorem dX10_init_28 : decode cX10_init 28 = .ok (.aload_n 0, 1) := by decide +kernel
theorem dX10_init_29 : decode cX10_init 29 = .ok (.bipush 10, 2) := by decide +kernel
theorem dX10_init_31 : decode cX10_init 31 = .ok (.newarray .int, 2) := by decide +kernel
theorem dX10_init_33 : decode cX10_init 33 = .ok (.putfield 20, 3) := by decide +kernel
theorem dX10_init_36 : decode cX10_init 36 = .ok (.aload_n 0, 1) := by decide +kernel
theorem dX10_init_37 : decode cX10_init 37 = .ok (.bipush 64, 2) := by decide +kernel
theorem dX10_init_39 : decode cX10_init 39 = .ok (.newarray .int, 2) := by decide +kernel
theorem dX10_init_41 : decode cX10_init 41 = .ok (.putfield 23, 3) := by decide +kernel
theorem dX10_init_44 : decode cX10_init 44 = .ok (.aload_n 0, 1) := by decide +kernel
theorem dX10_init_45 : decode cX10_init 45 = .ok (.iconst 4, 1) := by decide +kernel
theorem dX10_init_46 : decode cX10_init 46 = .ok (.newarray .int, 2) := by decide +kernel
theorem dX10_init_48 : decode cX10_init 48 = .ok (.putfield 26, 3) := by decide +kernel
theorem dX10_init_51 : decode cX10_init 51 = .ok (.aload_n 0, 1) := by decide +kernel
theorem dX10_init_52 : decode cX10_init 52 = .ok (.sipush 400, 3) := by decide +kernel
theorem dX10_init_55 : decode cX10_init 55 = .ok (.newarray .int, 2) := by decide +kernel
theorem dX10_init_57 : decode cX10_init 57 = .ok (.putfield 29, 3) := by decide +kernel
theorem dX10_init_60 : decode cX10_init 60 = .ok (.aload_n 0, 1) := by decide +kernel
theorem dX10_init_61 : decode cX10_init 61 = .ok (.sipush 4000, 3) := by decide +kernel
theorem dX10_init_64 : decode cX10_init 64 = .ok (.newarray .int, 2) := by decide +kernel
theorem dX10_init_66 : decode cX10_init 66 = .ok (.putfield 32, 3) := by decide +kernel
theorem dX10_init_69 : decode cX10_init 69 = .ok (.aload_n 0, 1) := by decide +kernel
theorem dX10_init_70 : decode cX10_init 70 = .ok (.iconst (-1), 1) := by decide +kernel
theorem dX10_init_71 : decode cX10_init 71 = .ok (.putfield 35, 3) := by decide +kernel
theorem dX10_init_74 : decode cX10_init 74 = .ok (.aload_n 0, 1) := by decide +kernel
theorem dX10_init_75 : decode cX10_init 75 = .ok (.sipush 300, 3) := by decide +kernel
theorem dX10_init_78 : decode cX10_init 78 = .ok (.newarray .int, 2) := by decide +kernel
theorem dX10_init_80 : decode cX10_init 80 = .ok (.putfield 39, 3) := by decide +kernel
theorem dX10_init_83 : decode cX10_init 83 = .ok (.aload_n 0, 1) := by decide +kernel
theorem dX10_init_84 : decode cX10_init 84 = .ok (.sipush 5000, 3) := by decide +kernel
theorem dX10_init_87 : decode cX10_init 87 = .ok (.newarray .int, 2) := by decide +kernel
theorem dX10_init_89 : decode cX10_init 89 = .ok (.putfield 42, 3) := by decide +kernel
theorem dX10_init_92 : decode cX10_init 92 = .ok (.aload_n 0, 1) := by decide +kernel
theorem dX10_init_93 : decode cX10_init 93 = .ok (.sipush 200, 3) := by decide +kernel
theorem dX10_init_96 : decode cX10_init 96 = .ok (.newarray .int, 2) := by decide +kernel
theorem dX10_init_98 : decode cX10_init 98 = .ok (.putfield 45, 3) := by decide +kernel
theorem dX10_init_101 : decode cX10_init 101 = .ok (.aload_n 0, 1) := by decide +kernel
theorem dX10_init_102 : decode cX10_init 102 = .ok (.bipush 14, 2) := by decide +kernel
theorem dX10_init_104 : decode cX10_init 104 = .ok (.newarray .int, 2) := by decide +kernel
theorem dX10_init_106 : decode cX10_init 106 = .ok (.putfield 48, 3) := by decide +kernel
theorem dX10_init_109 : decode cX10_init 109 = .ok (.aload_n 0, 1) := by decide +kernel
theorem dX10_init_110 : decode cX10_init 110 = .ok (.bipush 14, 2) := by decide +kernel
theorem dX10_init_112 : decode cX10_init 112 = .ok (.newarray .int, 2) := by decide +kernel
theorem dX10_init_114 : decode cX10_init 114 = .ok (.putfield 51, 3) := by decide +kernel
theorem dX10_init_117 : decode cX10_init 117 = .ok (.iconst 0, 1) := by decide +kernel
theorem dX10_init_118 : decode cX10_init 118 = .ok (.istore_n 1, 1) := by decide +kernel
theorem dX10_init_119 : decode cX10_init 119 = .ok (.iload_n 1, 1) := by decide +kernel
theorem dX10_init_120 : decode cX10_init 120 = .ok (.iconst 4, 1) := by decide +kernel
theorem dX10_init_121 : decode cX10_init 121 = .ok (.if_icmp .ge 16, 3) := by decide +kernel
theorem dX10_init_124 : decode cX10_init 124 = .ok (.aload_n 0, 1) := by decide +kernel
theorem dX10_init_125 : decode cX10_init 125 = .ok (.getfield 26, 3) := by decide +kernel
theorem dX10_init_128 : decode cX10_init 128 = .ok (.iload_n 1, 1) := by decide +kernel
theorem dX10_init_129 : decode cX10_init 129 = .ok (.iconst 4, 1) := by decide +kernel
