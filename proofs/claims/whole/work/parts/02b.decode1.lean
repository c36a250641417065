theorem dX0_init_0 : decode cX0_init 0 = .ok (.aload_n 0, 1) := by decide +kernel
theorem dX0_init_1 : decode cX0_init 1 = .ok (.invokespecial 3, 3) := by decide +kernel
theorem dX0_init_4 : decode cX0_init 4 = .ok (.aload_n 0, 1) := by decide +kernel
theorem dX0_init_5 : decode cX0_init 5 = .ok (.aload_n 1, 1) := by decide +kernel
theorem dX0_init_6 : decode cX0_init 6 = .ok (.putfield 9, 3) := by decide +kernel
theorem dX0_init_9 : decode cX0_init 9 = .ok (.aload_n 0, 1) := by decide +kernel
theorem dX0_init_10 : decode cX0_init 10 = .ok (.aload_n 2, 1) := by decide +kernel
theorem dX0_init_11 : decode cX0_init 11 = .ok (.putfield 15, 3) := by decide +kernel
theorem dX0_init_14 : decode cX0_init 14 = .ok (.return_, 1) := by decide +kernel
theorem dX0_writeCode_0 : decode cX0_writeCode 0 = .ok (.aload_n 0, 1) := by decide +kernel
theorem dX0_writeCode_1 : decode cX0_writeCode 1 = .ok (.getfield 15, 3) := by decide +kernel
theorem dX0_writeCode_4 : decode cX0_writeCode 4 = .ok (.invokevirtual 19, 3) := by decide +kernel
theorem dX0_writeCode_7 : decode cX0_writeCode 7 = .ok (.aload_n 0, 1) := by decide +kernel
theorem dX0_writeCode_8 : decode cX0_writeCode 8 = .ok (.iconst 0, 1) := by decide +kernel
theorem dX0_writeCode_9 : decode cX0_writeCode 9 = .ok (.iconst 0, 1) := by decide +kernel
theorem dX0_writeCode_10 : decode cX0_writeCode 10 = .ok (.iconst 0, 1) := by decide +kernel
theorem dX0_writeCode_11 : decode cX0_writeCode 11 = .ok (.invokevirtual 24, 3) := by decide +kernel
theorem dX0_writeCode_14 : decode cX0_writeCode 14 = .ok (.aload_n 0, 1) := by decide +kernel
theorem dX0_writeCode_15 : decode cX0_writeCode 15 = .ok (.getfield 15, 3) := by decide +kernel
theorem dX0_writeCode_18 : decode cX0_writeCode 18 = .ok (.iconst 0, 1) := by decide +kernel
theorem dX0_writeCode_19 : decode cX0_writeCode 19 = .ok (.invokevirtual 28, 3) := by decide +kernel
theorem dX0_writeCode_22 : decode cX0_writeCode 22 = .ok (.return_, 1) := by decide +kernel
theorem dX0_writeStatements_0 : decode cX0_writeStatements 0 = .ok (.iload_n 1, 1) := by decide +kernel
theorem dX0_writeStatements_1 : decode cX0_writeStatements 1 = .ok (.istore 4, 2) := by decide +kernel
theorem dX0_writeStatements_3 : decode cX0_writeStatements 3 = .ok (.iconst 0, 1) := by decide +kernel
theorem dX0_writeStatements_4 : decode cX0_writeStatements 4 = .ok (.istore 5, 2) := by decide +kernel
theorem dX0_writeStatements_6 : decode cX0_writeStatements 6 = .ok (.iload 5, 2) := by decide +kernel
theorem dX0_writeStatements_8 : decode cX0_writeStatements 8 = .ok (.sipush 400, 3) := by decide +kernel
theorem dX0_writeStatements_11 : decode cX0_writeStatements 11 = .ok (.if_icmp .ge 40, 3) := by decide +kernel
theorem dX0_writeStatements_14 : decode cX0_writeStatements 14 = .ok (.aload_n 0, 1) := by decide +kernel
theorem dX0_writeStatements_15 : decode cX0_writeStatements 15 = .ok (.getfield 9, 3) := by decide +kernel
theorem dX0_writeStatements_18 : decode cX0_writeStatements 18 = .ok (.iload 4, 2) := by decide +kernel
theorem dX0_writeStatements_20 : decode cX0_writeStatements 20 = .ok (.invokevirtual 32, 3) := by decide +kernel
theorem dX0_writeStatements_23 : decode cX0_writeStatements 23 = .ok (.ifCond .eq 28, 3) := by decide +kernel
theorem dX0_writeStatements_26 : decode cX0_writeStatements 26 = .ok (.aload_n 0, 1) := by decide +kernel
theorem dX0_writeStatements_27 : decode cX0_writeStatements 27 = .ok (.iload 4, 2) := by decide +kernel
theorem dX0_writeStatements_29 : decode cX0_writeStatements 29 = .ok (.iload_n 2, 1) := by decide +kernel
theorem dX0_writeStatements_30 : decode cX0_writeStatements 30 = .ok (.iload_n 3, 1) := by decide +kernel
theorem dX0_writeStatements_31 : decode cX0_writeStatements 31 = .ok (.invokevirtual 38, 3) := by decide +kernel
theorem dX0_writeStatements_34 : decode cX0_writeStatements 34 = .ok (.aload_n 0, 1) := by decide +kernel
theorem dX0_writeStatements_35 : decode cX0_writeStatements 35 = .ok (.getfield 9, 3) := by decide +kernel
theorem dX0_writeStatements_38 : decode cX0_writeStatements 38 = .ok (.iload 4, 2) := by decide +kernel
theorem dX0_writeStatements_40 : decode cX0_writeStatements 40 = .ok (.invokevirtual 41, 3) := by decide +kernel
theorem dX0_writeStatements_43 : decode cX0_writeStatements 43 = .ok (.istore 4, 2) := by decide +kernel
theorem dX0_writeStatements_45 : decode cX0_writeStatements 45 = .ok (.iinc 5 1, 3) := by decide +kernel
theorem dX0_writeStatements_48 : decode cX0_writeStatements 48 = .ok (.goto (-42), 3) := by decide +kernel
theorem dX0_writeStatements_51 : decode cX0_writeStatements 51 = .ok (.return_, 1) := by decide +kernel
theorem dX0_writeStatement_0 : decode cX0_writeStatement 0 = .ok (.iload_n 2, 1) := by decide +kernel
theorem dX0_writeStatement_1 : decode cX0_writeStatement 1 = .ok (.bipush 12, 2) := by decide +kernel
theorem dX0_writeStatement_3 : decode cX0_writeStatement 3 = .ok (.if_icmp .lt 4, 3) := by decide +kernel
theorem dX0_writeStatement_6 : decode cX0_writeStatement 6 = .ok (.return_, 1) := by decide +kernel
theorem dX0_writeStatement_7 : decode cX0_writeStatement 7 = .ok (.aload_n 0, 1) := by decide +kernel
theorem dX0_writeStatement_8 : decode cX0_writeStatement 8 = .ok (.getfield 9, 3) := by decide +kernel
theorem dX0_writeStatement_11 : decode cX0_writeStatement 11 = .ok (.iload_n 1, 1) := by decide +kernel
theorem dX0_writeStatement_12 : decode cX0_writeStatement 12 = .ok (.invokevirtual 45, 3) := by decide +kernel
theorem dX0_writeStatement_15 : decode cX0_writeStatement 15 = .ok (.tableswitch 85 1 6 #[37, 46, 55, 85, 65, 75], 37) := by decide +kernel
theorem dX0_writeStatement_52 : decode cX0_writeStatement 52 = .ok (.aload_n 0, 1) := by decide +kernel
theorem dX0_writeStatement_53 : decode cX0_writeStatement 53 = .ok (.iload_n 1, 1) := by decide +kernel
theorem dX0_writeStatement_54 : decode cX0_writeStatement 54 = .ok (.iload_n 2, 1) := by decide +kernel
theorem dX0_writeStatement_55 : decode cX0_writeStatement 55 = .ok (.invokevirtual 48, 3) := by decide +kernel
theorem dX0_writeStatement_58 : decode cX0_writeStatement 58 = .ok (.goto 66, 3) := by decide +kernel
theorem dX0_writeStatement_61 : decode cX0_writeStatement 61 = .ok (.aload_n 0, 1) := by decide +kernel
theorem dX0_writeStatement_62 : decode cX0_writeStatement 62 = .ok (.iload_n 1, 1) := by decide +kernel
theorem dX0_writeStatement_63 : decode cX0_writeStatement 63 = .ok (.iload_n 2, 1) := by decide +kernel
theorem dX0_writeStatement_64 : decode cX0_writeStatement 64 = .ok (.invokevirtual 52, 3) := by decide +kernel
theorem dX0_writeStatement_67 : decode cX0_writeStatement 67 = .ok (.goto 57, 3) := by decide +kernel
theorem dX0_writeStatement_70 : decode cX0_writeStatement 70 = .ok (.aload_n 0, 1) := by decide +kernel
theorem dX0_writeStatement_71 : decode cX0_writeStatement 71 = .ok (.iload_n 1, 1) := by decide +kernel
theorem dX0_writeStatement_72 : decode cX0_writeStatement 72 = .ok (.iload_n 2, 1) := by decide +kernel
theorem dX0_writeStatement_73 : decode cX0_writeStatement 73 = .ok (.iload_n 3, 1) := by decide +kernel
theorem dX0_writeStatement_74 : decode cX0_writeStatement 74 = .ok (.invokevirtual 55, 3) := by decide +kernel
theorem dX0_writeStatement_77 : decode cX0_writeStatement 77 = .ok (.goto 47, 3) := by decide +kernel
theorem dX0_writeStatement_80 : decode cX0_writeStatement 80 = .ok (.aload_n 0, 1) := by decide +kernel
theorem dX0_writeStatement_81 : decode cX0_writeStatement 81 = .ok (.iload_n 1, 1) := by decide +kernel
theorem dX0_writeStatement_82 : decode cX0_writeStatement 82 = .ok (.iload_n 2, 1) := by decide +kernel
theorem dX0_writeStatement_83 : decode cX0_writeStatement 83 = .ok (.iload_n 3, 1) := by decide +kernel
theorem dX0_writeStatement_84 : decode cX0_writeStatement 84 = .ok (.invokevirtual 58, 3) := by decide +kernel
theorem dX0_writeStatement_87 : decode cX0_writeStatement 87 = .ok (.goto 37, 3) := by decide +kernel
theorem dX0_writeStatement_90 : decode cX0_writeStatement 90 = .ok (.aload_n 0, 1) := by decide +kernel
theorem dX0_writeStatement_91 : decode cX0_writeStatement 91 = .ok (.iload_n 1, 1) := by decide +kernel
theorem dX0_writeStatement_92 : decode cX0_writeStatement 92 = .ok (.iload_n 2, 1) := by decide +kernel
theorem dX0_writeStatement_93 : decode cX0_writeStatement 93 = .ok (.iload_n 3, 1) := by decide +kernel
theorem dX0_writeStatement_94 : decode cX0_writeStatement 94 = .ok (.invokevirtual 61, 3) := by decide +kernel
theorem dX0_writeStatement_97 : decode cX0_writeStatement 97 = .ok (.goto 27, 3) := by decide +kernel
theorem dX0_writeStatement_100 : decode cX0_writeStatement 100 = .ok (.aload_n 0, 1) := by decide +kernel
theorem dX0_writeStatement_101 : decode cX0_writeStatement 101 = .ok (.aload_n 0, 1) := by decide +kernel
theorem dX0_writeStatement_102 : decode cX0_writeStatement 102 = .ok (.getfield 9, 3) := by decide +kernel
theorem dX0_writeStatement_105 : decode cX0_writeStatement 105 = .ok (.iload_n 1, 1) := by decide +kernel
theorem dX0_writeStatement_106 : decode cX0_writeStatement 106 = .ok (.invokevirtual 64, 3) := by decide +kernel
theorem dX0_writeStatement_109 : decode cX0_writeStatement 109 = .ok (.iload_n 2, 1) := by decide +kernel
theorem dX0_writeStatement_110 : decode cX0_writeStatement 110 = .ok (.iconst 1, 1) := by decide +kernel
theorem dX0_writeStatement_111 : decode cX0_writeStatement 111 = .ok (.iadd, 1) := by decide +kernel
theorem dX0_writeStatement_112 : decode cX0_writeStatement 112 = .ok (.invokevirtual 67, 3) := by decide +kernel
theorem dX0_writeStatement_115 : decode cX0_writeStatement 115 = .ok (.aload_n 0, 1) := by decide +kernel
theorem dX0_writeStatement_116 : decode cX0_writeStatement 116 = .ok (.getfield 15, 3) := by decide +kernel
theorem dX0_writeStatement_119 : decode cX0_writeStatement 119 = .ok (.bipush 20, 2) := by decide +kernel
theorem dX0_writeStatement_121 : decode cX0_writeStatement 121 = .ok (.invokevirtual 28, 3) := by decide +kernel
theorem dX0_writeStatement_124 : decode cX0_writeStatement 124 = .ok (.return_, 1) := by decide +kernel
theorem dX0_writeLet_0 : decode cX0_writeLet 0 = .ok (.aload_n 0, 1) := by decide +kernel
theorem dX0_writeLet_1 : decode cX0_writeLet 1 = .ok (.getfield 9, 3) := by decide +kernel
theorem dX0_writeLet_4 : decode cX0_writeLet 4 = .ok (.iload_n 1, 1) := by decide +kernel
theorem dX0_writeLet_5 : decode cX0_writeLet 5 = .ok (.invokevirtual 70, 3) := by decide +kernel
theorem dX0_writeLet_8 : decode cX0_writeLet 8 = .ok (.istore_n 3, 1) := by decide +kernel
theorem dX0_writeLet_9 : decode cX0_writeLet 9 = .ok (.aload_n 0, 1) := by decide +kernel
theorem dX0_writeLet_10 : decode cX0_writeLet 10 = .ok (.getfield 9, 3) := by decide +kernel
theorem dX0_writeLet_13 : decode cX0_writeLet 13 = .ok (.iload_n 1, 1) := by decide +kernel
theorem dX0_writeLet_14 : decode cX0_writeLet 14 = .ok (.iconst 1, 1) := by decide +kernel
theorem dX0_writeLet_15 : decode cX0_writeLet 15 = .ok (.iadd, 1) := by decide +kernel
theorem dX0_writeLet_16 : decode cX0_writeLet 16 = .ok (.invokevirtual 45, 3) := by decide +kernel
theorem dX0_writeLet_19 : decode cX0_writeLet 19 = .ok (.istore 4, 2) := by decide +kernel
theorem dX0_writeLet_21 : decode cX0_writeLet 21 = .ok (.aload_n 0, 1) := by decide +kernel
theorem dX0_writeLet_22 : decode cX0_writeLet 22 = .ok (.aload_n 0, 1) := by decide +kernel
theorem dX0_writeLet_23 : decode cX0_writeLet 23 = .ok (.getfield 9, 3) := by decide +kernel
theorem dX0_writeLet_26 : decode cX0_writeLet 26 = .ok (.iload_n 1, 1) := by decide +kernel
theorem dX0_writeLet_27 : decode cX0_writeLet 27 = .ok (.invokevirtual 64, 3) := by decide +kernel
theorem dX0_writeLet_30 : decode cX0_writeLet 30 = .ok (.iload_n 2, 1) := by decide +kernel
theorem dX0_writeLet_31 : decode cX0_writeLet 31 = .ok (.iconst 1, 1) := by decide +kernel
theorem dX0_writeLet_32 : decode cX0_writeLet 32 = .ok (.iadd, 1) := by decide +kernel
theorem dX0_writeLet_33 : decode cX0_writeLet 33 = .ok (.invokevirtual 67, 3) := by decide +kernel
theorem dX0_writeLet_36 : decode cX0_writeLet 36 = .ok (.iload_n 3, 1) := by decide +kernel
theorem dX0_writeLet_37 : decode cX0_writeLet 37 = .ok (.ifCond .le 15, 3) := by decide +kernel
theorem dX0_writeLet_40 : decode cX0_writeLet 40 = .ok (.aload_n 0, 1) := by decide +kernel
theorem dX0_writeLet_41 : decode cX0_writeLet 41 = .ok (.bipush 25, 2) := by decide +kernel
theorem dX0_writeLet_43 : decode cX0_writeLet 43 = .ok (.iload_n 3, 1) := by decide +kernel
theorem dX0_writeLet_44 : decode cX0_writeLet 44 = .ok (.iload 4, 2) := by decide +kernel
theorem dX0_writeLet_46 : decode cX0_writeLet 46 = .ok (.invokevirtual 73, 3) := by decide +kernel
theorem dX0_writeLet_49 : decode cX0_writeLet 49 = .ok (.goto 10, 3) := by decide +kernel
theorem dX0_writeLet_52 : decode cX0_writeLet 52 = .ok (.aload_n 0, 1) := by decide +kernel
theorem dX0_writeLet_53 : decode cX0_writeLet 53 = .ok (.iconst 3, 1) := by decide +kernel
theorem dX0_writeLet_54 : decode cX0_writeLet 54 = .ok (.iload 4, 2) := by decide +kernel
theorem dX0_writeLet_56 : decode cX0_writeLet 56 = .ok (.invokevirtual 76, 3) := by decide +kernel
theorem dX0_writeLet_59 : decode cX0_writeLet 59 = .ok (.return_, 1) := by decide +kernel
theorem dX0_writeLay_0 : decode cX0_writeLay 0 = .ok (.aload_n 0, 1) := by decide +kernel
theorem dX0_writeLay_1 : decode cX0_writeLay 1 = .ok (.getfield 9, 3) := by decide +kernel
theorem dX0_writeLay_4 : decode cX0_writeLay 4 = .ok (.iload_n 1, 1) := by decide +kernel
theorem dX0_writeLay_5 : decode cX0_writeLay 5 = .ok (.invokevirtual 70, 3) := by decide +kernel
theorem dX0_writeLay_8 : decode cX0_writeLay 8 = .ok (.istore_n 3, 1) := by decide +kernel
theorem dX0_writeLay_9 : decode cX0_writeLay 9 = .ok (.aload_n 0, 1) := by decide +kernel
theorem dX0_writeLay_10 : decode cX0_writeLay 10 = .ok (.getfield 9, 3) := by decide +kernel
theorem dX0_writeLay_13 : decode cX0_writeLay 13 = .ok (.iload_n 1, 1) := by decide +kernel
theorem dX0_writeLay_14 : decode cX0_writeLay 14 = .ok (.iconst 1, 1) := by decide +kernel
theorem dX0_writeLay_15 : decode cX0_writeLay 15 = .ok (.iadd, 1) := by decide +kernel
theorem dX0_writeLay_16 : decode cX0_writeLay 16 = .ok (.invokevirtual 45, 3) := by decide +kernel
theorem dX0_writeLay_19 : decode cX0_writeLay 19 = .ok (.istore 4, 2) := by decide +kernel
theorem dX0_writeLay_21 : decode cX0_writeLay 21 = .ok (.aload_n 0, 1) := by decide +kernel
theorem dX0_writeLay_22 : decode cX0_writeLay 22 = .ok (.getfield 9, 3) := by decide +kernel
theorem dX0_writeLay_25 : decode cX0_writeLay 25 = .ok (.iload_n 1, 1) := by decide +kernel
theorem dX0_writeLay_26 : decode cX0_writeLay 26 = .ok (.invokevirtual 64, 3) := by decide +kernel
theorem dX0_writeLay_29 : decode cX0_writeLay 29 = .ok (.istore 5, 2) := by decide +kernel
theorem dX0_writeLay_31 : decode cX0_writeLay 31 = .ok (.aload_n 0, 1) := by decide +kernel
theorem dX0_writeLay_32 : decode cX0_writeLay 32 = .ok (.iload 5, 2) := by decide +kernel
theorem dX0_writeLay_34 : decode cX0_writeLay 34 = .ok (.iload_n 2, 1) := by decide +kernel
theorem dX0_writeLay_35 : decode cX0_writeLay 35 = .ok (.iconst 1, 1) := by decide +kernel
theorem dX0_writeLay_36 : decode cX0_writeLay 36 = .ok (.iadd, 1) := by decide +kernel
theorem dX0_writeLay_37 : decode cX0_writeLay 37 = .ok (.invokevirtual 67, 3) := by decide +kernel
theorem dX0_writeLay_40 : decode cX0_writeLay 40 = .ok (.aload_n 0, 1) := by decide +kernel
theorem dX0_writeLay_41 : decode cX0_writeLay 41 = .ok (.aload_n 0, 1) := by decide +kernel
theorem dX0_writeLay_42 : decode cX0_writeLay 42 = .ok (.getfield 9, 3) := by decide +kernel
theorem dX0_writeLay_45 : decode cX0_writeLay 45 = .ok (.iload 5, 2) := by decide +kernel
theorem dX0_writeLay_47 : decode cX0_writeLay 47 = .ok (.invokevirtual 41, 3) := by decide +kernel
theorem dX0_writeLay_50 : decode cX0_writeLay 50 = .ok (.iload_n 2, 1) := by decide +kernel
theorem dX0_writeLay_51 : decode cX0_writeLay 51 = .ok (.iconst 1, 1) := by decide +kernel
theorem dX0_writeLay_52 : decode cX0_writeLay 52 = .ok (.iadd, 1) := by decide +kernel
theorem dX0_writeLay_53 : decode cX0_writeLay 53 = .ok (.invokevirtual 67, 3) := by decide +kernel
theorem dX0_writeLay_56 : decode cX0_writeLay 56 = .ok (.aload_n 0, 1) := by decide +kernel
theorem dX0_writeLay_57 : decode cX0_writeLay 57 = .ok (.getfield 9, 3) := by decide +kernel
theorem dX0_writeLay_60 : decode cX0_writeLay 60 = .ok (.iload 5, 2) := by decide +kernel
theorem dX0_writeLay_62 : decode cX0_writeLay 62 = .ok (.invokevirtual 79, 3) := by decide +kernel
theorem dX0_writeLay_65 : decode cX0_writeLay 65 = .ok (.ifCond .eq 15, 3) := by decide +kernel
theorem dX0_writeLay_68 : decode cX0_writeLay 68 = .ok (.aload_n 0, 1) := by decide +kernel
theorem dX0_writeLay_69 : decode cX0_writeLay 69 = .ok (.bipush 28, 2) := by decide +kernel
theorem dX0_writeLay_71 : decode cX0_writeLay 71 = .ok (.iload_n 3, 1) := by decide +kernel
theorem dX0_writeLay_72 : decode cX0_writeLay 72 = .ok (.iload 4, 2) := by decide +kernel
theorem dX0_writeLay_74 : decode cX0_writeLay 74 = .ok (.invokevirtual 73, 3) := by decide +kernel
theorem dX0_writeLay_77 : decode cX0_writeLay 77 = .ok (.goto 27, 3) := by decide +kernel
theorem dX0_writeLay_80 : decode cX0_writeLay 80 = .ok (.iload_n 3, 1) := by decide +kernel
theorem dX0_writeLay_81 : decode cX0_writeLay 81 = .ok (.ifCond .le 15, 3) := by decide +kernel
theorem dX0_writeLay_84 : decode cX0_writeLay 84 = .ok (.aload_n 0, 1) := by decide +kernel
theorem dX0_writeLay_85 : decode cX0_writeLay 85 = .ok (.bipush 26, 2) := by decide +kernel
theorem dX0_writeLay_87 : decode cX0_writeLay 87 = .ok (.iload_n 3, 1) := by decide +kernel
theorem dX0_writeLay_88 : decode cX0_writeLay 88 = .ok (.iload 4, 2) := by decide +kernel
theorem dX0_writeLay_90 : decode cX0_writeLay 90 = .ok (.invokevirtual 73, 3) := by decide +kernel
theorem dX0_writeLay_93 : decode cX0_writeLay 93 = .ok (.goto 11, 3) := by decide +kernel
theorem dX0_writeLay_96 : decode cX0_writeLay 96 = .ok (.aload_n 0, 1) := by decide +kernel
theorem dX0_writeLay_97 : decode cX0_writeLay 97 = .ok (.bipush 22, 2) := by decide +kernel
theorem dX0_writeLay_99 : decode cX0_writeLay 99 = .ok (.iload 4, 2) := by decide +kernel
theorem dX0_writeLay_101 : decode cX0_writeLay 101 = .ok (.invokevirtual 76, 3) := by decide +kernel
theorem dX0_writeLay_104 : decode cX0_writeLay 104 = .ok (.return_, 1) := by decide +kernel
theorem dX0_writeIf_0 : decode cX0_writeIf 0 = .ok (.aload_n 0, 1) := by decide +kernel
theorem dX0_writeIf_1 : decode cX0_writeIf 1 = .ok (.getfield 9, 3) := by decide +kernel
theorem dX0_writeIf_4 : decode cX0_writeIf 4 = .ok (.iload_n 1, 1) := by decide +kernel
theorem dX0_writeIf_5 : decode cX0_writeIf 5 = .ok (.invokevirtual 64, 3) := by decide +kernel
theorem dX0_writeIf_8 : decode cX0_writeIf 8 = .ok (.istore 4, 2) := by decide +kernel
theorem dX0_writeIf_10 : decode cX0_writeIf 10 = .ok (.aload_n 0, 1) := by decide +kernel
theorem dX0_writeIf_11 : decode cX0_writeIf 11 = .ok (.getfield 9, 3) := by decide +kernel
theorem dX0_writeIf_14 : decode cX0_writeIf 14 = .ok (.iload 4, 2) := by decide +kernel
theorem dX0_writeIf_16 : decode cX0_writeIf 16 = .ok (.invokevirtual 41, 3) := by decide +kernel
theorem dX0_writeIf_19 : decode cX0_writeIf 19 = .ok (.istore 5, 2) := by decide +kernel
theorem dX0_writeIf_21 : decode cX0_writeIf 21 = .ok (.aload_n 0, 1) := by decide +kernel
theorem dX0_writeIf_22 : decode cX0_writeIf 22 = .ok (.getfield 9, 3) := by decide +kernel
theorem dX0_writeIf_25 : decode cX0_writeIf 25 = .ok (.iload 5, 2) := by decide +kernel
theorem dX0_writeIf_27 : decode cX0_writeIf 27 = .ok (.invokevirtual 82, 3) := by decide +kernel
theorem dX0_writeIf_30 : decode cX0_writeIf 30 = .ok (.istore 6, 2) := by decide +kernel
theorem dX0_writeIf_32 : decode cX0_writeIf 32 = .ok (.aload_n 0, 1) := by decide +kernel
theorem dX0_writeIf_33 : decode cX0_writeIf 33 = .ok (.getfield 9, 3) := by decide +kernel
theorem dX0_writeIf_36 : decode cX0_writeIf 36 = .ok (.iload 6, 2) := by decide +kernel
theorem dX0_writeIf_38 : decode cX0_writeIf 38 = .ok (.invokevirtual 45, 3) := by decide +kernel
theorem dX0_writeIf_41 : decode cX0_writeIf 41 = .ok (.iconst 4, 1) := by decide +kernel
theorem dX0_writeIf_42 : decode cX0_writeIf 42 = .ok (.if_icmp .ne 7, 3) := by decide +kernel
theorem dX0_writeIf_45 : decode cX0_writeIf 45 = .ok (.iconst 1, 1) := by decide +kernel
theorem dX0_writeIf_46 : decode cX0_writeIf 46 = .ok (.goto 4, 3) := by decide +kernel
theorem dX0_writeIf_49 : decode cX0_writeIf 49 = .ok (.iconst 0, 1) := by decide +kernel
theorem dX0_writeIf_50 : decode cX0_writeIf 50 = .ok (.istore 7, 2) := by decide +kernel
theorem dX0_writeIf_52 : decode cX0_writeIf 52 = .ok (.aload_n 0, 1) := by decide +kernel
theorem dX0_writeIf_53 : decode cX0_writeIf 53 = .ok (.iload 4, 2) := by decide +kernel
theorem dX0_writeIf_55 : decode cX0_writeIf 55 = .ok (.iload_n 2, 1) := by decide +kernel
theorem dX0_writeIf_56 : decode cX0_writeIf 56 = .ok (.iconst 1, 1) := by decide +kernel
theorem dX0_writeIf_57 : decode cX0_writeIf 57 = .ok (.iadd, 1) := by decide +kernel
theorem dX0_writeIf_58 : decode cX0_writeIf 58 = .ok (.invokevirtual 67, 3) := by decide +kernel
theorem dX0_writeIf_61 : decode cX0_writeIf 61 = .ok (.aload_n 0, 1) := by decide +kernel
theorem dX0_writeIf_62 : decode cX0_writeIf 62 = .ok (.getfield 9, 3) := by decide +kernel
theorem dX0_writeIf_65 : decode cX0_writeIf 65 = .ok (.iload 4, 2) := by decide +kernel
theorem dX0_writeIf_67 : decode cX0_writeIf 67 = .ok (.invokevirtual 79, 3) := by decide +kernel
theorem dX0_writeIf_70 : decode cX0_writeIf 70 = .ok (.ifCond .eq 59, 3) := by decide +kernel
theorem dX0_writeIf_73 : decode cX0_writeIf 73 = .ok (.aload_n 0, 1) := by decide +kernel
theorem dX0_writeIf_74 : decode cX0_writeIf 74 = .ok (.getfield 9, 3) := by decide +kernel
theorem dX0_writeIf_77 : decode cX0_writeIf 77 = .ok (.iload_n 1, 1) := by decide +kernel
theorem dX0_writeIf_78 : decode cX0_writeIf 78 = .ok (.invokevirtual 70, 3) := by decide +kernel
theorem dX0_writeIf_81 : decode cX0_writeIf 81 = .ok (.iconst 1, 1) := by decide +kernel
theorem dX0_writeIf_82 : decode cX0_writeIf 82 = .ok (.iadd, 1) := by decide +kernel
theorem dX0_writeIf_83 : decode cX0_writeIf 83 = .ok (.istore 8, 2) := by decide +kernel
theorem dX0_writeIf_85 : decode cX0_writeIf 85 = .ok (.aload_n 0, 1) := by decide +kernel
theorem dX0_writeIf_86 : decode cX0_writeIf 86 = .ok (.bipush 23, 2) := by decide +kernel
theorem dX0_writeIf_88 : decode cX0_writeIf 88 = .ok (.iload 8, 2) := by decide +kernel
theorem dX0_writeIf_90 : decode cX0_writeIf 90 = .ok (.invokevirtual 76, 3) := by decide +kernel
theorem dX0_writeIf_93 : decode cX0_writeIf 93 = .ok (.aload_n 0, 1) := by decide +kernel
theorem dX0_writeIf_94 : decode cX0_writeIf 94 = .ok (.iload 5, 2) := by decide +kernel
theorem dX0_writeIf_96 : decode cX0_writeIf 96 = .ok (.iload_n 2, 1) := by decide +kernel
theorem dX0_writeIf_97 : decode cX0_writeIf 97 = .ok (.iconst 1, 1) := by decide +kernel
theorem dX0_writeIf_98 : decode cX0_writeIf 98 = .ok (.iadd, 1) := by decide +kernel
theorem dX0_writeIf_99 : decode cX0_writeIf 99 = .ok (.iload_n 3, 1) := by decide +kernel
theorem dX0_writeIf_100 : decode cX0_writeIf 100 = .ok (.invokevirtual 24, 3) := by decide +kernel
theorem dX0_writeIf_103 : decode cX0_writeIf 103 = .ok (.iload 7, 2) := by decide +kernel
theorem dX0_writeIf_105 : decode cX0_writeIf 105 = .ok (.ifCond .eq 23, 3) := by decide +kernel
theorem dX0_writeIf_108 : decode cX0_writeIf 108 = .ok (.aload_n 0, 1) := by decide +kernel
theorem dX0_writeIf_109 : decode cX0_writeIf 109 = .ok (.bipush 24, 2) := by decide +kernel
theorem dX0_writeIf_111 : decode cX0_writeIf 111 = .ok (.iload 8, 2) := by decide +kernel
theorem dX0_writeIf_113 : decode cX0_writeIf 113 = .ok (.invokevirtual 76, 3) := by decide +kernel
theorem dX0_writeIf_116 : decode cX0_writeIf 116 = .ok (.aload_n 0, 1) := by decide +kernel
theorem dX0_writeIf_117 : decode cX0_writeIf 117 = .ok (.iload 6, 2) := by decide +kernel
theorem dX0_writeIf_119 : decode cX0_writeIf 119 = .ok (.iconst 1, 1) := by decide +kernel
theorem dX0_writeIf_120 : decode cX0_writeIf 120 = .ok (.iadd, 1) := by decide +kernel
theorem dX0_writeIf_121 : decode cX0_writeIf 121 = .ok (.iload_n 2, 1) := by decide +kernel
theorem dX0_writeIf_122 : decode cX0_writeIf 122 = .ok (.iconst 1, 1) := by decide +kernel
theorem dX0_writeIf_123 : decode cX0_writeIf 123 = .ok (.iadd, 1) := by decide +kernel
theorem dX0_writeIf_124 : decode cX0_writeIf 124 = .ok (.iload_n 3, 1) := by decide +kernel
theorem dX0_writeIf_125 : decode cX0_writeIf 125 = .ok (.invokevirtual 24, 3) := by decide +kernel
theorem dX0_writeIf_128 : decode cX0_writeIf 128 = .ok (.return_, 1) := by decide +kernel
theorem dX0_writeIf_129 : decode cX0_writeIf 129 = .ok (.aload_n 0, 1) := by decide +kernel
theorem dX0_writeIf_130 : decode cX0_writeIf 130 = .ok (.bipush 19, 2) := by decide +kernel
theorem dX0_writeIf_132 : decode cX0_writeIf 132 = .ok (.invokevirtual 85, 3) := by decide +kernel
theorem dX0_writeIf_135 : decode cX0_writeIf 135 = .ok (.istore 8, 2) := by decide +kernel
theorem dX0_writeIf_137 : decode cX0_writeIf 137 = .ok (.aload_n 0, 1) := by decide +kernel
theorem dX0_writeIf_138 : decode cX0_writeIf 138 = .ok (.iload 5, 2) := by decide +kernel
theorem dX0_writeIf_140 : decode cX0_writeIf 140 = .ok (.iload_n 2, 1) := by decide +kernel
theorem dX0_writeIf_141 : decode cX0_writeIf 141 = .ok (.iconst 1, 1) := by decide +kernel
theorem dX0_writeIf_142 : decode cX0_writeIf 142 = .ok (.iadd, 1) := by decide +kernel
theorem dX0_writeIf_143 : decode cX0_writeIf 143 = .ok (.iload_n 3, 1) := by decide +kernel
theorem dX0_writeIf_144 : decode cX0_writeIf 144 = .ok (.invokevirtual 24, 3) := by decide +kernel
theorem dX0_writeIf_147 : decode cX0_writeIf 147 = .ok (.iload 7, 2) := by decide +kernel
theorem dX0_writeIf_149 : decode cX0_writeIf 149 = .ok (.ifCond .eq 38, 3) := by decide +kernel
theorem dX0_writeIf_152 : decode cX0_writeIf 152 = .ok (.aload_n 0, 1) := by decide +kernel
theorem dX0_writeIf_153 : decode cX0_writeIf 153 = .ok (.bipush 18, 2) := by decide +kernel
theorem dX0_writeIf_155 : decode cX0_writeIf 155 = .ok (.invokevirtual 85, 3) := by decide +kernel
theorem dX0_writeIf_158 : decode cX0_writeIf 158 = .ok (.istore 9, 2) := by decide +kernel
theorem dX0_writeIf_160 : decode cX0_writeIf 160 = .ok (.aload_n 0, 1) := by decide +kernel
theorem dX0_writeIf_161 : decode cX0_writeIf 161 = .ok (.iload 8, 2) := by decide +kernel
theorem dX0_writeIf_163 : decode cX0_writeIf 163 = .ok (.invokevirtual 88, 3) := by decide +kernel
theorem dX0_writeIf_166 : decode cX0_writeIf 166 = .ok (.aload_n 0, 1) := by decide +kernel
theorem dX0_writeIf_167 : decode cX0_writeIf 167 = .ok (.iload 6, 2) := by decide +kernel
theorem dX0_writeIf_169 : decode cX0_writeIf 169 = .ok (.iconst 1, 1) := by decide +kernel
theorem dX0_writeIf_170 : decode cX0_writeIf 170 = .ok (.iadd, 1) := by decide +kernel
theorem dX0_writeIf_171 : decode cX0_writeIf 171 = .ok (.iload_n 2, 1) := by decide +kernel
theorem dX0_writeIf_172 : decode cX0_writeIf 172 = .ok (.iconst 1, 1) := by decide +kernel
theorem dX0_writeIf_173 : decode cX0_writeIf 173 = .ok (.iadd, 1) := by decide +kernel
theorem dX0_writeIf_174 : decode cX0_writeIf 174 = .ok (.iload_n 3, 1) := by decide +kernel
theorem dX0_writeIf_175 : decode cX0_writeIf 175 = .ok (.invokevirtual 24, 3) := by decide +kernel
theorem dX0_writeIf_178 : decode cX0_writeIf 178 = .ok (.aload_n 0, 1) := by decide +kernel
theorem dX0_writeIf_179 : decode cX0_writeIf 179 = .ok (.iload 9, 2) := by decide +kernel
theorem dX0_writeIf_181 : decode cX0_writeIf 181 = .ok (.invokevirtual 88, 3) := by decide +kernel
theorem dX0_writeIf_184 : decode cX0_writeIf 184 = .ok (.goto 9, 3) := by decide +kernel
theorem dX0_writeIf_187 : decode cX0_writeIf 187 = .ok (.aload_n 0, 1) := by decide +kernel
theorem dX0_writeIf_188 : decode cX0_writeIf 188 = .ok (.iload 8, 2) := by decide +kernel
theorem dX0_writeIf_190 : decode cX0_writeIf 190 = .ok (.invokevirtual 88, 3) := by decide +kernel
theorem dX0_writeIf_193 : decode cX0_writeIf 193 = .ok (.return_, 1) := by decide +kernel
theorem dX0_writeWhile_0 : decode cX0_writeWhile 0 = .ok (.aload_n 0, 1) := by decide +kernel
theorem dX0_writeWhile_1 : decode cX0_writeWhile 1 = .ok (.getfield 9, 3) := by decide +kernel
theorem dX0_writeWhile_4 : decode cX0_writeWhile 4 = .ok (.iload_n 1, 1) := by decide +kernel
theorem dX0_writeWhile_5 : decode cX0_writeWhile 5 = .ok (.invokevirtual 64, 3) := by decide +kernel
theorem dX0_writeWhile_8 : decode cX0_writeWhile 8 = .ok (.istore 4, 2) := by decide +kernel
theorem dX0_writeWhile_10 : decode cX0_writeWhile 10 = .ok (.aload_n 0, 1) := by decide +kernel
theorem dX0_writeWhile_11 : decode cX0_writeWhile 11 = .ok (.getfield 15, 3) := by decide +kernel
theorem dX0_writeWhile_14 : decode cX0_writeWhile 14 = .ok (.invokevirtual 91, 3) := by decide +kernel
theorem dX0_writeWhile_17 : decode cX0_writeWhile 17 = .ok (.istore 5, 2) := by decide +kernel
theorem dX0_writeWhile_19 : decode cX0_writeWhile 19 = .ok (.aload_n 0, 1) := by decide +kernel
theorem dX0_writeWhile_20 : decode cX0_writeWhile 20 = .ok (.iload 4, 2) := by decide +kernel
theorem dX0_writeWhile_22 : decode cX0_writeWhile 22 = .ok (.iload_n 2, 1) := by decide +kernel
theorem dX0_writeWhile_23 : decode cX0_writeWhile 23 = .ok (.iconst 1, 1) := by decide +kernel
theorem dX0_writeWhile_24 : decode cX0_writeWhile 24 = .ok (.iadd, 1) := by decide +kernel
theorem dX0_writeWhile_25 : decode cX0_writeWhile 25 = .ok (.invokevirtual 67, 3) := by decide +kernel
theorem dX0_writeWhile_28 : decode cX0_writeWhile 28 = .ok (.aload_n 0, 1) := by decide +kernel
theorem dX0_writeWhile_29 : decode cX0_writeWhile 29 = .ok (.bipush 19, 2) := by decide +kernel
theorem dX0_writeWhile_31 : decode cX0_writeWhile 31 = .ok (.invokevirtual 85, 3) := by decide +kernel
theorem dX0_writeWhile_34 : decode cX0_writeWhile 34 = .ok (.istore 6, 2) := by decide +kernel
theorem dX0_writeWhile_36 : decode cX0_writeWhile 36 = .ok (.aload_n 0, 1) := by decide +kernel
theorem dX0_writeWhile_37 : decode cX0_writeWhile 37 = .ok (.aload_n 0, 1) := by decide +kernel
theorem dX0_writeWhile_38 : decode cX0_writeWhile 38 = .ok (.getfield 9, 3) := by decide +kernel
theorem dX0_writeWhile_41 : decode cX0_writeWhile 41 = .ok (.iload 4, 2) := by decide +kernel
theorem dX0_writeWhile_43 : decode cX0_writeWhile 43 = .ok (.invokevirtual 41, 3) := by decide +kernel
theorem dX0_writeWhile_46 : decode cX0_writeWhile 46 = .ok (.iload_n 2, 1) := by decide +kernel
theorem dX0_writeWhile_47 : decode cX0_writeWhile 47 = .ok (.iconst 1, 1) := by decide +kernel
theorem dX0_writeWhile_48 : decode cX0_writeWhile 48 = .ok (.iadd, 1) := by decide +kernel
theorem dX0_writeWhile_49 : decode cX0_writeWhile 49 = .ok (.iload_n 3, 1) := by decide +kernel
theorem dX0_writeWhile_50 : decode cX0_writeWhile 50 = .ok (.invokevirtual 24, 3) := by decide +kernel
theorem dX0_writeWhile_53 : decode cX0_writeWhile 53 = .ok (.aload_n 0, 1) := by decide +kernel
theorem dX0_writeWhile_54 : decode cX0_writeWhile 54 = .ok (.bipush 18, 2) := by decide +kernel
theorem dX0_writeWhile_56 : decode cX0_writeWhile 56 = .ok (.iload 5, 2) := by decide +kernel
theorem dX0_writeWhile_58 : decode cX0_writeWhile 58 = .ok (.invokevirtual 76, 3) := by decide +kernel
theorem dX0_writeWhile_61 : decode cX0_writeWhile 61 = .ok (.aload_n 0, 1) := by decide +kernel
theorem dX0_writeWhile_62 : decode cX0_writeWhile 62 = .ok (.iload 6, 2) := by decide +kernel
theorem dX0_writeWhile_64 : decode cX0_writeWhile 64 = .ok (.invokevirtual 88, 3) := by decide +kernel
theorem dX0_writeWhile_67 : decode cX0_writeWhile 67 = .ok (.return_, 1) := by decide +kernel
theorem dX0_writeTimes_0 : decode cX0_writeTimes 0 = .ok (.aload_n 0, 1) := by decide +kernel
theorem dX0_writeTimes_1 : decode cX0_writeTimes 1 = .ok (.bipush 29, 2) := by decide +kernel
theorem dX0_writeTimes_3 : decode cX0_writeTimes 3 = .ok (.iload_n 3, 1) := by decide +kernel
theorem dX0_writeTimes_4 : decode cX0_writeTimes 4 = .ok (.invokevirtual 76, 3) := by decide +kernel
theorem dX0_writeTimes_7 : decode cX0_writeTimes 7 = .ok (.aload_n 0, 1) := by decide +kernel
theorem dX0_writeTimes_8 : decode cX0_writeTimes 8 = .ok (.getfield 15, 3) := by decide +kernel
theorem dX0_writeTimes_11 : decode cX0_writeTimes 11 = .ok (.invokevirtual 91, 3) := by decide +kernel
theorem dX0_writeTimes_14 : decode cX0_writeTimes 14 = .ok (.istore 4, 2) := by decide +kernel
theorem dX0_writeTimes_16 : decode cX0_writeTimes 16 = .ok (.aload_n 0, 1) := by decide +kernel
theorem dX0_writeTimes_17 : decode cX0_writeTimes 17 = .ok (.bipush 30, 2) := by decide +kernel
theorem dX0_writeTimes_19 : decode cX0_writeTimes 19 = .ok (.iload_n 3, 1) := by decide +kernel
theorem dX0_writeTimes_20 : decode cX0_writeTimes 20 = .ok (.invokevirtual 76, 3) := by decide +kernel
theorem dX0_writeTimes_23 : decode cX0_writeTimes 23 = .ok (.aload_n 0, 1) := by decide +kernel
theorem dX0_writeTimes_24 : decode cX0_writeTimes 24 = .ok (.iconst 1, 1) := by decide +kernel
theorem dX0_writeTimes_25 : decode cX0_writeTimes 25 = .ok (.aload_n 0, 1) := by decide +kernel
theorem dX0_writeTimes_26 : decode cX0_writeTimes 26 = .ok (.getfield 9, 3) := by decide +kernel
theorem dX0_writeTimes_29 : decode cX0_writeTimes 29 = .ok (.iload_n 1, 1) := by decide +kernel
theorem dX0_writeTimes_30 : decode cX0_writeTimes 30 = .ok (.iconst 1, 1) := by decide +kernel
theorem dX0_writeTimes_31 : decode cX0_writeTimes 31 = .ok (.iadd, 1) := by decide +kernel
theorem dX0_writeTimes_32 : decode cX0_writeTimes 32 = .ok (.invokevirtual 45, 3) := by decide +kernel
theorem dX0_writeTimes_35 : decode cX0_writeTimes 35 = .ok (.invokevirtual 76, 3) := by decide +kernel
theorem dX0_writeTimes_38 : decode cX0_writeTimes 38 = .ok (.aload_n 0, 1) := by decide +kernel
theorem dX0_writeTimes_39 : decode cX0_writeTimes 39 = .ok (.getfield 15, 3) := by decide +kernel
theorem dX0_writeTimes_42 : decode cX0_writeTimes 42 = .ok (.bipush 12, 2) := by decide +kernel
theorem dX0_writeTimes_44 : decode cX0_writeTimes 44 = .ok (.invokevirtual 28, 3) := by decide +kernel
theorem dX0_writeTimes_47 : decode cX0_writeTimes 47 = .ok (.aload_n 0, 1) := by decide +kernel
theorem dX0_writeTimes_48 : decode cX0_writeTimes 48 = .ok (.bipush 19, 2) := by decide +kernel
theorem dX0_writeTimes_50 : decode cX0_writeTimes 50 = .ok (.invokevirtual 85, 3) := by decide +kernel
theorem dX0_writeTimes_53 : decode cX0_writeTimes 53 = .ok (.istore 5, 2) := by decide +kernel
theorem dX0_writeTimes_55 : decode cX0_writeTimes 55 = .ok (.aload_n 0, 1) := by decide +kernel
theorem dX0_writeTimes_56 : decode cX0_writeTimes 56 = .ok (.aload_n 0, 1) := by decide +kernel
theorem dX0_writeTimes_57 : decode cX0_writeTimes 57 = .ok (.getfield 9, 3) := by decide +kernel
theorem dX0_writeTimes_60 : decode cX0_writeTimes 60 = .ok (.iload_n 1, 1) := by decide +kernel
theorem dX0_writeTimes_61 : decode cX0_writeTimes 61 = .ok (.invokevirtual 64, 3) := by decide +kernel
theorem dX0_writeTimes_64 : decode cX0_writeTimes 64 = .ok (.iload_n 2, 1) := by decide +kernel
theorem dX0_writeTimes_65 : decode cX0_writeTimes 65 = .ok (.iconst 1, 1) := by decide +kernel
theorem dX0_writeTimes_66 : decode cX0_writeTimes 66 = .ok (.iadd, 1) := by decide +kernel
theorem dX0_writeTimes_67 : decode cX0_writeTimes 67 = .ok (.iload_n 3, 1) := by decide +kernel
theorem dX0_writeTimes_68 : decode cX0_writeTimes 68 = .ok (.iconst 1, 1) := by decide +kernel
theorem dX0_writeTimes_69 : decode cX0_writeTimes 69 = .ok (.iadd, 1) := by decide +kernel
theorem dX0_writeTimes_70 : decode cX0_writeTimes 70 = .ok (.invokevirtual 24, 3) := by decide +kernel
theorem dX0_writeTimes_73 : decode cX0_writeTimes 73 = .ok (.aload_n 0, 1) := by decide +kernel
theorem dX0_writeTimes_74 : decode cX0_writeTimes 74 = .ok (.bipush 31, 2) := by decide +kernel
theorem dX0_writeTimes_76 : decode cX0_writeTimes 76 = .ok (.iload_n 3, 1) := by decide +kernel
theorem dX0_writeTimes_77 : decode cX0_writeTimes 77 = .ok (.invokevirtual 76, 3) := by decide +kernel
theorem dX0_writeTimes_80 : decode cX0_writeTimes 80 = .ok (.aload_n 0, 1) := by decide +kernel
theorem dX0_writeTimes_81 : decode cX0_writeTimes 81 = .ok (.bipush 18, 2) := by decide +kernel
theorem dX0_writeTimes_83 : decode cX0_writeTimes 83 = .ok (.iload 4, 2) := by decide +kernel
theorem dX0_writeTimes_85 : decode cX0_writeTimes 85 = .ok (.invokevirtual 76, 3) := by decide +kernel
theorem dX0_writeTimes_88 : decode cX0_writeTimes 88 = .ok (.aload_n 0, 1) := by decide +kernel
theorem dX0_writeTimes_89 : decode cX0_writeTimes 89 = .ok (.iload 5, 2) := by decide +kernel
theorem dX0_writeTimes_91 : decode cX0_writeTimes 91 = .ok (.invokevirtual 88, 3) := by decide +kernel
theorem dX0_writeTimes_94 : decode cX0_writeTimes 94 = .ok (.return_, 1) := by decide +kernel
theorem dX0_writeExpression_0 : decode cX0_writeExpression 0 = .ok (.iload_n 2, 1) := by decide +kernel
theorem dX0_writeExpression_1 : decode cX0_writeExpression 1 = .ok (.bipush 12, 2) := by decide +kernel
theorem dX0_writeExpression_3 : decode cX0_writeExpression 3 = .ok (.if_icmp .lt 4, 3) := by decide +kernel
theorem dX0_writeExpression_6 : decode cX0_writeExpression 6 = .ok (.return_, 1) := by decide +kernel
theorem dX0_writeExpression_7 : decode cX0_writeExpression 7 = .ok (.aload_n 0, 1) := by decide +kernel
theorem dX0_writeExpression_8 : decode cX0_writeExpression 8 = .ok (.getfield 9, 3) := by decide +kernel
theorem dX0_writeExpression_11 : decode cX0_writeExpression 11 = .ok (.iload_n 1, 1) := by decide +kernel
theorem dX0_writeExpression_12 : decode cX0_writeExpression 12 = .ok (.invokevirtual 45, 3) := by decide +kernel
theorem dX0_writeExpression_15 : decode cX0_writeExpression 15 = .ok (.istore_n 3, 1) := by decide +kernel
theorem dX0_writeExpression_16 : decode cX0_writeExpression 16 = .ok (.aload_n 0, 1) := by decide +kernel
theorem dX0_writeExpression_17 : decode cX0_writeExpression 17 = .ok (.getfield 9, 3) := by decide +kernel
theorem dX0_writeExpression_20 : decode cX0_writeExpression 20 = .ok (.iload_n 1, 1) := by decide +kernel
theorem dX0_writeExpression_21 : decode cX0_writeExpression 21 = .ok (.invokevirtual 64, 3) := by decide +kernel
theorem dX0_writeExpression_24 : decode cX0_writeExpression 24 = .ok (.istore 4, 2) := by decide +kernel
theorem dX0_writeExpression_26 : decode cX0_writeExpression 26 = .ok (.iload_n 3, 1) := by decide +kernel
theorem dX0_writeExpression_27 : decode cX0_writeExpression 27 = .ok (.invokestatic 95, 3) := by decide +kernel
theorem dX0_writeExpression_30 : decode cX0_writeExpression 30 = .ok (.istore 5, 2) := by decide +kernel
theorem dX0_writeExpression_32 : decode cX0_writeExpression 32 = .ok (.iload 4, 2) := by decide +kernel
theorem dX0_writeExpression_34 : decode cX0_writeExpression 34 = .ok (.istore 6, 2) := by decide +kernel
theorem dX0_writeExpression_36 : decode cX0_writeExpression 36 = .ok (.iconst 0, 1) := by decide +kernel
theorem dX0_writeExpression_37 : decode cX0_writeExpression 37 = .ok (.istore 7, 2) := by decide +kernel
theorem dX0_writeExpression_39 : decode cX0_writeExpression 39 = .ok (.iload 7, 2) := by decide +kernel
theorem dX0_writeExpression_41 : decode cX0_writeExpression 41 = .ok (.iload 5, 2) := by decide +kernel
theorem dX0_writeExpression_43 : decode cX0_writeExpression 43 = .ok (.if_icmp .ge 29, 3) := by decide +kernel
theorem dX0_writeExpression_46 : decode cX0_writeExpression 46 = .ok (.aload_n 0, 1) := by decide +kernel
theorem dX0_writeExpression_47 : decode cX0_writeExpression 47 = .ok (.iload 6, 2) := by decide +kernel
theorem dX0_writeExpression_49 : decode cX0_writeExpression 49 = .ok (.iload_n 2, 1) := by decide +kernel
theorem dX0_writeExpression_50 : decode cX0_writeExpression 50 = .ok (.iconst 1, 1) := by decide +kernel
theorem dX0_writeExpression_51 : decode cX0_writeExpression 51 = .ok (.iadd, 1) := by decide +kernel
theorem dX0_writeExpression_52 : decode cX0_writeExpression 52 = .ok (.invokevirtual 67, 3) := by decide +kernel
theorem dX0_writeExpression_55 : decode cX0_writeExpression 55 = .ok (.aload_n 0, 1) := by decide +kernel
theorem dX0_writeExpression_56 : decode cX0_writeExpression 56 = .ok (.getfield 9, 3) := by decide +kernel
theorem dX0_writeExpression_59 : decode cX0_writeExpression 59 = .ok (.iload 6, 2) := by decide +kernel
theorem dX0_writeExpression_61 : decode cX0_writeExpression 61 = .ok (.invokevirtual 41, 3) := by decide +kernel
theorem dX0_writeExpression_64 : decode cX0_writeExpression 64 = .ok (.istore 6, 2) := by decide +kernel
theorem dX0_writeExpression_66 : decode cX0_writeExpression 66 = .ok (.iinc 7 1, 3) := by decide +kernel
theorem dX0_writeExpression_69 : decode cX0_writeExpression 69 = .ok (.goto (-30), 3) := by decide +kernel
theorem dX0_writeExpression_72 : decode cX0_writeExpression 72 = .ok (.iload_n 3, 1) := by decide +kernel
theorem dX0_writeExpression_73 : decode cX0_writeExpression 73 = .ok (.lookupswitch 127 #[(20, 43), (21, 61), (35, 79), (36, 115)], 43) := by decide +kernel
theorem dX0_writeExpression_116 : decode cX0_writeExpression 116 = .ok (.aload_n 0, 1) := by decide +kernel
theorem dX0_writeExpression_117 : decode cX0_writeExpression 117 = .ok (.iconst 1, 1) := by decide +kernel
theorem dX0_writeExpression_118 : decode cX0_writeExpression 118 = .ok (.aload_n 0, 1) := by decide +kernel
theorem dX0_writeExpression_119 : decode cX0_writeExpression 119 = .ok (.getfield 9, 3) := by decide +kernel
theorem dX0_writeExpression_122 : decode cX0_writeExpression 122 = .ok (.iload_n 1, 1) := by decide +kernel
theorem dX0_writeExpression_123 : decode cX0_writeExpression 123 = .ok (.iconst 1, 1) := by decide +kernel
theorem dX0_writeExpression_124 : decode cX0_writeExpression 124 = .ok (.iadd, 1) := by decide +kernel
theorem dX0_writeExpression_125 : decode cX0_writeExpression 125 = .ok (.invokevirtual 45, 3) := by decide +kernel
theorem dX0_writeExpression_128 : decode cX0_writeExpression 128 = .ok (.invokevirtual 76, 3) := by decide +kernel
theorem dX0_writeExpression_131 : decode cX0_writeExpression 131 = .ok (.goto 80, 3) := by decide +kernel
theorem dX0_writeExpression_134 : decode cX0_writeExpression 134 = .ok (.aload_n 0, 1) := by decide +kernel
theorem dX0_writeExpression_135 : decode cX0_writeExpression 135 = .ok (.iconst 2, 1) := by decide +kernel
theorem dX0_writeExpression_136 : decode cX0_writeExpression 136 = .ok (.aload_n 0, 1) := by decide +kernel
theorem dX0_writeExpression_137 : decode cX0_writeExpression 137 = .ok (.getfield 9, 3) := by decide +kernel
theorem dX0_writeExpression_140 : decode cX0_writeExpression 140 = .ok (.iload_n 1, 1) := by decide +kernel
theorem dX0_writeExpression_141 : decode cX0_writeExpression 141 = .ok (.iconst 1, 1) := by decide +kernel
theorem dX0_writeExpression_142 : decode cX0_writeExpression 142 = .ok (.iadd, 1) := by decide +kernel
theorem dX0_writeExpression_143 : decode cX0_writeExpression 143 = .ok (.invokevirtual 45, 3) := by decide +kernel
theorem dX0_writeExpression_146 : decode cX0_writeExpression 146 = .ok (.invokevirtual 76, 3) := by decide +kernel
theorem dX0_writeExpression_149 : decode cX0_writeExpression 149 = .ok (.goto 62, 3) := by decide +kernel
theorem dX0_writeExpression_152 : decode cX0_writeExpression 152 = .ok (.aload_n 0, 1) := by decide +kernel
theorem dX0_writeExpression_153 : decode cX0_writeExpression 153 = .ok (.aload_n 0, 1) := by decide +kernel
theorem dX0_writeExpression_154 : decode cX0_writeExpression 154 = .ok (.getfield 9, 3) := by decide +kernel
theorem dX0_writeExpression_157 : decode cX0_writeExpression 157 = .ok (.iload 4, 2) := by decide +kernel
theorem dX0_writeExpression_159 : decode cX0_writeExpression 159 = .ok (.invokevirtual 79, 3) := by decide +kernel
theorem dX0_writeExpression_162 : decode cX0_writeExpression 162 = .ok (.ifCond .eq 8, 3) := by decide +kernel
theorem dX0_writeExpression_165 : decode cX0_writeExpression 165 = .ok (.bipush 27, 2) := by decide +kernel
theorem dX0_writeExpression_167 : decode cX0_writeExpression 167 = .ok (.goto 5, 3) := by decide +kernel
theorem dX0_writeExpression_170 : decode cX0_writeExpression 170 = .ok (.bipush 21, 2) := by decide +kernel
theorem dX0_writeExpression_172 : decode cX0_writeExpression 172 = .ok (.aload_n 0, 1) := by decide +kernel
theorem dX0_writeExpression_173 : decode cX0_writeExpression 173 = .ok (.getfield 9, 3) := by decide +kernel
theorem dX0_writeExpression_176 : decode cX0_writeExpression 176 = .ok (.iload_n 1, 1) := by decide +kernel
theorem dX0_writeExpression_177 : decode cX0_writeExpression 177 = .ok (.iconst 1, 1) := by decide +kernel
theorem dX0_writeExpression_178 : decode cX0_writeExpression 178 = .ok (.iadd, 1) := by decide +kernel
theorem dX0_writeExpression_179 : decode cX0_writeExpression 179 = .ok (.invokevirtual 45, 3) := by decide +kernel
theorem dX0_writeExpression_182 : decode cX0_writeExpression 182 = .ok (.invokevirtual 76, 3) := by decide +kernel
theorem dX0_writeExpression_185 : decode cX0_writeExpression 185 = .ok (.goto 26, 3) := by decide +kernel
theorem dX0_writeExpression_188 : decode cX0_writeExpression 188 = .ok (.aload_n 0, 1) := by decide +kernel
theorem dX0_writeExpression_189 : decode cX0_writeExpression 189 = .ok (.getfield 15, 3) := by decide +kernel
theorem dX0_writeExpression_192 : decode cX0_writeExpression 192 = .ok (.bipush 17, 2) := by decide +kernel
theorem dX0_writeExpression_194 : decode cX0_writeExpression 194 = .ok (.invokevirtual 28, 3) := by decide +kernel
theorem dX0_writeExpression_197 : decode cX0_writeExpression 197 = .ok (.goto 14, 3) := by decide +kernel
theorem dX0_writeExpression_200 : decode cX0_writeExpression 200 = .ok (.aload_n 0, 1) := by decide +kernel
theorem dX0_writeExpression_201 : decode cX0_writeExpression 201 = .ok (.getfield 15, 3) := by decide +kernel
theorem dX0_writeExpression_204 : decode cX0_writeExpression 204 = .ok (.iload_n 3, 1) := by decide +kernel
theorem dX0_writeExpression_205 : decode cX0_writeExpression 205 = .ok (.bipush 18, 2) := by decide +kernel
theorem dX0_writeExpression_207 : decode cX0_writeExpression 207 = .ok (.isub, 1) := by decide +kernel
theorem dX0_writeExpression_208 : decode cX0_writeExpression 208 = .ok (.invokevirtual 28, 3) := by decide +kernel
theorem dX0_writeExpression_211 : decode cX0_writeExpression 211 = .ok (.return_, 1) := by decide +kernel
theorem dX0_write_0 : decode cX0_write 0 = .ok (.aload_n 0, 1) := by decide +kernel
theorem dX0_write_1 : decode cX0_write 1 = .ok (.getfield 15, 3) := by decide +kernel
theorem dX0_write_4 : decode cX0_write 4 = .ok (.iload_n 1, 1) := by decide +kernel
theorem dX0_write_5 : decode cX0_write 5 = .ok (.invokevirtual 28, 3) := by decide +kernel
theorem dX0_write_8 : decode cX0_write 8 = .ok (.aload_n 0, 1) := by decide +kernel
theorem dX0_write_9 : decode cX0_write 9 = .ok (.getfield 15, 3) := by decide +kernel
theorem dX0_write_12 : decode cX0_write 12 = .ok (.iload_n 2, 1) := by decide +kernel
theorem dX0_write_13 : decode cX0_write 13 = .ok (.invokevirtual 28, 3) := by decide +kernel
theorem dX0_write_16 : decode cX0_write 16 = .ok (.return_, 1) := by decide +kernel
theorem dX0_writeMasked_0 : decode cX0_writeMasked 0 = .ok (.aload_n 0, 1) := by decide +kernel
theorem dX0_writeMasked_1 : decode cX0_writeMasked 1 = .ok (.getfield 15, 3) := by decide +kernel
theorem dX0_writeMasked_4 : decode cX0_writeMasked 4 = .ok (.iload_n 1, 1) := by decide +kernel
theorem dX0_writeMasked_5 : decode cX0_writeMasked 5 = .ok (.invokevirtual 28, 3) := by decide +kernel
theorem dX0_writeMasked_8 : decode cX0_writeMasked 8 = .ok (.aload_n 0, 1) := by decide +kernel
theorem dX0_writeMasked_9 : decode cX0_writeMasked 9 = .ok (.getfield 15, 3) := by decide +kernel
theorem dX0_writeMasked_12 : decode cX0_writeMasked 12 = .ok (.iload_n 2, 1) := by decide +kernel
theorem dX0_writeMasked_13 : decode cX0_writeMasked 13 = .ok (.invokevirtual 28, 3) := by decide +kernel
theorem dX0_writeMasked_16 : decode cX0_writeMasked 16 = .ok (.aload_n 0, 1) := by decide +kernel
theorem dX0_writeMasked_17 : decode cX0_writeMasked 17 = .ok (.getfield 15, 3) := by decide +kernel
theorem dX0_writeMasked_20 : decode cX0_writeMasked 20 = .ok (.iload_n 3, 1) := by decide +kernel
theorem dX0_writeMasked_21 : decode cX0_writeMasked 21 = .ok (.invokevirtual 28, 3) := by decide +kernel
theorem dX0_writeMasked_24 : decode cX0_writeMasked 24 = .ok (.return_, 1) := by decide +kernel
theorem dX0_writeJump_0 : decode cX0_writeJump 0 = .ok (.aload_n 0, 1) := by decide +kernel
theorem dX0_writeJump_1 : decode cX0_writeJump 1 = .ok (.iload_n 1, 1) := by decide +kernel
theorem dX0_writeJump_2 : decode cX0_writeJump 2 = .ok (.iconst 0, 1) := by decide +kernel
theorem dX0_writeJump_3 : decode cX0_writeJump 3 = .ok (.invokevirtual 76, 3) := by decide +kernel
theorem dX0_writeJump_6 : decode cX0_writeJump 6 = .ok (.aload_n 0, 1) := by decide +kernel
theorem dX0_writeJump_7 : decode cX0_writeJump 7 = .ok (.getfield 15, 3) := by decide +kernel
theorem dX0_writeJump_10 : decode cX0_writeJump 10 = .ok (.invokevirtual 91, 3) := by decide +kernel
theorem dX0_writeJump_13 : decode cX0_writeJump 13 = .ok (.iconst 1, 1) := by decide +kernel
theorem dX0_writeJump_14 : decode cX0_writeJump 14 = .ok (.isub, 1) := by decide +kernel
theorem dX0_writeJump_15 : decode cX0_writeJump 15 = .ok (.ireturn, 1) := by decide +kernel
theorem dX0_land_0 : decode cX0_land 0 = .ok (.aload_n 0, 1) := by decide +kernel
theorem dX0_land_1 : decode cX0_land 1 = .ok (.getfield 15, 3) := by decide +kernel
theorem dX0_land_4 : decode cX0_land 4 = .ok (.iload_n 1, 1) := by decide +kernel
theorem dX0_land_5 : decode cX0_land 5 = .ok (.aload_n 0, 1) := by decide +kernel
theorem dX0_land_6 : decode cX0_land 6 = .ok (.getfield 15, 3) := by decide +kernel
theorem dX0_land_9 : decode cX0_land 9 = .ok (.invokevirtual 91, 3) := by decide +kernel
theorem dX0_land_12 : decode cX0_land 12 = .ok (.invokevirtual 100, 3) := by decide +kernel
theorem dX0_land_15 : decode cX0_land 15 = .ok (.return_, 1) := by decide +kernel
theorem dX1_init_0 : decode cX1_init 0 = .ok (.aload_n 0, 1) := by decide +kernel
theorem dX1_init_1 : decode cX1_init 1 = .ok (.invokespecial 3, 3) := by decide +kernel
theorem dX1_init_4 : decode cX1_init 4 = .ok (.aload_n 0, 1) := by decide +kernel
theorem dX1_init_5 : decode cX1_init 5 = .ok (.aload_n 1, 1) := by decide +kernel
theorem dX1_init_6 : decode cX1_init 6 = .ok (.putfield 9, 3) := by decide +kernel
theorem dX1_init_9 : decode cX1_init 9 = .ok (.aload_n 0, 1) := by decide +kernel
theorem dX1_init_10 : decode cX1_init 10 = .ok (.aload_n 2, 1) := by decide +kernel
theorem dX1_init_11 : decode cX1_init 11 = .ok (.putfield 15, 3) := by decide +kernel
theorem dX1_init_14 : decode cX1_init 14 = .ok (.aload_n 0, 1) := by decide +kernel
theorem dX1_init_15 : decode cX1_init 15 = .ok (.aload_n 3, 1) := by decide +kernel
theorem dX1_init_16 : decode cX1_init 16 = .ok (.putfield 19, 3) := by decide +kernel
theorem dX1_init_19 : decode cX1_init 19 = .ok (.aload_n 0, 1) := by decide +kernel
theorem dX1_init_20 : decode cX1_init 20 = .ok (.aload 4, 2) := by decide +kernel
theorem dX1_init_22 : decode cX1_init 22 = .ok (.putfield 22, 3) := by decide +kernel
theorem dX1_init_25 : decode cX1_init 25 = .ok (.aload_n 0, 1) := by decide +kernel
theorem dX1_init_26 : decode cX1_init 26 = .ok (.bipush 64, 2) := by decide +kernel
theorem dX1_init_28 : decode cX1_init 28 = .ok (.newarray .int, 2) := by decide +kernel
theorem dX1_init_30 : decode cX1_init 30 = .ok (.putfield 26, 3) := by decide +kernel
theorem dX1_init_33 : decode cX1_init 33 = .ok (.aload_n 0, 1) := by decide +kernel
theorem dX1_init_34 : decode cX1_init 34 = .ok (.bipush 13, 2) := by decide +kernel
theorem dX1_init_36 : decode cX1_init 36 = .ok (.newarray .int, 2) := by decide +kernel
theorem dX1_init_38 : decode cX1_init 38 = .ok (.putfield 30, 3) := by decide +kernel
theorem dX1_init_41 : decode cX1_init 41 = .ok (.aload_n 0, 1) := by decide +kernel
theorem dX1_init_42 : decode cX1_init 42 = .ok (.bipush 12, 2) := by decide +kernel
theorem dX1_init_44 : decode cX1_init 44 = .ok (.newarray .int, 2) := by decide +kernel
theorem dX1_init_46 : decode cX1_init 46 = .ok (.putfield 33, 3) := by decide +kernel
theorem dX1_init_49 : decode cX1_init 49 = .ok (.aload_n 0, 1) := by decide +kernel
theorem dX1_init_50 : decode cX1_init 50 = .ok (.getfield 30, 3) := by decide +kernel
theorem dX1_init_53 : decode cX1_init 53 = .ok (.iconst 0, 1) := by decide +kernel
theorem dX1_init_54 : decode cX1_init 54 = .ok (.iconst (-1), 1) := by decide +kernel
theorem dX1_init_55 : decode cX1_init 55 = .ok (.iastore, 1) := by decide +kernel
theorem dX1_init_56 : decode cX1_init 56 = .ok (.return_, 1) := by decide +kernel
theorem dX1_runCode_0 : decode cX1_runCode 0 = .ok (.aload_n 0, 1) := by decide +kernel
theorem dX1_runCode_1 : decode cX1_runCode 1 = .ok (.getfield 19, 3) := by decide +kernel
theorem dX1_runCode_4 : decode cX1_runCode 4 = .ok (.invokevirtual 36, 3) := by decide +kernel
theorem dX1_runCode_7 : decode cX1_runCode 7 = .ok (.aload_n 0, 1) := by decide +kernel
theorem dX1_runCode_8 : decode cX1_runCode 8 = .ok (.getfield 22, 3) := by decide +kernel
theorem dX1_runCode_11 : decode cX1_runCode 11 = .ok (.invokevirtual 41, 3) := by decide +kernel
theorem dX1_runCode_14 : decode cX1_runCode 14 = .ok (.aload_n 0, 1) := by decide +kernel
theorem dX1_runCode_15 : decode cX1_runCode 15 = .ok (.iconst 0, 1) := by decide +kernel
theorem dX1_runCode_16 : decode cX1_runCode 16 = .ok (.putfield 44, 3) := by decide +kernel
theorem dX1_runCode_19 : decode cX1_runCode 19 = .ok (.aload_n 0, 1) := by decide +kernel
theorem dX1_runCode_20 : decode cX1_runCode 20 = .ok (.iconst 0, 1) := by decide +kernel
theorem dX1_runCode_21 : decode cX1_runCode 21 = .ok (.putfield 48, 3) := by decide +kernel
theorem dX1_runCode_24 : decode cX1_runCode 24 = .ok (.iconst 1, 1) := by decide +kernel
theorem dX1_runCode_25 : decode cX1_runCode 25 = .ok (.istore_n 1, 1) := by decide +kernel
theorem dX1_runCode_26 : decode cX1_runCode 26 = .ok (.iload_n 1, 1) := by decide +kernel
theorem dX1_runCode_27 : decode cX1_runCode 27 = .ok (.sipush 20000, 3) := by decide +kernel
theorem dX1_runCode_30 : decode cX1_runCode 30 = .ok (.if_icmp .gt 50, 3) := by decide +kernel
theorem dX1_runCode_33 : decode cX1_runCode 33 = .ok (.aload_n 0, 1) := by decide +kernel
theorem dX1_runCode_34 : decode cX1_runCode 34 = .ok (.getfield 9, 3) := by decide +kernel
theorem dX1_runCode_37 : decode cX1_runCode 37 = .ok (.aload_n 0, 1) := by decide +kernel
theorem dX1_runCode_38 : decode cX1_runCode 38 = .ok (.getfield 48, 3) := by decide +kernel
theorem dX1_runCode_41 : decode cX1_runCode 41 = .ok (.iconst 0, 1) := by decide +kernel
theorem dX1_runCode_42 : decode cX1_runCode 42 = .ok (.invokevirtual 51, 3) := by decide +kernel
theorem dX1_runCode_45 : decode cX1_runCode 45 = .ok (.istore_n 2, 1) := by decide +kernel
theorem dX1_runCode_46 : decode cX1_runCode 46 = .ok (.aload_n 0, 1) := by decide +kernel
theorem dX1_runCode_47 : decode cX1_runCode 47 = .ok (.getfield 22, 3) := by decide +kernel
theorem dX1_runCode_50 : decode cX1_runCode 50 = .ok (.aload_n 0, 1) := by decide +kernel
theorem dX1_runCode_51 : decode cX1_runCode 51 = .ok (.getfield 48, 3) := by decide +kernel
theorem dX1_runCode_54 : decode cX1_runCode 54 = .ok (.invokevirtual 55, 3) := by decide +kernel
theorem dX1_runCode_57 : decode cX1_runCode 57 = .ok (.iload_n 2, 1) := by decide +kernel
theorem dX1_runCode_58 : decode cX1_runCode 58 = .ok (.ifCond .ne 5, 3) := by decide +kernel
theorem dX1_runCode_61 : decode cX1_runCode 61 = .ok (.iload_n 1, 1) := by decide +kernel
theorem dX1_runCode_62 : decode cX1_runCode 62 = .ok (.ireturn, 1) := by decide +kernel
theorem dX1_runCode_63 : decode cX1_runCode 63 = .ok (.aload_n 0, 1) := by decide +kernel
theorem dX1_runCode_64 : decode cX1_runCode 64 = .ok (.iload_n 2, 1) := by decide +kernel
theorem dX1_runCode_65 : decode cX1_runCode 65 = .ok (.invokevirtual 59, 3) := by decide +kernel
theorem dX1_runCode_68 : decode cX1_runCode 68 = .ok (.ifCond .ne 6, 3) := by decide +kernel
theorem dX1_runCode_71 : decode cX1_runCode 71 = .ok (.bipush (-5), 2) := by decide +kernel
theorem dX1_runCode_73 : decode cX1_runCode 73 = .ok (.ireturn, 1) := by decide +kernel
theorem dX1_runCode_74 : decode cX1_runCode 74 = .ok (.iinc 1 1, 3) := by decide +kernel
theorem dX1_runCode_77 : decode cX1_runCode 77 = .ok (.goto (-51), 3) := by decide +kernel
theorem dX1_runCode_80 : decode cX1_runCode 80 = .ok (.bipush (-4), 2) := by decide +kernel
theorem dX1_runCode_82 : decode cX1_runCode 82 = .ok (.ireturn, 1) := by decide +kernel
theorem dX1_step_0 : decode cX1_step 0 = .ok (.aload_n 0, 1) := by decide +kernel
theorem dX1_step_1 : decode cX1_step 1 = .ok (.getfield 9, 3) := by decide +kernel
theorem dX1_step_4 : decode cX1_step 4 = .ok (.aload_n 0, 1) := by decide +kernel
theorem dX1_step_5 : decode cX1_step 5 = .ok (.getfield 48, 3) := by decide +kernel
theorem dX1_step_8 : decode cX1_step 8 = .ok (.iconst 1, 1) := by decide +kernel
theorem dX1_step_9 : decode cX1_step 9 = .ok (.iadd, 1) := by decide +kernel
theorem dX1_step_10 : decode cX1_step 10 = .ok (.iconst 0, 1) := by decide +kernel
theorem dX1_step_11 : decode cX1_step 11 = .ok (.invokevirtual 51, 3) := by decide +kernel
theorem dX1_step_14 : decode cX1_step 14 = .ok (.istore_n 2, 1) := by decide +kernel
theorem dX1_step_15 : decode cX1_step 15 = .ok (.aload_n 0, 1) := by decide +kernel
theorem dX1_step_16 : decode cX1_step 16 = .ok (.getfield 9, 3) := by decide +kernel
theorem dX1_step_19 : decode cX1_step 19 = .ok (.aload_n 0, 1) := by decide +kernel
theorem dX1_step_20 : decode cX1_step 20 = .ok (.getfield 48, 3) := by decide +kernel
theorem dX1_step_23 : decode cX1_step 23 = .ok (.iconst 2, 1) := by decide +kernel
theorem dX1_step_24 : decode cX1_step 24 = .ok (.iadd, 1) := by decide +kernel
theorem dX1_step_25 : decode cX1_step 25 = .ok (.iconst 0, 1) := by decide +kernel
theorem dX1_step_26 : decode cX1_step 26 = .ok (.invokevirtual 51, 3) := by decide +kernel
theorem dX1_step_29 : decode cX1_step 29 = .ok (.istore_n 3, 1) := by decide +kernel
theorem dX1_step_30 : decode cX1_step 30 = .ok (.aload_n 0, 1) := by decide +kernel
theorem dX1_step_31 : decode cX1_step 31 = .ok (.dup, 1) := by decide +kernel
theorem dX1_step_32 : decode cX1_step 32 = .ok (.getfield 48, 3) := by decide +kernel
theorem dX1_step_35 : decode cX1_step 35 = .ok (.iload_n 1, 1) := by decide +kernel
theorem dX1_step_36 : decode cX1_step 36 = .ok (.ifCond .lt 19, 3) := by decide +kernel
theorem dX1_step_39 : decode cX1_step 39 = .ok (.iload_n 1, 1) := by decide +kernel
theorem dX1_step_40 : decode cX1_step 40 = .ok (.getstatic 63, 3) := by decide +kernel
theorem dX1_step_43 : decode cX1_step 43 = .ok (.arraylength, 1) := by decide +kernel
theorem dX1_step_44 : decode cX1_step 44 = .ok (.if_icmp .ge 11, 3) := by decide +kernel
theorem dX1_step_47 : decode cX1_step 47 = .ok (.getstatic 63, 3) := by decide +kernel
theorem dX1_step_50 : decode cX1_step 50 = .ok (.iload_n 1, 1) := by decide +kernel
theorem dX1_step_51 : decode cX1_step 51 = .ok (.iaload, 1) := by decide +kernel
theorem dX1_step_52 : decode cX1_step 52 = .ok (.goto 4, 3) := by decide +kernel
theorem dX1_step_55 : decode cX1_step 55 = .ok (.iconst 1, 1) := by decide +kernel
theorem dX1_step_56 : decode cX1_step 56 = .ok (.iadd, 1) := by decide +kernel
theorem dX1_step_57 : decode cX1_step 57 = .ok (.putfield 48, 3) := by decide +kernel
theorem dX1_step_60 : decode cX1_step 60 = .ok (.iload_n 1, 1) := by decide +kernel
theorem dX1_step_61 : decode cX1_step 61 = .ok (.iconst 4, 1) := by decide +kernel
theorem dX1_step_62 : decode cX1_step 62 = .ok (.if_icmp .lt 15, 3) := by decide +kernel
theorem dX1_step_65 : decode cX1_step 65 = .ok (.iload_n 1, 1) := by decide +kernel
theorem dX1_step_66 : decode cX1_step 66 = .ok (.bipush 16, 2) := by decide +kernel
theorem dX1_step_68 : decode cX1_step 68 = .ok (.if_icmp .gt 9, 3) := by decide +kernel
theorem dX1_step_71 : decode cX1_step 71 = .ok (.aload_n 0, 1) := by decide +kernel
theorem dX1_step_72 : decode cX1_step 72 = .ok (.iload_n 1, 1) := by decide +kernel
theorem dX1_step_73 : decode cX1_step 73 = .ok (.invokevirtual 66, 3) := by decide +kernel
theorem dX1_step_76 : decode cX1_step 76 = .ok (.ireturn, 1) := by decide +kernel
theorem dX1_step_77 : decode cX1_step 77 = .ok (.iload_n 1, 1) := by decide +kernel
theorem dX1_step_78 : decode cX1_step 78 = .ok (.bipush 20, 2) := by decide +kernel
theorem dX1_step_80 : decode cX1_step 80 = .ok (.if_icmp .gt 12, 3) := by decide +kernel
theorem dX1_step_83 : decode cX1_step 83 = .ok (.aload_n 0, 1) := by decide +kernel
theorem dX1_step_84 : decode cX1_step 84 = .ok (.iload_n 1, 1) := by decide +kernel
theorem dX1_step_85 : decode cX1_step 85 = .ok (.iload_n 2, 1) := by decide +kernel
theorem dX1_step_86 : decode cX1_step 86 = .ok (.invokevirtual 69, 3) := by decide +kernel
theorem dX1_step_89 : decode cX1_step 89 = .ok (.goto 25, 3) := by decide +kernel
theorem dX1_step_92 : decode cX1_step 92 = .ok (.iload_n 1, 1) := by decide +kernel
theorem dX1_step_93 : decode cX1_step 93 = .ok (.bipush 29, 2) := by decide +kernel
theorem dX1_step_95 : decode cX1_step 95 = .ok (.if_icmp .ge 13, 3) := by decide +kernel
theorem dX1_step_98 : decode cX1_step 98 = .ok (.aload_n 0, 1) := by decide +kernel
theorem dX1_step_99 : decode cX1_step 99 = .ok (.iload_n 1, 1) := by decide +kernel
theorem dX1_step_100 : decode cX1_step 100 = .ok (.iload_n 2, 1) := by decide +kernel
theorem dX1_step_101 : decode cX1_step 101 = .ok (.iload_n 3, 1) := by decide +kernel
theorem dX1_step_102 : decode cX1_step 102 = .ok (.invokevirtual 73, 3) := by decide +kernel
theorem dX1_step_105 : decode cX1_step 105 = .ok (.goto 9, 3) := by decide +kernel
theorem dX1_step_108 : decode cX1_step 108 = .ok (.aload_n 0, 1) := by decide +kernel
theorem dX1_step_109 : decode cX1_step 109 = .ok (.iload_n 1, 1) := by decide +kernel
theorem dX1_step_110 : decode cX1_step 110 = .ok (.iload_n 2, 1) := by decide +kernel
theorem dX1_step_111 : decode cX1_step 111 = .ok (.invokevirtual 77, 3) := by decide +kernel
theorem dX1_step_114 : decode cX1_step 114 = .ok (.iconst 1, 1) := by decide +kernel
theorem dX1_step_115 : decode cX1_step 115 = .ok (.ireturn, 1) := by decide +kernel
theorem dX1_reckonTop_0 : decode cX1_reckonTop 0 = .ok (.iload_n 1, 1) := by decide +kernel
theorem dX1_reckonTop_1 : decode cX1_reckonTop 1 = .ok (.bipush 18, 2) := by decide +kernel
theorem dX1_reckonTop_3 : decode cX1_reckonTop 3 = .ok (.iadd, 1) := by decide +kernel
theorem dX1_reckonTop_4 : decode cX1_reckonTop 4 = .ok (.istore_n 2, 1) := by decide +kernel
theorem dX1_reckonTop_5 : decode cX1_reckonTop 5 = .ok (.iload_n 1, 1) := by decide +kernel
theorem dX1_reckonTop_6 : decode cX1_reckonTop 6 = .ok (.bipush 14, 2) := by decide +kernel
theorem dX1_reckonTop_8 : decode cX1_reckonTop 8 = .ok (.if_icmp .ne 7, 3) := by decide +kernel
theorem dX1_reckonTop_11 : decode cX1_reckonTop 11 = .ok (.iconst 0, 1) := by decide +kernel
theorem dX1_reckonTop_12 : decode cX1_reckonTop 12 = .ok (.goto 7, 3) := by decide +kernel
theorem dX1_reckonTop_15 : decode cX1_reckonTop 15 = .ok (.aload_n 0, 1) := by decide +kernel
theorem dX1_reckonTop_16 : decode cX1_reckonTop 16 = .ok (.invokevirtual 80, 3) := by decide +kernel
theorem dX1_reckonTop_19 : decode cX1_reckonTop 19 = .ok (.istore_n 3, 1) := by decide +kernel
theorem dX1_reckonTop_20 : decode cX1_reckonTop 20 = .ok (.aload_n 0, 1) := by decide +kernel
theorem dX1_reckonTop_21 : decode cX1_reckonTop 21 = .ok (.invokevirtual 80, 3) := by decide +kernel
theorem dX1_reckonTop_24 : decode cX1_reckonTop 24 = .ok (.istore 4, 2) := by decide +kernel
theorem dX1_reckonTop_26 : decode cX1_reckonTop 26 = .ok (.iload_n 2, 1) := by decide +kernel
theorem dX1_reckonTop_27 : decode cX1_reckonTop 27 = .ok (.iload_n 3, 1) := by decide +kernel
theorem dX1_reckonTop_28 : decode cX1_reckonTop 28 = .ok (.invokestatic 84, 3) := by decide +kernel
theorem dX1_reckonTop_31 : decode cX1_reckonTop 31 = .ok (.ifCond .eq 5, 3) := by decide +kernel
theorem dX1_reckonTop_34 : decode cX1_reckonTop 34 = .ok (.iconst 0, 1) := by decide +kernel
theorem dX1_reckonTop_35 : decode cX1_reckonTop 35 = .ok (.ireturn, 1) := by decide +kernel
theorem dX1_reckonTop_36 : decode cX1_reckonTop 36 = .ok (.aload_n 0, 1) := by decide +kernel
theorem dX1_reckonTop_37 : decode cX1_reckonTop 37 = .ok (.iload_n 2, 1) := by decide +kernel
theorem dX1_reckonTop_38 : decode cX1_reckonTop 38 = .ok (.iload 4, 2) := by decide +kernel
theorem dX1_reckonTop_40 : decode cX1_reckonTop 40 = .ok (.iload_n 3, 1) := by decide +kernel
theorem dX1_reckonTop_41 : decode cX1_reckonTop 41 = .ok (.invokestatic 90, 3) := by decide +kernel
theorem dX1_reckonTop_44 : decode cX1_reckonTop 44 = .ok (.invokevirtual 94, 3) := by decide +kernel
theorem dX1_reckonTop_47 : decode cX1_reckonTop 47 = .ok (.iconst 1, 1) := by decide +kernel
theorem dX1_reckonTop_48 : decode cX1_reckonTop 48 = .ok (.ireturn, 1) := by decide +kernel
theorem dX1_stepOpenly_0 : decode cX1_stepOpenly 0 = .ok (.iload_n 1, 1) := by decide +kernel
theorem dX1_stepOpenly_1 : decode cX1_stepOpenly 1 = .ok (.tableswitch 166 1 19 #[91, 99, 114, 166, 166, 166, 166, 166, 166, 166, 166, 166, 166, 166, 166, 166, 129, 136, 144], 91) := by decide +kernel
theorem dX1_stepOpenly_92 : decode cX1_stepOpenly 92 = .ok (.aload_n 0, 1) := by decide +kernel
theorem dX1_stepOpenly_93 : decode cX1_stepOpenly 93 = .ok (.iload_n 2, 1) := by decide +kernel
theorem dX1_stepOpenly_94 : decode cX1_stepOpenly 94 = .ok (.invokevirtual 94, 3) := by decide +kernel
theorem dX1_stepOpenly_97 : decode cX1_stepOpenly 97 = .ok (.goto 81, 3) := by decide +kernel
theorem dX1_stepOpenly_100 : decode cX1_stepOpenly 100 = .ok (.aload_n 0, 1) := by decide +kernel
theorem dX1_stepOpenly_101 : decode cX1_stepOpenly 101 = .ok (.aload_n 0, 1) := by decide +kernel
theorem dX1_stepOpenly_102 : decode cX1_stepOpenly 102 = .ok (.getfield 15, 3) := by decide +kernel
theorem dX1_stepOpenly_105 : decode cX1_stepOpenly 105 = .ok (.iload_n 2, 1) := by decide +kernel
theorem dX1_stepOpenly_106 : decode cX1_stepOpenly 106 = .ok (.invokevirtual 97, 3) := by decide +kernel
theorem dX1_stepOpenly_109 : decode cX1_stepOpenly 109 = .ok (.invokevirtual 94, 3) := by decide +kernel
theorem dX1_stepOpenly_112 : decode cX1_stepOpenly 112 = .ok (.goto 66, 3) := by decide +kernel
theorem dX1_stepOpenly_115 : decode cX1_stepOpenly 115 = .ok (.aload_n 0, 1) := by decide +kernel
theorem dX1_stepOpenly_116 : decode cX1_stepOpenly 116 = .ok (.getfield 15, 3) := by decide +kernel
theorem dX1_stepOpenly_119 : decode cX1_stepOpenly 119 = .ok (.iload_n 2, 1) := by decide +kernel
theorem dX1_stepOpenly_120 : decode cX1_stepOpenly 120 = .ok (.aload_n 0, 1) := by decide +kernel
theorem dX1_stepOpenly_121 : decode cX1_stepOpenly 121 = .ok (.invokevirtual 80, 3) := by decide +kernel
theorem dX1_stepOpenly_124 : decode cX1_stepOpenly 124 = .ok (.invokevirtual 103, 3) := by decide +kernel
theorem dX1_stepOpenly_127 : decode cX1_stepOpenly 127 = .ok (.goto 51, 3) := by decide +kernel
theorem dX1_stepOpenly_130 : decode cX1_stepOpenly 130 = .ok (.aload_n 0, 1) := by decide +kernel
theorem dX1_stepOpenly_131 : decode cX1_stepOpenly 131 = .ok (.invokevirtual 106, 3) := by decide +kernel
theorem dX1_stepOpenly_134 : decode cX1_stepOpenly 134 = .ok (.goto 44, 3) := by decide +kernel
theorem dX1_stepOpenly_137 : decode cX1_stepOpenly 137 = .ok (.aload_n 0, 1) := by decide +kernel
theorem dX1_stepOpenly_138 : decode cX1_stepOpenly 138 = .ok (.iload_n 2, 1) := by decide +kernel
theorem dX1_stepOpenly_139 : decode cX1_stepOpenly 139 = .ok (.putfield 48, 3) := by decide +kernel
theorem dX1_stepOpenly_142 : decode cX1_stepOpenly 142 = .ok (.goto 36, 3) := by decide +kernel
theorem dX1_stepOpenly_145 : decode cX1_stepOpenly 145 = .ok (.aload_n 0, 1) := by decide +kernel
theorem dX1_stepOpenly_146 : decode cX1_stepOpenly 146 = .ok (.aload_n 0, 1) := by decide +kernel
theorem dX1_stepOpenly_147 : decode cX1_stepOpenly 147 = .ok (.invokevirtual 80, 3) := by decide +kernel
theorem dX1_stepOpenly_150 : decode cX1_stepOpenly 150 = .ok (.ifCond .ne 7, 3) := by decide +kernel
theorem dX1_stepOpenly_153 : decode cX1_stepOpenly 153 = .ok (.iload_n 2, 1) := by decide +kernel
theorem dX1_stepOpenly_154 : decode cX1_stepOpenly 154 = .ok (.goto 7, 3) := by decide +kernel
theorem dX1_stepOpenly_157 : decode cX1_stepOpenly 157 = .ok (.aload_n 0, 1) := by decide +kernel
theorem dX1_stepOpenly_158 : decode cX1_stepOpenly 158 = .ok (.getfield 48, 3) := by decide +kernel
theorem dX1_stepOpenly_161 : decode cX1_stepOpenly 161 = .ok (.putfield 48, 3) := by decide +kernel
theorem dX1_stepOpenly_164 : decode cX1_stepOpenly 164 = .ok (.goto 14, 3) := by decide +kernel
theorem dX1_stepOpenly_167 : decode cX1_stepOpenly 167 = .ok (.aload_n 0, 1) := by decide +kernel
theorem dX1_stepOpenly_168 : decode cX1_stepOpenly 168 = .ok (.getfield 19, 3) := by decide +kernel
theorem dX1_stepOpenly_171 : decode cX1_stepOpenly 171 = .ok (.aload_n 0, 1) := by decide +kernel
theorem dX1_stepOpenly_172 : decode cX1_stepOpenly 172 = .ok (.invokevirtual 80, 3) := by decide +kernel
theorem dX1_stepOpenly_175 : decode cX1_stepOpenly 175 = .ok (.invokevirtual 109, 3) := by decide +kernel
theorem dX1_stepOpenly_178 : decode cX1_stepOpenly 178 = .ok (.return_, 1) := by decide +kernel
theorem dX1_choose_0 : decode cX1_choose 0 = .ok (.aload_n 0, 1) := by decide +kernel
theorem dX1_choose_1 : decode cX1_choose 1 = .ok (.invokevirtual 80, 3) := by decide +kernel
theorem dX1_choose_4 : decode cX1_choose 4 = .ok (.istore_n 1, 1) := by decide +kernel
theorem dX1_choose_5 : decode cX1_choose 5 = .ok (.aload_n 0, 1) := by decide +kernel
theorem dX1_choose_6 : decode cX1_choose 6 = .ok (.invokevirtual 80, 3) := by decide +kernel
theorem dX1_choose_9 : decode cX1_choose 9 = .ok (.istore_n 2, 1) := by decide +kernel
theorem dX1_choose_10 : decode cX1_choose 10 = .ok (.aload_n 0, 1) := by decide +kernel
theorem dX1_choose_11 : decode cX1_choose 11 = .ok (.aload_n 0, 1) := by decide +kernel
theorem dX1_choose_12 : decode cX1_choose 12 = .ok (.invokevirtual 80, 3) := by decide +kernel
theorem dX1_choose_15 : decode cX1_choose 15 = .ok (.ifCond .eq 7, 3) := by decide +kernel
theorem dX1_choose_18 : decode cX1_choose 18 = .ok (.iload_n 2, 1) := by decide +kernel
theorem dX1_choose_19 : decode cX1_choose 19 = .ok (.goto 4, 3) := by decide +kernel
theorem dX1_choose_22 : decode cX1_choose 22 = .ok (.iload_n 1, 1) := by decide +kernel
theorem dX1_choose_23 : decode cX1_choose 23 = .ok (.invokevirtual 94, 3) := by decide +kernel
theorem dX1_choose_26 : decode cX1_choose 26 = .ok (.return_, 1) := by decide +kernel
theorem dX1_stepInStore_0 : decode cX1_stepInStore 0 = .ok (.iload_n 1, 1) := by decide +kernel
theorem dX1_stepInStore_1 : decode cX1_stepInStore 1 = .ok (.tableswitch 152 21 27 #[43, 62, 72, 98, 121, 152, 43], 43) := by decide +kernel
theorem dX1_stepInStore_44 : decode cX1_stepInStore 44 = .ok (.aload_n 0, 1) := by decide +kernel
theorem dX1_stepInStore_45 : decode cX1_stepInStore 45 = .ok (.iload_n 2, 1) := by decide +kernel
theorem dX1_stepInStore_46 : decode cX1_stepInStore 46 = .ok (.iload_n 1, 1) := by decide +kernel
theorem dX1_stepInStore_47 : decode cX1_stepInStore 47 = .ok (.bipush 27, 2) := by decide +kernel
theorem dX1_stepInStore_49 : decode cX1_stepInStore 49 = .ok (.if_icmp .ne 7, 3) := by decide +kernel
theorem dX1_stepInStore_52 : decode cX1_stepInStore 52 = .ok (.iconst 1, 1) := by decide +kernel
theorem dX1_stepInStore_53 : decode cX1_stepInStore 53 = .ok (.goto 4, 3) := by decide +kernel
theorem dX1_stepInStore_56 : decode cX1_stepInStore 56 = .ok (.iconst 0, 1) := by decide +kernel
theorem dX1_stepInStore_57 : decode cX1_stepInStore 57 = .ok (.invokevirtual 110, 3) := by decide +kernel
theorem dX1_stepInStore_60 : decode cX1_stepInStore 60 = .ok (.goto 114, 3) := by decide +kernel
theorem dX1_stepInStore_63 : decode cX1_stepInStore 63 = .ok (.aload_n 0, 1) := by decide +kernel
theorem dX1_stepInStore_64 : decode cX1_stepInStore 64 = .ok (.iload_n 2, 1) := by decide +kernel
theorem dX1_stepInStore_65 : decode cX1_stepInStore 65 = .ok (.iconst (-1), 1) := by decide +kernel
theorem dX1_stepInStore_66 : decode cX1_stepInStore 66 = .ok (.iconst 0, 1) := by decide +kernel
theorem dX1_stepInStore_67 : decode cX1_stepInStore 67 = .ok (.invokevirtual 114, 3) := by decide +kernel
theorem dX1_stepInStore_70 : decode cX1_stepInStore 70 = .ok (.goto 104, 3) := by decide +kernel
theorem dX1_stepInStore_73 : decode cX1_stepInStore 73 = .ok (.aload_n 0, 1) := by decide +kernel
theorem dX1_stepInStore_74 : decode cX1_stepInStore 74 = .ok (.iload_n 2, 1) := by decide +kernel
theorem dX1_stepInStore_75 : decode cX1_stepInStore 75 = .ok (.aload_n 0, 1) := by decide +kernel
theorem dX1_stepInStore_76 : decode cX1_stepInStore 76 = .ok (.invokevirtual 80, 3) := by decide +kernel
theorem dX1_stepInStore_79 : decode cX1_stepInStore 79 = .ok (.ifCond .eq 13, 3) := by decide +kernel
theorem dX1_stepInStore_82 : decode cX1_stepInStore 82 = .ok (.aload_n 0, 1) := by decide +kernel
theorem dX1_stepInStore_83 : decode cX1_stepInStore 83 = .ok (.iload_n 2, 1) := by decide +kernel
theorem dX1_stepInStore_84 : decode cX1_stepInStore 84 = .ok (.iconst 1, 1) := by decide +kernel
theorem dX1_stepInStore_85 : decode cX1_stepInStore 85 = .ok (.isub, 1) := by decide +kernel
theorem dX1_stepInStore_86 : decode cX1_stepInStore 86 = .ok (.invokevirtual 118, 3) := by decide +kernel
theorem dX1_stepInStore_89 : decode cX1_stepInStore 89 = .ok (.goto 4, 3) := by decide +kernel
theorem dX1_stepInStore_92 : decode cX1_stepInStore 92 = .ok (.iconst 0, 1) := by decide +kernel
theorem dX1_stepInStore_93 : decode cX1_stepInStore 93 = .ok (.invokevirtual 121, 3) := by decide +kernel
theorem dX1_stepInStore_96 : decode cX1_stepInStore 96 = .ok (.goto 78, 3) := by decide +kernel
theorem dX1_stepInStore_99 : decode cX1_stepInStore 99 = .ok (.aload_n 0, 1) := by decide +kernel
theorem dX1_stepInStore_100 : decode cX1_stepInStore 100 = .ok (.iload_n 2, 1) := by decide +kernel
theorem dX1_stepInStore_101 : decode cX1_stepInStore 101 = .ok (.aload_n 0, 1) := by decide +kernel
theorem dX1_stepInStore_102 : decode cX1_stepInStore 102 = .ok (.iload_n 2, 1) := by decide +kernel
theorem dX1_stepInStore_103 : decode cX1_stepInStore 103 = .ok (.iconst 1, 1) := by decide +kernel
theorem dX1_stepInStore_104 : decode cX1_stepInStore 104 = .ok (.isub, 1) := by decide +kernel
theorem dX1_stepInStore_105 : decode cX1_stepInStore 105 = .ok (.invokevirtual 118, 3) := by decide +kernel
theorem dX1_stepInStore_108 : decode cX1_stepInStore 108 = .ok (.aload_n 0, 1) := by decide +kernel
theorem dX1_stepInStore_109 : decode cX1_stepInStore 109 = .ok (.iload_n 2, 1) := by decide +kernel
theorem dX1_stepInStore_110 : decode cX1_stepInStore 110 = .ok (.invokevirtual 118, 3) := by decide +kernel
theorem dX1_stepInStore_113 : decode cX1_stepInStore 113 = .ok (.iconst (-1), 1) := by decide +kernel
theorem dX1_stepInStore_114 : decode cX1_stepInStore 114 = .ok (.ixor, 1) := by decide +kernel
theorem dX1_stepInStore_115 : decode cX1_stepInStore 115 = .ok (.iand, 1) := by decide +kernel
theorem dX1_stepInStore_116 : decode cX1_stepInStore 116 = .ok (.invokevirtual 121, 3) := by decide +kernel
theorem dX1_stepInStore_119 : decode cX1_stepInStore 119 = .ok (.goto 55, 3) := by decide +kernel
theorem dX1_stepInStore_122 : decode cX1_stepInStore 122 = .ok (.aload_n 0, 1) := by decide +kernel
theorem dX1_stepInStore_123 : decode cX1_stepInStore 123 = .ok (.getfield 15, 3) := by decide +kernel
theorem dX1_stepInStore_126 : decode cX1_stepInStore 126 = .ok (.iload_n 3, 1) := by decide +kernel
theorem dX1_stepInStore_127 : decode cX1_stepInStore 127 = .ok (.aload_n 0, 1) := by decide +kernel
theorem dX1_stepInStore_128 : decode cX1_stepInStore 128 = .ok (.getfield 15, 3) := by decide +kernel
theorem dX1_stepInStore_131 : decode cX1_stepInStore 131 = .ok (.iload_n 3, 1) := by decide +kernel
theorem dX1_stepInStore_132 : decode cX1_stepInStore 132 = .ok (.invokevirtual 97, 3) := by decide +kernel
theorem dX1_stepInStore_135 : decode cX1_stepInStore 135 = .ok (.aload_n 0, 1) := by decide +kernel
theorem dX1_stepInStore_136 : decode cX1_stepInStore 136 = .ok (.invokevirtual 80, 3) := by decide +kernel
theorem dX1_stepInStore_139 : decode cX1_stepInStore 139 = .ok (.aload_n 0, 1) := by decide +kernel
theorem dX1_stepInStore_140 : decode cX1_stepInStore 140 = .ok (.iload_n 2, 1) := by decide +kernel
theorem dX1_stepInStore_141 : decode cX1_stepInStore 141 = .ok (.invokevirtual 118, 3) := by decide +kernel
theorem dX1_stepInStore_144 : decode cX1_stepInStore 144 = .ok (.invokestatic 124, 3) := by decide +kernel
theorem dX1_stepInStore_147 : decode cX1_stepInStore 147 = .ok (.invokevirtual 103, 3) := by decide +kernel
theorem dX1_stepInStore_150 : decode cX1_stepInStore 150 = .ok (.goto 24, 3) := by decide +kernel
theorem dX1_stepInStore_153 : decode cX1_stepInStore 153 = .ok (.aload_n 0, 1) := by decide +kernel
theorem dX1_stepInStore_154 : decode cX1_stepInStore 154 = .ok (.iload_n 3, 1) := by decide +kernel
theorem dX1_stepInStore_155 : decode cX1_stepInStore 155 = .ok (.aload_n 0, 1) := by decide +kernel
theorem dX1_stepInStore_156 : decode cX1_stepInStore 156 = .ok (.iload_n 2, 1) := by decide +kernel
theorem dX1_stepInStore_157 : decode cX1_stepInStore 157 = .ok (.invokevirtual 118, 3) := by decide +kernel
theorem dX1_stepInStore_160 : decode cX1_stepInStore 160 = .ok (.iload_n 1, 1) := by decide +kernel
theorem dX1_stepInStore_161 : decode cX1_stepInStore 161 = .ok (.bipush 28, 2) := by decide +kernel
theorem dX1_stepInStore_163 : decode cX1_stepInStore 163 = .ok (.if_icmp .ne 7, 3) := by decide +kernel
theorem dX1_stepInStore_166 : decode cX1_stepInStore 166 = .ok (.iconst 1, 1) := by decide +kernel
theorem dX1_stepInStore_167 : decode cX1_stepInStore 167 = .ok (.goto 4, 3) := by decide +kernel
theorem dX1_stepInStore_170 : decode cX1_stepInStore 170 = .ok (.iconst 0, 1) := by decide +kernel
theorem dX1_stepInStore_171 : decode cX1_stepInStore 171 = .ok (.invokevirtual 114, 3) := by decide +kernel
theorem dX1_stepInStore_174 : decode cX1_stepInStore 174 = .ok (.return_, 1) := by decide +kernel
theorem dX1_readTable_0 : decode cX1_readTable 0 = .ok (.aload_n 0, 1) := by decide +kernel
theorem dX1_readTable_1 : decode cX1_readTable 1 = .ok (.getfield 15, 3) := by decide +kernel
theorem dX1_readTable_4 : decode cX1_readTable 4 = .ok (.iload_n 1, 1) := by decide +kernel
theorem dX1_readTable_5 : decode cX1_readTable 5 = .ok (.aload_n 0, 1) := by decide +kernel
theorem dX1_readTable_6 : decode cX1_readTable 6 = .ok (.invokevirtual 80, 3) := by decide +kernel
theorem dX1_readTable_9 : decode cX1_readTable 9 = .ok (.invokevirtual 127, 3) := by decide +kernel
theorem dX1_readTable_12 : decode cX1_readTable 12 = .ok (.istore_n 3, 1) := by decide +kernel
theorem dX1_readTable_13 : decode cX1_readTable 13 = .ok (.aload_n 0, 1) := by decide +kernel
theorem dX1_readTable_14 : decode cX1_readTable 14 = .ok (.iload_n 1, 1) := by decide +kernel
theorem dX1_readTable_15 : decode cX1_readTable 15 = .ok (.iload_n 3, 1) := by decide +kernel
theorem dX1_readTable_16 : decode cX1_readTable 16 = .ok (.iload_n 2, 1) := by decide +kernel
theorem dX1_readTable_17 : decode cX1_readTable 17 = .ok (.invokevirtual 130, 3) := by decide +kernel
theorem dX1_readTable_20 : decode cX1_readTable 20 = .ok (.aload_n 0, 1) := by decide +kernel
theorem dX1_readTable_21 : decode cX1_readTable 21 = .ok (.aload_n 0, 1) := by decide +kernel
theorem dX1_readTable_22 : decode cX1_readTable 22 = .ok (.getfield 15, 3) := by decide +kernel
theorem dX1_readTable_25 : decode cX1_readTable 25 = .ok (.iload_n 1, 1) := by decide +kernel
theorem dX1_readTable_26 : decode cX1_readTable 26 = .ok (.iload_n 3, 1) := by decide +kernel
theorem dX1_readTable_27 : decode cX1_readTable 27 = .ok (.invokevirtual 133, 3) := by decide +kernel
theorem dX1_readTable_30 : decode cX1_readTable 30 = .ok (.invokevirtual 94, 3) := by decide +kernel
theorem dX1_readTable_33 : decode cX1_readTable 33 = .ok (.return_, 1) := by decide +kernel
theorem dX1_writeTable_0 : decode cX1_writeTable 0 = .ok (.aload_n 0, 1) := by decide +kernel
theorem dX1_writeTable_1 : decode cX1_writeTable 1 = .ok (.invokevirtual 80, 3) := by decide +kernel
theorem dX1_writeTable_4 : decode cX1_writeTable 4 = .ok (.istore 4, 2) := by decide +kernel
theorem dX1_writeTable_6 : decode cX1_writeTable 6 = .ok (.aload_n 0, 1) := by decide +kernel
theorem dX1_writeTable_7 : decode cX1_writeTable 7 = .ok (.getfield 15, 3) := by decide +kernel
theorem dX1_writeTable_10 : decode cX1_writeTable 10 = .ok (.iload_n 1, 1) := by decide +kernel
theorem dX1_writeTable_11 : decode cX1_writeTable 11 = .ok (.aload_n 0, 1) := by decide +kernel
theorem dX1_writeTable_12 : decode cX1_writeTable 12 = .ok (.invokevirtual 80, 3) := by decide +kernel
theorem dX1_writeTable_15 : decode cX1_writeTable 15 = .ok (.invokevirtual 127, 3) := by decide +kernel
theorem dX1_writeTable_18 : decode cX1_writeTable 18 = .ok (.istore 5, 2) := by decide +kernel
theorem dX1_writeTable_20 : decode cX1_writeTable 20 = .ok (.aload_n 0, 1) := by decide +kernel
theorem dX1_writeTable_21 : decode cX1_writeTable 21 = .ok (.iload_n 1, 1) := by decide +kernel
theorem dX1_writeTable_22 : decode cX1_writeTable 22 = .ok (.iload 5, 2) := by decide +kernel
theorem dX1_writeTable_24 : decode cX1_writeTable 24 = .ok (.iload_n 3, 1) := by decide +kernel
theorem dX1_writeTable_25 : decode cX1_writeTable 25 = .ok (.invokevirtual 130, 3) := by decide +kernel
theorem dX1_writeTable_28 : decode cX1_writeTable 28 = .ok (.aload_n 0, 1) := by decide +kernel
theorem dX1_writeTable_29 : decode cX1_writeTable 29 = .ok (.getfield 15, 3) := by decide +kernel
theorem dX1_writeTable_32 : decode cX1_writeTable 32 = .ok (.iload_n 1, 1) := by decide +kernel
theorem dX1_writeTable_33 : decode cX1_writeTable 33 = .ok (.iload 5, 2) := by decide +kernel
theorem dX1_writeTable_35 : decode cX1_writeTable 35 = .ok (.aload_n 0, 1) := by decide +kernel
theorem dX1_writeTable_36 : decode cX1_writeTable 36 = .ok (.getfield 15, 3) := by decide +kernel
theorem dX1_writeTable_39 : decode cX1_writeTable 39 = .ok (.iload_n 1, 1) := by decide +kernel
theorem dX1_writeTable_40 : decode cX1_writeTable 40 = .ok (.iload 5, 2) := by decide +kernel
theorem dX1_writeTable_42 : decode cX1_writeTable 42 = .ok (.invokevirtual 133, 3) := by decide +kernel
theorem dX1_writeTable_45 : decode cX1_writeTable 45 = .ok (.iload 4, 2) := by decide +kernel
theorem dX1_writeTable_47 : decode cX1_writeTable 47 = .ok (.iload_n 2, 1) := by decide +kernel
theorem dX1_writeTable_48 : decode cX1_writeTable 48 = .ok (.invokestatic 124, 3) := by decide +kernel
theorem dX1_writeTable_51 : decode cX1_writeTable 51 = .ok (.invokevirtual 136, 3) := by decide +kernel
theorem dX1_writeTable_54 : decode cX1_writeTable 54 = .ok (.return_, 1) := by decide +kernel
theorem dX1_touch_0 : decode cX1_touch 0 = .ok (.sipush 4096, 3) := by decide +kernel
theorem dX1_touch_3 : decode cX1_touch 3 = .ok (.bipush 16, 2) := by decide +kernel
theorem dX1_touch_5 : decode cX1_touch 5 = .ok (.iload_n 1, 1) := by decide +kernel
theorem dX1_touch_6 : decode cX1_touch 6 = .ok (.imul, 1) := by decide +kernel
theorem dX1_touch_7 : decode cX1_touch 7 = .ok (.iadd, 1) := by decide +kernel
theorem dX1_touch_8 : decode cX1_touch 8 = .ok (.istore 4, 2) := by decide +kernel
theorem dX1_touch_10 : decode cX1_touch 10 = .ok (.iload_n 3, 1) := by decide +kernel
theorem dX1_touch_11 : decode cX1_touch 11 = .ok (.ifCond .ne 15, 3) := by decide +kernel
theorem dX1_touch_14 : decode cX1_touch 14 = .ok (.aload_n 0, 1) := by decide +kernel
theorem dX1_touch_15 : decode cX1_touch 15 = .ok (.getfield 22, 3) := by decide +kernel
theorem dX1_touch_18 : decode cX1_touch 18 = .ok (.iload 4, 2) := by decide +kernel
theorem dX1_touch_20 : decode cX1_touch 20 = .ok (.iload_n 2, 1) := by decide +kernel
theorem dX1_touch_21 : decode cX1_touch 21 = .ok (.iadd, 1) := by decide +kernel
theorem dX1_touch_22 : decode cX1_touch 22 = .ok (.invokevirtual 55, 3) := by decide +kernel
theorem dX1_touch_25 : decode cX1_touch 25 = .ok (.return_, 1) := by decide +kernel
theorem dX1_touch_26 : decode cX1_touch 26 = .ok (.aload_n 0, 1) := by decide +kernel
theorem dX1_touch_27 : decode cX1_touch 27 = .ok (.getfield 15, 3) := by decide +kernel
theorem dX1_touch_30 : decode cX1_touch 30 = .ok (.iload_n 1, 1) := by decide +kernel
theorem dX1_touch_31 : decode cX1_touch 31 = .ok (.invokevirtual 139, 3) := by decide +kernel
theorem dX1_touch_34 : decode cX1_touch 34 = .ok (.istore 5, 2) := by decide +kernel
theorem dX1_touch_36 : decode cX1_touch 36 = .ok (.iconst 0, 1) := by decide +kernel
theorem dX1_touch_37 : decode cX1_touch 37 = .ok (.istore 6, 2) := by decide +kernel
theorem dX1_touch_39 : decode cX1_touch 39 = .ok (.iload 6, 2) := by decide +kernel
theorem dX1_touch_41 : decode cX1_touch 41 = .ok (.bipush 16, 2) := by decide +kernel
theorem dX1_touch_43 : decode cX1_touch 43 = .ok (.if_icmp .ge 28, 3) := by decide +kernel
theorem dX1_touch_46 : decode cX1_touch 46 = .ok (.iload 6, 2) := by decide +kernel
theorem dX1_touch_48 : decode cX1_touch 48 = .ok (.iload 5, 2) := by decide +kernel
theorem dX1_touch_50 : decode cX1_touch 50 = .ok (.if_icmp .ge 21, 3) := by decide +kernel
theorem dX1_touch_53 : decode cX1_touch 53 = .ok (.aload_n 0, 1) := by decide +kernel
theorem dX1_touch_54 : decode cX1_touch 54 = .ok (.getfield 22, 3) := by decide +kernel
theorem dX1_touch_57 : decode cX1_touch 57 = .ok (.iload 4, 2) := by decide +kernel
theorem dX1_touch_59 : decode cX1_touch 59 = .ok (.iload 6, 2) := by decide +kernel
theorem dX1_touch_61 : decode cX1_touch 61 = .ok (.iadd, 1) := by decide +kernel
theorem dX1_touch_62 : decode cX1_touch 62 = .ok (.invokevirtual 55, 3) := by decide +kernel
theorem dX1_touch_65 : decode cX1_touch 65 = .ok (.iinc 6 1, 3) := by decide +kernel
theorem dX1_touch_68 : decode cX1_touch 68 = .ok (.goto (-29), 3) := by decide +kernel
theorem dX1_touch_71 : decode cX1_touch 71 = .ok (.return_, 1) := by decide +kernel
theorem dX1_stepCount_0 : decode cX1_stepCount 0 = .ok (.iload_n 2, 1) := by decide +kernel
theorem dX1_stepCount_1 : decode cX1_stepCount 1 = .ok (.ifCond .lt 12, 3) := by decide +kernel
theorem dX1_stepCount_4 : decode cX1_stepCount 4 = .ok (.iload_n 2, 1) := by decide +kernel
theorem dX1_stepCount_5 : decode cX1_stepCount 5 = .ok (.aload_n 0, 1) := by decide +kernel
theorem dX1_stepCount_6 : decode cX1_stepCount 6 = .ok (.getfield 33, 3) := by decide +kernel
theorem dX1_stepCount_9 : decode cX1_stepCount 9 = .ok (.arraylength, 1) := by decide +kernel
theorem dX1_stepCount_10 : decode cX1_stepCount 10 = .ok (.if_icmp .lt 4, 3) := by decide +kernel
theorem dX1_stepCount_13 : decode cX1_stepCount 13 = .ok (.return_, 1) := by decide +kernel
theorem dX1_stepCount_14 : decode cX1_stepCount 14 = .ok (.iload_n 1, 1) := by decide +kernel
theorem dX1_stepCount_15 : decode cX1_stepCount 15 = .ok (.tableswitch 61 29 31 #[25, 35, 48], 25) := by decide +kernel
theorem dX1_stepCount_40 : decode cX1_stepCount 40 = .ok (.aload_n 0, 1) := by decide +kernel
theorem dX1_stepCount_41 : decode cX1_stepCount 41 = .ok (.getfield 33, 3) := by decide +kernel
theorem dX1_stepCount_44 : decode cX1_stepCount 44 = .ok (.iload_n 2, 1) := by decide +kernel
theorem dX1_stepCount_45 : decode cX1_stepCount 45 = .ok (.iconst 0, 1) := by decide +kernel
theorem dX1_stepCount_46 : decode cX1_stepCount 46 = .ok (.iastore, 1) := by decide +kernel
theorem dX1_stepCount_47 : decode cX1_stepCount 47 = .ok (.goto 29, 3) := by decide +kernel
theorem dX1_stepCount_50 : decode cX1_stepCount 50 = .ok (.aload_n 0, 1) := by decide +kernel
theorem dX1_stepCount_51 : decode cX1_stepCount 51 = .ok (.aload_n 0, 1) := by decide +kernel
theorem dX1_stepCount_52 : decode cX1_stepCount 52 = .ok (.getfield 33, 3) := by decide +kernel
theorem dX1_stepCount_55 : decode cX1_stepCount 55 = .ok (.iload_n 2, 1) := by decide +kernel
theorem dX1_stepCount_56 : decode cX1_stepCount 56 = .ok (.iaload, 1) := by decide +kernel
theorem dX1_stepCount_57 : decode cX1_stepCount 57 = .ok (.invokevirtual 94, 3) := by decide +kernel
theorem dX1_stepCount_60 : decode cX1_stepCount 60 = .ok (.goto 16, 3) := by decide +kernel
theorem dX1_stepCount_63 : decode cX1_stepCount 63 = .ok (.aload_n 0, 1) := by decide +kernel
theorem dX1_stepCount_64 : decode cX1_stepCount 64 = .ok (.getfield 33, 3) := by decide +kernel
theorem dX1_stepCount_67 : decode cX1_stepCount 67 = .ok (.iload_n 2, 1) := by decide +kernel
theorem dX1_stepCount_68 : decode cX1_stepCount 68 = .ok (.dup2, 1) := by decide +kernel
theorem dX1_stepCount_69 : decode cX1_stepCount 69 = .ok (.iaload, 1) := by decide +kernel
theorem dX1_stepCount_70 : decode cX1_stepCount 70 = .ok (.iconst 1, 1) := by decide +kernel
theorem dX1_stepCount_71 : decode cX1_stepCount 71 = .ok (.iadd, 1) := by decide +kernel
theorem dX1_stepCount_72 : decode cX1_stepCount 72 = .ok (.iastore, 1) := by decide +kernel
theorem dX1_stepCount_73 : decode cX1_stepCount 73 = .ok (.goto 3, 3) := by decide +kernel
theorem dX1_stepCount_76 : decode cX1_stepCount 76 = .ok (.return_, 1) := by decide +kernel
theorem dX1_blend_0 : decode cX1_blend 0 = .ok (.iload_n 0, 1) := by decide +kernel
theorem dX1_blend_1 : decode cX1_blend 1 = .ok (.iload_n 2, 1) := by decide +kernel
theorem dX1_blend_2 : decode cX1_blend 2 = .ok (.iconst (-1), 1) := by decide +kernel
theorem dX1_blend_3 : decode cX1_blend 3 = .ok (.ixor, 1) := by decide +kernel
theorem dX1_blend_4 : decode cX1_blend 4 = .ok (.iand, 1) := by decide +kernel
theorem dX1_blend_5 : decode cX1_blend 5 = .ok (.iload_n 1, 1) := by decide +kernel
theorem dX1_blend_6 : decode cX1_blend 6 = .ok (.iload_n 2, 1) := by decide +kernel
theorem dX1_blend_7 : decode cX1_blend 7 = .ok (.iand, 1) := by decide +kernel
theorem dX1_blend_8 : decode cX1_blend 8 = .ok (.ior, 1) := by decide +kernel
theorem dX1_blend_9 : decode cX1_blend 9 = .ok (.ireturn, 1) := by decide +kernel
theorem dX1_maskAt_0 : decode cX1_maskAt 0 = .ok (.iload_n 1, 1) := by decide +kernel
theorem dX1_maskAt_1 : decode cX1_maskAt 1 = .ok (.ifCond .lt 21, 3) := by decide +kernel
theorem dX1_maskAt_4 : decode cX1_maskAt 4 = .ok (.iload_n 1, 1) := by decide +kernel
theorem dX1_maskAt_5 : decode cX1_maskAt 5 = .ok (.aload_n 0, 1) := by decide +kernel
theorem dX1_maskAt_6 : decode cX1_maskAt 6 = .ok (.getfield 30, 3) := by decide +kernel
theorem dX1_maskAt_9 : decode cX1_maskAt 9 = .ok (.arraylength, 1) := by decide +kernel
theorem dX1_maskAt_10 : decode cX1_maskAt 10 = .ok (.if_icmp .ge 12, 3) := by decide +kernel
theorem dX1_maskAt_13 : decode cX1_maskAt 13 = .ok (.aload_n 0, 1) := by decide +kernel
theorem dX1_maskAt_14 : decode cX1_maskAt 14 = .ok (.getfield 30, 3) := by decide +kernel
theorem dX1_maskAt_17 : decode cX1_maskAt 17 = .ok (.iload_n 1, 1) := by decide +kernel
theorem dX1_maskAt_18 : decode cX1_maskAt 18 = .ok (.iaload, 1) := by decide +kernel
theorem dX1_maskAt_19 : decode cX1_maskAt 19 = .ok (.goto 4, 3) := by decide +kernel
theorem dX1_maskAt_22 : decode cX1_maskAt 22 = .ok (.iconst 0, 1) := by decide +kernel
theorem dX1_maskAt_23 : decode cX1_maskAt 23 = .ok (.ireturn, 1) := by decide +kernel
theorem dX1_setMask_0 : decode cX1_setMask 0 = .ok (.iload_n 1, 1) := by decide +kernel
theorem dX1_setMask_1 : decode cX1_setMask 1 = .ok (.ifCond .le 19, 3) := by decide +kernel
theorem dX1_setMask_4 : decode cX1_setMask 4 = .ok (.iload_n 1, 1) := by decide +kernel
theorem dX1_setMask_5 : decode cX1_setMask 5 = .ok (.aload_n 0, 1) := by decide +kernel
theorem dX1_setMask_6 : decode cX1_setMask 6 = .ok (.getfield 30, 3) := by decide +kernel
theorem dX1_setMask_9 : decode cX1_setMask 9 = .ok (.arraylength, 1) := by decide +kernel
theorem dX1_setMask_10 : decode cX1_setMask 10 = .ok (.if_icmp .ge 10, 3) := by decide +kernel
theorem dX1_setMask_13 : decode cX1_setMask 13 = .ok (.aload_n 0, 1) := by decide +kernel
theorem dX1_setMask_14 : decode cX1_setMask 14 = .ok (.getfield 30, 3) := by decide +kernel
theorem dX1_setMask_17 : decode cX1_setMask 17 = .ok (.iload_n 1, 1) := by decide +kernel
theorem dX1_setMask_18 : decode cX1_setMask 18 = .ok (.iload_n 2, 1) := by decide +kernel
theorem dX1_setMask_19 : decode cX1_setMask 19 = .ok (.iastore, 1) := by decide +kernel
theorem dX1_setMask_20 : decode cX1_setMask 20 = .ok (.return_, 1) := by decide +kernel
theorem dX1_push_0 : decode cX1_push 0 = .ok (.aload_n 0, 1) := by decide +kernel
theorem dX1_push_1 : decode cX1_push 1 = .ok (.getfield 44, 3) := by decide +kernel
theorem dX1_push_4 : decode cX1_push 4 = .ok (.ifCond .lt 35, 3) := by decide +kernel
theorem dX1_push_7 : decode cX1_push 7 = .ok (.aload_n 0, 1) := by decide +kernel
theorem dX1_push_8 : decode cX1_push 8 = .ok (.getfield 44, 3) := by decide +kernel
theorem dX1_push_11 : decode cX1_push 11 = .ok (.aload_n 0, 1) := by decide +kernel
theorem dX1_push_12 : decode cX1_push 12 = .ok (.getfield 26, 3) := by decide +kernel
theorem dX1_push_15 : decode cX1_push 15 = .ok (.arraylength, 1) := by decide +kernel
theorem dX1_push_16 : decode cX1_push 16 = .ok (.if_icmp .ge 23, 3) := by decide +kernel
theorem dX1_push_19 : decode cX1_push 19 = .ok (.aload_n 0, 1) := by decide +kernel
theorem dX1_push_20 : decode cX1_push 20 = .ok (.getfield 26, 3) := by decide +kernel
theorem dX1_push_23 : decode cX1_push 23 = .ok (.aload_n 0, 1) := by decide +kernel
theorem dX1_push_24 : decode cX1_push 24 = .ok (.getfield 44, 3) := by decide +kernel
theorem dX1_push_27 : decode cX1_push 27 = .ok (.iload_n 1, 1) := by decide +kernel
theorem dX1_push_28 : decode cX1_push 28 = .ok (.iastore, 1) := by decide +kernel
theorem dX1_push_29 : decode cX1_push 29 = .ok (.aload_n 0, 1) := by decide +kernel
theorem dX1_push_30 : decode cX1_push 30 = .ok (.dup, 1) := by decide +kernel
theorem dX1_push_31 : decode cX1_push 31 = .ok (.getfield 44, 3) := by decide +kernel
theorem dX1_push_34 : decode cX1_push 34 = .ok (.iconst 1, 1) := by decide +kernel
theorem dX1_push_35 : decode cX1_push 35 = .ok (.iadd, 1) := by decide +kernel
theorem dX1_push_36 : decode cX1_push 36 = .ok (.putfield 44, 3) := by decide +kernel
theorem dX1_push_39 : decode cX1_push 39 = .ok (.return_, 1) := by decide +kernel
theorem dX1_pop_0 : decode cX1_pop 0 = .ok (.aload_n 0, 1) := by decide +kernel
theorem dX1_pop_1 : decode cX1_pop 1 = .ok (.getfield 44, 3) := by decide +kernel
theorem dX1_pop_4 : decode cX1_pop 4 = .ok (.ifCond .le 15, 3) := by decide +kernel
theorem dX1_pop_7 : decode cX1_pop 7 = .ok (.aload_n 0, 1) := by decide +kernel
theorem dX1_pop_8 : decode cX1_pop 8 = .ok (.getfield 44, 3) := by decide +kernel
theorem dX1_pop_11 : decode cX1_pop 11 = .ok (.aload_n 0, 1) := by decide +kernel
theorem dX1_pop_12 : decode cX1_pop 12 = .ok (.getfield 26, 3) := by decide +kernel
theorem dX1_pop_15 : decode cX1_pop 15 = .ok (.arraylength, 1) := by decide +kernel
theorem dX1_pop_16 : decode cX1_pop 16 = .ok (.if_icmp .le 5, 3) := by decide +kernel
theorem dX1_pop_19 : decode cX1_pop 19 = .ok (.iconst 0, 1) := by decide +kernel
theorem dX1_pop_20 : decode cX1_pop 20 = .ok (.ireturn, 1) := by decide +kernel
theorem dX1_pop_21 : decode cX1_pop 21 = .ok (.aload_n 0, 1) := by decide +kernel
theorem dX1_pop_22 : decode cX1_pop 22 = .ok (.dup, 1) := by decide +kernel
theorem dX1_pop_23 : decode cX1_pop 23 = .ok (.getfield 44, 3) := by decide +kernel
theorem dX1_pop_26 : decode cX1_pop 26 = .ok (.iconst 1, 1) := by decide +kernel
theorem dX1_pop_27 : decode cX1_pop 27 = .ok (.isub, 1) := by decide +kernel
theorem dX1_pop_28 : decode cX1_pop 28 = .ok (.putfield 44, 3) := by decide +kernel
theorem dX1_pop_31 : decode cX1_pop 31 = .ok (.aload_n 0, 1) := by decide +kernel
theorem dX1_pop_32 : decode cX1_pop 32 = .ok (.getfield 26, 3) := by decide +kernel
theorem dX1_pop_35 : decode cX1_pop 35 = .ok (.aload_n 0, 1) := by decide +kernel
theorem dX1_pop_36 : decode cX1_pop 36 = .ok (.getfield 44, 3) := by decide +kernel
theorem dX1_pop_39 : decode cX1_pop 39 = .ok (.iaload, 1) := by decide +kernel
theorem dX1_pop_40 : decode cX1_pop 40 = .ok (.ireturn, 1) := by decide +kernel
theorem dX2_init_0 : decode cX2_init 0 = .ok (.aload_n 0, 1) := by decide +kernel
theorem dX2_init_1 : decode cX2_init 1 = .ok (.invokespecial 3, 3) := by decide +kernel
theorem dX2_init_4 : decode cX2_init 4 = .ok (.aload_n 0, 1) := by decide +kernel
theorem dX2_init_5 : decode cX2_init 5 = .ok (.sipush 400, 3) := by decide +kernel
theorem dX2_init_8 : decode cX2_init 8 = .ok (.newarray .int, 2) := by decide +kernel
theorem dX2_init_10 : decode cX2_init 10 = .ok (.putfield 9, 3) := by decide +kernel
theorem dX2_init_13 : decode cX2_init 13 = .ok (.aload_n 0, 1) := by decide +kernel
theorem dX2_init_14 : decode cX2_init 14 = .ok (.sipush 400, 3) := by decide +kernel
theorem dX2_init_17 : decode cX2_init 17 = .ok (.newarray .int, 2) := by decide +kernel
theorem dX2_init_19 : decode cX2_init 19 = .ok (.putfield 15, 3) := by decide +kernel
theorem dX2_init_22 : decode cX2_init 22 = .ok (.aload_n 0, 1) := by decide +kernel
theorem dX2_init_23 : decode cX2_init 23 = .ok (.sipush 400, 3) := by decide +kernel
theorem dX2_init_26 : decode cX2_init 26 = .ok (.newarray .int, 2) := by decide +kernel
theorem dX2_init_28 : decode cX2_init 28 = .ok (.putfield 18, 3) := by decide +kernel
theorem dX2_init_31 : decode cX2_init 31 = .ok (.aload_n 0, 1) := by decide +kernel
theorem dX2_init_32 : decode cX2_init 32 = .ok (.sipush 400, 3) := by decide +kernel
theorem dX2_init_35 : decode cX2_init 35 = .ok (.newarray .boolean, 2) := by decide +kernel
theorem dX2_init_37 : decode cX2_init 37 = .ok (.putfield 21, 3) := by decide +kernel
theorem dX2_init_40 : decode cX2_init 40 = .ok (.return_, 1) := by decide +kernel
theorem dX2_clear_0 : decode cX2_clear 0 = .ok (.aload_n 0, 1) := by decide +kernel
theorem dX2_clear_1 : decode cX2_clear 1 = .ok (.iconst 0, 1) := by decide +kernel
theorem dX2_clear_2 : decode cX2_clear 2 = .ok (.putfield 25, 3) := by decide +kernel
theorem dX2_clear_5 : decode cX2_clear 5 = .ok (.aload_n 0, 1) := by decide +kernel
theorem dX2_clear_6 : decode cX2_clear 6 = .ok (.getfield 15, 3) := by decide +kernel
theorem dX2_clear_9 : decode cX2_clear 9 = .ok (.iconst 0, 1) := by decide +kernel
theorem dX2_clear_10 : decode cX2_clear 10 = .ok (.invokestatic 29, 3) := by decide +kernel
theorem dX2_clear_13 : decode cX2_clear 13 = .ok (.return_, 1) := by decide +kernel
theorem dX2_add_0 : decode cX2_add 0 = .ok (.aload_n 0, 1) := by decide +kernel
theorem dX2_add_1 : decode cX2_add 1 = .ok (.getfield 25, 3) := by decide +kernel
theorem dX2_add_4 : decode cX2_add 4 = .ok (.ifCond .lt 13, 3) := by decide +kernel
theorem dX2_add_7 : decode cX2_add 7 = .ok (.aload_n 0, 1) := by decide +kernel
theorem dX2_add_8 : decode cX2_add 8 = .ok (.getfield 25, 3) := by decide +kernel
theorem dX2_add_11 : decode cX2_add 11 = .ok (.sipush 400, 3) := by decide +kernel
theorem dX2_add_14 : decode cX2_add 14 = .ok (.if_icmp .lt 5, 3) := by decide +kernel
theorem dX2_add_17 : decode cX2_add 17 = .ok (.iconst 0, 1) := by decide +kernel
theorem dX2_add_18 : decode cX2_add 18 = .ok (.ireturn, 1) := by decide +kernel
theorem dX2_add_19 : decode cX2_add 19 = .ok (.aload_n 0, 1) := by decide +kernel
theorem dX2_add_20 : decode cX2_add 20 = .ok (.getfield 9, 3) := by decide +kernel
theorem dX2_add_23 : decode cX2_add 23 = .ok (.aload_n 0, 1) := by decide +kernel
theorem dX2_add_24 : decode cX2_add 24 = .ok (.getfield 25, 3) := by decide +kernel
theorem dX2_add_27 : decode cX2_add 27 = .ok (.iload_n 1, 1) := by decide +kernel
theorem dX2_add_28 : decode cX2_add 28 = .ok (.iastore, 1) := by decide +kernel
theorem dX2_add_29 : decode cX2_add 29 = .ok (.aload_n 0, 1) := by decide +kernel
theorem dX2_add_30 : decode cX2_add 30 = .ok (.dup, 1) := by decide +kernel
theorem dX2_add_31 : decode cX2_add 31 = .ok (.getfield 25, 3) := by decide +kernel
theorem dX2_add_34 : decode cX2_add 34 = .ok (.iconst 1, 1) := by decide +kernel
theorem dX2_add_35 : decode cX2_add 35 = .ok (.iadd, 1) := by decide +kernel
theorem dX2_add_36 : decode cX2_add 36 = .ok (.putfield 25, 3) := by decide +kernel
theorem dX2_add_39 : decode cX2_add 39 = .ok (.iconst 1, 1) := by decide +kernel
theorem dX2_add_40 : decode cX2_add 40 = .ok (.ireturn, 1) := by decide +kernel
theorem dX2_copyFrom_0 : decode cX2_copyFrom 0 = .ok (.iconst 0, 1) := by decide +kernel
theorem dX2_copyFrom_1 : decode cX2_copyFrom 1 = .ok (.istore_n 2, 1) := by decide +kernel
theorem dX2_copyFrom_2 : decode cX2_copyFrom 2 = .ok (.iload_n 2, 1) := by decide +kernel
theorem dX2_copyFrom_3 : decode cX2_copyFrom 3 = .ok (.sipush 400, 3) := by decide +kernel
theorem dX2_copyFrom_6 : decode cX2_copyFrom 6 = .ok (.if_icmp .ge 57, 3) := by decide +kernel
theorem dX2_copyFrom_9 : decode cX2_copyFrom 9 = .ok (.aload_n 0, 1) := by decide +kernel
theorem dX2_copyFrom_10 : decode cX2_copyFrom 10 = .ok (.getfield 9, 3) := by decide +kernel
theorem dX2_copyFrom_13 : decode cX2_copyFrom 13 = .ok (.iload_n 2, 1) := by decide +kernel
theorem dX2_copyFrom_14 : decode cX2_copyFrom 14 = .ok (.aload_n 1, 1) := by decide +kernel
theorem dX2_copyFrom_15 : decode cX2_copyFrom 15 = .ok (.getfield 9, 3) := by decide +kernel
theorem dX2_copyFrom_18 : decode cX2_copyFrom 18 = .ok (.iload_n 2, 1) := by decide +kernel
theorem dX2_copyFrom_19 : decode cX2_copyFrom 19 = .ok (.iaload, 1) := by decide +kernel
theorem dX2_copyFrom_20 : decode cX2_copyFrom 20 = .ok (.iastore, 1) := by decide +kernel
theorem dX2_copyFrom_21 : decode cX2_copyFrom 21 = .ok (.aload_n 0, 1) := by decide +kernel
theorem dX2_copyFrom_22 : decode cX2_copyFrom 22 = .ok (.getfield 15, 3) := by decide +kernel
theorem dX2_copyFrom_25 : decode cX2_copyFrom 25 = .ok (.iload_n 2, 1) := by decide +kernel
theorem dX2_copyFrom_26 : decode cX2_copyFrom 26 = .ok (.aload_n 1, 1) := by decide +kernel
theorem dX2_copyFrom_27 : decode cX2_copyFrom 27 = .ok (.getfield 15, 3) := by decide +kernel
theorem dX2_copyFrom_30 : decode cX2_copyFrom 30 = .ok (.iload_n 2, 1) := by decide +kernel
theorem dX2_copyFrom_31 : decode cX2_copyFrom 31 = .ok (.iaload, 1) := by decide +kernel
theorem dX2_copyFrom_32 : decode cX2_copyFrom 32 = .ok (.iastore, 1) := by decide +kernel
theorem dX2_copyFrom_33 : decode cX2_copyFrom 33 = .ok (.aload_n 0, 1) := by decide +kernel
theorem dX2_copyFrom_34 : decode cX2_copyFrom 34 = .ok (.getfield 18, 3) := by decide +kernel
theorem dX2_copyFrom_37 : decode cX2_copyFrom 37 = .ok (.iload_n 2, 1) := by decide +kernel
theorem dX2_copyFrom_38 : decode cX2_copyFrom 38 = .ok (.aload_n 1, 1) := by decide +kernel
theorem dX2_copyFrom_39 : decode cX2_copyFrom 39 = .ok (.getfield 18, 3) := by decide +kernel
theorem dX2_copyFrom_42 : decode cX2_copyFrom 42 = .ok (.iload_n 2, 1) := by decide +kernel
theorem dX2_copyFrom_43 : decode cX2_copyFrom 43 = .ok (.iaload, 1) := by decide +kernel
theorem dX2_copyFrom_44 : decode cX2_copyFrom 44 = .ok (.iastore, 1) := by decide +kernel
theorem dX2_copyFrom_45 : decode cX2_copyFrom 45 = .ok (.aload_n 0, 1) := by decide +kernel
theorem dX2_copyFrom_46 : decode cX2_copyFrom 46 = .ok (.getfield 21, 3) := by decide +kernel
theorem dX2_copyFrom_49 : decode cX2_copyFrom 49 = .ok (.iload_n 2, 1) := by decide +kernel
theorem dX2_copyFrom_50 : decode cX2_copyFrom 50 = .ok (.aload_n 1, 1) := by decide +kernel
theorem dX2_copyFrom_51 : decode cX2_copyFrom 51 = .ok (.getfield 21, 3) := by decide +kernel
theorem dX2_copyFrom_54 : decode cX2_copyFrom 54 = .ok (.iload_n 2, 1) := by decide +kernel
theorem dX2_copyFrom_55 : decode cX2_copyFrom 55 = .ok (.baload, 1) := by decide +kernel
theorem dX2_copyFrom_56 : decode cX2_copyFrom 56 = .ok (.bastore, 1) := by decide +kernel
theorem dX2_copyFrom_57 : decode cX2_copyFrom 57 = .ok (.iinc 2 1, 3) := by decide +kernel
theorem dX2_copyFrom_60 : decode cX2_copyFrom 60 = .ok (.goto (-58), 3) := by decide +kernel
theorem dX2_copyFrom_63 : decode cX2_copyFrom 63 = .ok (.aload_n 0, 1) := by decide +kernel
theorem dX2_copyFrom_64 : decode cX2_copyFrom 64 = .ok (.aload_n 1, 1) := by decide +kernel
theorem dX2_copyFrom_65 : decode cX2_copyFrom 65 = .ok (.getfield 25, 3) := by decide +kernel
theorem dX2_copyFrom_68 : decode cX2_copyFrom 68 = .ok (.putfield 25, 3) := by decide +kernel
theorem dX2_copyFrom_71 : decode cX2_copyFrom 71 = .ok (.return_, 1) := by decide +kernel
theorem dX2_note_0 : decode cX2_note 0 = .ok (.aload_n 0, 1) := by decide +kernel
theorem dX2_note_1 : decode cX2_note 1 = .ok (.iload_n 1, 1) := by decide +kernel
theorem dX2_note_2 : decode cX2_note 2 = .ok (.invokevirtual 35, 3) := by decide +kernel
theorem dX2_note_5 : decode cX2_note 5 = .ok (.ifCond .eq 25, 3) := by decide +kernel
theorem dX2_note_8 : decode cX2_note 8 = .ok (.aload_n 0, 1) := by decide +kernel
theorem dX2_note_9 : decode cX2_note 9 = .ok (.getfield 15, 3) := by decide +kernel
theorem dX2_note_12 : decode cX2_note 12 = .ok (.iload_n 1, 1) := by decide +kernel
theorem dX2_note_13 : decode cX2_note 13 = .ok (.iload_n 2, 1) := by decide +kernel
theorem dX2_note_14 : decode cX2_note 14 = .ok (.iastore, 1) := by decide +kernel
theorem dX2_note_15 : decode cX2_note 15 = .ok (.aload_n 0, 1) := by decide +kernel
theorem dX2_note_16 : decode cX2_note 16 = .ok (.getfield 18, 3) := by decide +kernel
theorem dX2_note_19 : decode cX2_note 19 = .ok (.iload_n 1, 1) := by decide +kernel
theorem dX2_note_20 : decode cX2_note 20 = .ok (.iload_n 3, 1) := by decide +kernel
theorem dX2_note_21 : decode cX2_note 21 = .ok (.iastore, 1) := by decide +kernel
theorem dX2_note_22 : decode cX2_note 22 = .ok (.aload_n 0, 1) := by decide +kernel
theorem dX2_note_23 : decode cX2_note 23 = .ok (.getfield 21, 3) := by decide +kernel
theorem dX2_note_26 : decode cX2_note 26 = .ok (.iload_n 1, 1) := by decide +kernel
theorem dX2_note_27 : decode cX2_note 27 = .ok (.iload 4, 2) := by decide +kernel
theorem dX2_note_29 : decode cX2_note 29 = .ok (.bastore, 1) := by decide +kernel
theorem dX2_note_30 : decode cX2_note 30 = .ok (.return_, 1) := by decide +kernel
theorem dX2_has_0 : decode cX2_has 0 = .ok (.iload_n 1, 1) := by decide +kernel
theorem dX2_has_1 : decode cX2_has 1 = .ok (.ifCond .lt 22, 3) := by decide +kernel
theorem dX2_has_4 : decode cX2_has 4 = .ok (.iload_n 1, 1) := by decide +kernel
theorem dX2_has_5 : decode cX2_has 5 = .ok (.aload_n 0, 1) := by decide +kernel
theorem dX2_has_6 : decode cX2_has 6 = .ok (.getfield 25, 3) := by decide +kernel
theorem dX2_has_9 : decode cX2_has 9 = .ok (.if_icmp .ge 14, 3) := by decide +kernel
theorem dX2_has_12 : decode cX2_has 12 = .ok (.iload_n 1, 1) := by decide +kernel
theorem dX2_has_13 : decode cX2_has 13 = .ok (.sipush 400, 3) := by decide +kernel
theorem dX2_has_16 : decode cX2_has 16 = .ok (.if_icmp .ge 7, 3) := by decide +kernel
theorem dX2_has_19 : decode cX2_has 19 = .ok (.iconst 1, 1) := by decide +kernel
theorem dX2_has_20 : decode cX2_has 20 = .ok (.goto 4, 3) := by decide +kernel
theorem dX2_has_23 : decode cX2_has 23 = .ok (.iconst 0, 1) := by decide +kernel
theorem dX2_has_24 : decode cX2_has 24 = .ok (.ireturn, 1) := by decide +kernel
theorem dX2_size_0 : decode cX2_size 0 = .ok (.aload_n 0, 1) := by decide +kernel
theorem dX2_size_1 : decode cX2_size 1 = .ok (.getfield 25, 3) := by decide +kernel
theorem dX2_size_4 : decode cX2_size 4 = .ok (.ireturn, 1) := by decide +kernel
theorem dX2_tokenAt_0 : decode cX2_tokenAt 0 = .ok (.iload_n 1, 1) := by decide +kernel
theorem dX2_tokenAt_1 : decode cX2_tokenAt 1 = .ok (.ifCond .lt 27, 3) := by decide +kernel
theorem dX2_tokenAt_4 : decode cX2_tokenAt 4 = .ok (.iload_n 1, 1) := by decide +kernel
theorem dX2_tokenAt_5 : decode cX2_tokenAt 5 = .ok (.aload_n 0, 1) := by decide +kernel
theorem dX2_tokenAt_6 : decode cX2_tokenAt 6 = .ok (.getfield 25, 3) := by decide +kernel
theorem dX2_tokenAt_9 : decode cX2_tokenAt 9 = .ok (.if_icmp .ge 19, 3) := by decide +kernel
theorem dX2_tokenAt_12 : decode cX2_tokenAt 12 = .ok (.iload_n 1, 1) := by decide +kernel
theorem dX2_tokenAt_13 : decode cX2_tokenAt 13 = .ok (.sipush 400, 3) := by decide +kernel
theorem dX2_tokenAt_16 : decode cX2_tokenAt 16 = .ok (.if_icmp .ge 12, 3) := by decide +kernel
theorem dX2_tokenAt_19 : decode cX2_tokenAt 19 = .ok (.aload_n 0, 1) := by decide +kernel
theorem dX2_tokenAt_20 : decode cX2_tokenAt 20 = .ok (.getfield 9, 3) := by decide +kernel
theorem dX2_tokenAt_23 : decode cX2_tokenAt 23 = .ok (.iload_n 1, 1) := by decide +kernel
theorem dX2_tokenAt_24 : decode cX2_tokenAt 24 = .ok (.iaload, 1) := by decide +kernel
theorem dX2_tokenAt_25 : decode cX2_tokenAt 25 = .ok (.goto 4, 3) := by decide +kernel
theorem dX2_tokenAt_28 : decode cX2_tokenAt 28 = .ok (.iconst 0, 1) := by decide +kernel
theorem dX2_tokenAt_29 : decode cX2_tokenAt 29 = .ok (.ireturn, 1) := by decide +kernel
theorem dX2_begins_0 : decode cX2_begins 0 = .ok (.aload_n 0, 1) := by decide +kernel
theorem dX2_begins_1 : decode cX2_begins 1 = .ok (.iload_n 1, 1) := by decide +kernel
theorem dX2_begins_2 : decode cX2_begins 2 = .ok (.invokevirtual 35, 3) := by decide +kernel
theorem dX2_begins_5 : decode cX2_begins 5 = .ok (.ifCond .eq 16, 3) := by decide +kernel
theorem dX2_begins_8 : decode cX2_begins 8 = .ok (.aload_n 0, 1) := by decide +kernel
theorem dX2_begins_9 : decode cX2_begins 9 = .ok (.getfield 15, 3) := by decide +kernel
theorem dX2_begins_12 : decode cX2_begins 12 = .ok (.iload_n 1, 1) := by decide +kernel
theorem dX2_begins_13 : decode cX2_begins 13 = .ok (.iaload, 1) := by decide +kernel
theorem dX2_begins_14 : decode cX2_begins 14 = .ok (.ifCond .le 7, 3) := by decide +kernel
theorem dX2_begins_17 : decode cX2_begins 17 = .ok (.iconst 1, 1) := by decide +kernel
theorem dX2_begins_18 : decode cX2_begins 18 = .ok (.goto 4, 3) := by decide +kernel
theorem dX2_begins_21 : decode cX2_begins 21 = .ok (.iconst 0, 1) := by decide +kernel
theorem dX2_begins_22 : decode cX2_begins 22 = .ok (.ireturn, 1) := by decide +kernel
theorem dX2_behind_0 : decode cX2_behind 0 = .ok (.aload_n 0, 1) := by decide +kernel
theorem dX2_behind_1 : decode cX2_behind 1 = .ok (.iload_n 1, 1) := by decide +kernel
theorem dX2_behind_2 : decode cX2_behind 2 = .ok (.invokevirtual 35, 3) := by decide +kernel
theorem dX2_behind_5 : decode cX2_behind 5 = .ok (.ifCond .eq 12, 3) := by decide +kernel
theorem dX2_behind_8 : decode cX2_behind 8 = .ok (.aload_n 0, 1) := by decide +kernel
theorem dX2_behind_9 : decode cX2_behind 9 = .ok (.getfield 15, 3) := by decide +kernel
theorem dX2_behind_12 : decode cX2_behind 12 = .ok (.iload_n 1, 1) := by decide +kernel
theorem dX2_behind_13 : decode cX2_behind 13 = .ok (.iaload, 1) := by decide +kernel
theorem dX2_behind_14 : decode cX2_behind 14 = .ok (.goto 4, 3) := by decide +kernel
theorem dX2_behind_17 : decode cX2_behind 17 = .ok (.iconst 0, 1) := by decide +kernel
theorem dX2_behind_18 : decode cX2_behind 18 = .ok (.ireturn, 1) := by decide +kernel
theorem dX2_masksAround_0 : decode cX2_masksAround 0 = .ok (.aload_n 0, 1) := by decide +kernel
theorem dX2_masksAround_1 : decode cX2_masksAround 1 = .ok (.iload_n 1, 1) := by decide +kernel
theorem dX2_masksAround_2 : decode cX2_masksAround 2 = .ok (.invokevirtual 35, 3) := by decide +kernel
theorem dX2_masksAround_5 : decode cX2_masksAround 5 = .ok (.ifCond .eq 12, 3) := by decide +kernel
theorem dX2_masksAround_8 : decode cX2_masksAround 8 = .ok (.aload_n 0, 1) := by decide +kernel
theorem dX2_masksAround_9 : decode cX2_masksAround 9 = .ok (.getfield 18, 3) := by decide +kernel
theorem dX2_masksAround_12 : decode cX2_masksAround 12 = .ok (.iload_n 1, 1) := by decide +kernel
theorem dX2_masksAround_13 : decode cX2_masksAround 13 = .ok (.iaload, 1) := by decide +kernel
theorem dX2_masksAround_14 : decode cX2_masksAround 14 = .ok (.goto 4, 3) := by decide +kernel
theorem dX2_masksAround_17 : decode cX2_masksAround 17 = .ok (.iconst 0, 1) := by decide +kernel
theorem dX2_masksAround_18 : decode cX2_masksAround 18 = .ok (.ireturn, 1) := by decide +kernel
theorem dX2_isSecret_0 : decode cX2_isSecret 0 = .ok (.aload_n 0, 1) := by decide +kernel
theorem dX2_isSecret_1 : decode cX2_isSecret 1 = .ok (.iload_n 1, 1) := by decide +kernel
theorem dX2_isSecret_2 : decode cX2_isSecret 2 = .ok (.invokevirtual 35, 3) := by decide +kernel
theorem dX2_isSecret_5 : decode cX2_isSecret 5 = .ok (.ifCond .eq 16, 3) := by decide +kernel
theorem dX2_isSecret_8 : decode cX2_isSecret 8 = .ok (.aload_n 0, 1) := by decide +kernel
theorem dX2_isSecret_9 : decode cX2_isSecret 9 = .ok (.getfield 21, 3) := by decide +kernel
theorem dX2_isSecret_12 : decode cX2_isSecret 12 = .ok (.iload_n 1, 1) := by decide +kernel
theorem dX2_isSecret_13 : decode cX2_isSecret 13 = .ok (.baload, 1) := by decide +kernel
theorem dX2_isSecret_14 : decode cX2_isSecret 14 = .ok (.ifCond .eq 7, 3) := by decide +kernel
theorem dX2_isSecret_17 : decode cX2_isSecret 17 = .ok (.iconst 1, 1) := by decide +kernel
theorem dX2_isSecret_18 : decode cX2_isSecret 18 = .ok (.goto 4, 3) := by decide +kernel
theorem dX2_isSecret_21 : decode cX2_isSecret 21 = .ok (.iconst 0, 1) := by decide +kernel
theorem dX2_isSecret_22 : decode cX2_isSecret 22 = .ok (.ireturn, 1) := by decide +kernel
theorem dX2_inside_0 : decode cX2_inside 0 = .ok (.aload_n 0, 1) := by decide +kernel
theorem dX2_inside_1 : decode cX2_inside 1 = .ok (.iload_n 1, 1) := by decide +kernel
theorem dX2_inside_2 : decode cX2_inside 2 = .ok (.invokevirtual 39, 3) := by decide +kernel
theorem dX2_inside_5 : decode cX2_inside 5 = .ok (.lookupswitch 63 #[(1, 59), (2, 59), (6, 59), (20, 59), (21, 59), (35, 59)], 59) := by decide +kernel
theorem dX2_inside_64 : decode cX2_inside 64 = .ok (.iload_n 1, 1) := by decide +kernel
theorem dX2_inside_65 : decode cX2_inside 65 = .ok (.iconst 2, 1) := by decide +kernel
theorem dX2_inside_66 : decode cX2_inside 66 = .ok (.iadd, 1) := by decide +kernel
theorem dX2_inside_67 : decode cX2_inside 67 = .ok (.ireturn, 1) := by decide +kernel
theorem dX2_inside_68 : decode cX2_inside 68 = .ok (.iload_n 1, 1) := by decide +kernel
theorem dX2_inside_69 : decode cX2_inside 69 = .ok (.iconst 1, 1) := by decide +kernel
theorem dX2_inside_70 : decode cX2_inside 70 = .ok (.iadd, 1) := by decide +kernel
theorem dX2_inside_71 : decode cX2_inside 71 = .ok (.ireturn, 1) := by decide +kernel
theorem dX2_endOf_0 : decode cX2_endOf 0 = .ok (.iload_n 1, 1) := by decide +kernel
theorem dX2_endOf_1 : decode cX2_endOf 1 = .ok (.istore_n 2, 1) := by decide +kernel
theorem dX2_endOf_2 : decode cX2_endOf 2 = .ok (.iconst 0, 1) := by decide +kernel
theorem dX2_endOf_3 : decode cX2_endOf 3 = .ok (.istore_n 3, 1) := by decide +kernel
theorem dX2_endOf_4 : decode cX2_endOf 4 = .ok (.iload_n 3, 1) := by decide +kernel
theorem dX2_endOf_5 : decode cX2_endOf 5 = .ok (.sipush 400, 3) := by decide +kernel
theorem dX2_endOf_8 : decode cX2_endOf 8 = .ok (.if_icmp .ge 23, 3) := by decide +kernel
theorem dX2_endOf_11 : decode cX2_endOf 11 = .ok (.aload_n 0, 1) := by decide +kernel
theorem dX2_endOf_12 : decode cX2_endOf 12 = .ok (.iload_n 2, 1) := by decide +kernel
theorem dX2_endOf_13 : decode cX2_endOf 13 = .ok (.invokevirtual 43, 3) := by decide +kernel
theorem dX2_endOf_16 : decode cX2_endOf 16 = .ok (.ifCond .eq 15, 3) := by decide +kernel
theorem dX2_endOf_19 : decode cX2_endOf 19 = .ok (.aload_n 0, 1) := by decide +kernel
theorem dX2_endOf_20 : decode cX2_endOf 20 = .ok (.iload_n 2, 1) := by decide +kernel
theorem dX2_endOf_21 : decode cX2_endOf 21 = .ok (.invokevirtual 46, 3) := by decide +kernel
theorem dX2_endOf_24 : decode cX2_endOf 24 = .ok (.istore_n 2, 1) := by decide +kernel
theorem dX2_endOf_25 : decode cX2_endOf 25 = .ok (.iinc 3 1, 3) := by decide +kernel
theorem dX2_endOf_28 : decode cX2_endOf 28 = .ok (.goto (-24), 3) := by decide +kernel
theorem dX2_endOf_31 : decode cX2_endOf 31 = .ok (.iload_n 2, 1) := by decide +kernel
theorem dX2_endOf_32 : decode cX2_endOf 32 = .ok (.ireturn, 1) := by decide +kernel
theorem dX3_init_0 : decode cX3_init 0 = .ok (.aload_n 0, 1) := by decide +kernel
theorem dX3_init_1 : decode cX3_init 1 = .ok (.invokespecial 3, 3) := by decide +kernel
theorem dX3_init_4 : decode cX3_init 4 = .ok (.aload_n 0, 1) := by decide +kernel
theorem dX3_init_5 : decode cX3_init 5 = .ok (.aload_n 1, 1) := by decide +kernel
theorem dX3_init_6 : decode cX3_init 6 = .ok (.putfield 9, 3) := by decide +kernel
theorem dX3_init_9 : decode cX3_init 9 = .ok (.aload_n 0, 1) := by decide +kernel
theorem dX3_init_10 : decode cX3_init 10 = .ok (.aload_n 2, 1) := by decide +kernel
theorem dX3_init_11 : decode cX3_init 11 = .ok (.putfield 15, 3) := by decide +kernel
theorem dX3_init_14 : decode cX3_init 14 = .ok (.aload_n 0, 1) := by decide +kernel
theorem dX3_init_15 : decode cX3_init 15 = .ok (.iconst (-1), 1) := by decide +kernel
theorem dX3_init_16 : decode cX3_init 16 = .ok (.putfield 19, 3) := by decide +kernel
theorem dX3_init_19 : decode cX3_init 19 = .ok (.return_, 1) := by decide +kernel
theorem dX3_findFault_0 : decode cX3_findFault 0 = .ok (.aload_n 0, 1) := by decide +kernel
theorem dX3_findFault_1 : decode cX3_findFault 1 = .ok (.iconst 0, 1) := by decide +kernel
theorem dX3_findFault_2 : decode cX3_findFault 2 = .ok (.putfield 23, 3) := by decide +kernel
theorem dX3_findFault_5 : decode cX3_findFault 5 = .ok (.aload_n 0, 1) := by decide +kernel
theorem dX3_findFault_6 : decode cX3_findFault 6 = .ok (.iconst 0, 1) := by decide +kernel
theorem dX3_findFault_7 : decode cX3_findFault 7 = .ok (.putfield 26, 3) := by decide +kernel
theorem dX3_findFault_10 : decode cX3_findFault 10 = .ok (.aload_n 0, 1) := by decide +kernel
theorem dX3_findFault_11 : decode cX3_findFault 11 = .ok (.iconst (-1), 1) := by decide +kernel
theorem dX3_findFault_12 : decode cX3_findFault 12 = .ok (.putfield 19, 3) := by decide +kernel
theorem dX3_findFault_15 : decode cX3_findFault 15 = .ok (.aload_n 0, 1) := by decide +kernel
theorem dX3_findFault_16 : decode cX3_findFault 16 = .ok (.iconst 0, 1) := by decide +kernel
theorem dX3_findFault_17 : decode cX3_findFault 17 = .ok (.iconst 0, 1) := by decide +kernel
theorem dX3_findFault_18 : decode cX3_findFault 18 = .ok (.iconst 0, 1) := by decide +kernel
theorem dX3_findFault_19 : decode cX3_findFault 19 = .ok (.invokevirtual 29, 3) := by decide +kernel
theorem dX3_findFault_22 : decode cX3_findFault 22 = .ok (.pop, 1) := by decide +kernel
theorem dX3_findFault_23 : decode cX3_findFault 23 = .ok (.aload_n 0, 1) := by decide +kernel
theorem dX3_findFault_24 : decode cX3_findFault 24 = .ok (.getfield 26, 3) := by decide +kernel
theorem dX3_findFault_27 : decode cX3_findFault 27 = .ok (.ifCond .ne 27, 3) := by decide +kernel
theorem dX3_findFault_30 : decode cX3_findFault 30 = .ok (.aload_n 0, 1) := by decide +kernel
theorem dX3_findFault_31 : decode cX3_findFault 31 = .ok (.getfield 9, 3) := by decide +kernel
theorem dX3_findFault_34 : decode cX3_findFault 34 = .ok (.aload_n 0, 1) := by decide +kernel
theorem dX3_findFault_35 : decode cX3_findFault 35 = .ok (.getfield 23, 3) := by decide +kernel
theorem dX3_findFault_38 : decode cX3_findFault 38 = .ok (.invokevirtual 33, 3) := by decide +kernel
theorem dX3_findFault_41 : decode cX3_findFault 41 = .ok (.ifCond .eq 13, 3) := by decide +kernel
theorem dX3_findFault_44 : decode cX3_findFault 44 = .ok (.aload_n 0, 1) := by decide +kernel
theorem dX3_findFault_45 : decode cX3_findFault 45 = .ok (.bipush (-11), 2) := by decide +kernel
theorem dX3_findFault_47 : decode cX3_findFault 47 = .ok (.aload_n 0, 1) := by decide +kernel
theorem dX3_findFault_48 : decode cX3_findFault 48 = .ok (.getfield 23, 3) := by decide +kernel
theorem dX3_findFault_51 : decode cX3_findFault 51 = .ok (.invokevirtual 39, 3) := by decide +kernel
theorem dX3_findFault_54 : decode cX3_findFault 54 = .ok (.aload_n 0, 1) := by decide +kernel
theorem dX3_findFault_55 : decode cX3_findFault 55 = .ok (.getfield 26, 3) := by decide +kernel
theorem dX3_findFault_58 : decode cX3_findFault 58 = .ok (.ifCond .ne 7, 3) := by decide +kernel
theorem dX3_findFault_61 : decode cX3_findFault 61 = .ok (.aload_n 0, 1) := by decide +kernel
theorem dX3_findFault_62 : decode cX3_findFault 62 = .ok (.invokevirtual 43, 3) := by decide +kernel
theorem dX3_findFault_65 : decode cX3_findFault 65 = .ok (.aload_n 0, 1) := by decide +kernel
theorem dX3_findFault_66 : decode cX3_findFault 66 = .ok (.getfield 26, 3) := by decide +kernel
theorem dX3_findFault_69 : decode cX3_findFault 69 = .ok (.ireturn, 1) := by decide +kernel
theorem dX3_faultPlace_0 : decode cX3_faultPlace 0 = .ok (.aload_n 0, 1) := by decide +kernel
theorem dX3_faultPlace_1 : decode cX3_faultPlace 1 = .ok (.getfield 19, 3) := by decide +kernel
theorem dX3_faultPlace_4 : decode cX3_faultPlace 4 = .ok (.ireturn, 1) := by decide +kernel
theorem dX3_blame_0 : decode cX3_blame 0 = .ok (.aload_n 0, 1) := by decide +kernel
theorem dX3_blame_1 : decode cX3_blame 1 = .ok (.getfield 26, 3) := by decide +kernel
theorem dX3_blame_4 : decode cX3_blame 4 = .ok (.ifCond .ne 13, 3) := by decide +kernel
theorem dX3_blame_7 : decode cX3_blame 7 = .ok (.aload_n 0, 1) := by decide +kernel
theorem dX3_blame_8 : decode cX3_blame 8 = .ok (.iload_n 1, 1) := by decide +kernel
theorem dX3_blame_9 : decode cX3_blame 9 = .ok (.putfield 26, 3) := by decide +kernel
theorem dX3_blame_12 : decode cX3_blame 12 = .ok (.aload_n 0, 1) := by decide +kernel
theorem dX3_blame_13 : decode cX3_blame 13 = .ok (.iload_n 2, 1) := by decide +kernel
theorem dX3_blame_14 : decode cX3_blame 14 = .ok (.putfield 19, 3) := by decide +kernel
theorem dX3_blame_17 : decode cX3_blame 17 = .ok (.return_, 1) := by decide +kernel
theorem dX3_readStatements_0 : decode cX3_readStatements 0 = .ok (.iconst 0, 1) := by decide +kernel
theorem dX3_readStatements_1 : decode cX3_readStatements 1 = .ok (.istore 4, 2) := by decide +kernel
theorem dX3_readStatements_3 : decode cX3_readStatements 3 = .ok (.iload 4, 2) := by decide +kernel
theorem dX3_readStatements_5 : decode cX3_readStatements 5 = .ok (.sipush 400, 3) := by decide +kernel
theorem dX3_readStatements_8 : decode cX3_readStatements 8 = .ok (.if_icmp .gt 77, 3) := by decide +kernel
theorem dX3_readStatements_11 : decode cX3_readStatements 11 = .ok (.aload_n 0, 1) := by decide +kernel
theorem dX3_readStatements_12 : decode cX3_readStatements 12 = .ok (.getfield 26, 3) := by decide +kernel
theorem dX3_readStatements_15 : decode cX3_readStatements 15 = .ok (.ifCond .ne 70, 3) := by decide +kernel
theorem dX3_readStatements_18 : decode cX3_readStatements 18 = .ok (.aload_n 0, 1) := by decide +kernel
theorem dX3_readStatements_19 : decode cX3_readStatements 19 = .ok (.getfield 9, 3) := by decide +kernel
theorem dX3_readStatements_22 : decode cX3_readStatements 22 = .ok (.aload_n 0, 1) := by decide +kernel
theorem dX3_readStatements_23 : decode cX3_readStatements 23 = .ok (.getfield 23, 3) := by decide +kernel
theorem dX3_readStatements_26 : decode cX3_readStatements 26 = .ok (.invokevirtual 46, 3) := by decide +kernel
theorem dX3_readStatements_29 : decode cX3_readStatements 29 = .ok (.istore 5, 2) := by decide +kernel
theorem dX3_readStatements_31 : decode cX3_readStatements 31 = .ok (.aload_n 0, 1) := by decide +kernel
theorem dX3_readStatements_32 : decode cX3_readStatements 32 = .ok (.getfield 9, 3) := by decide +kernel
theorem dX3_readStatements_35 : decode cX3_readStatements 35 = .ok (.aload_n 0, 1) := by decide +kernel
theorem dX3_readStatements_36 : decode cX3_readStatements 36 = .ok (.getfield 23, 3) := by decide +kernel
theorem dX3_readStatements_39 : decode cX3_readStatements 39 = .ok (.invokevirtual 33, 3) := by decide +kernel
theorem dX3_readStatements_42 : decode cX3_readStatements 42 = .ok (.ifCond .eq 31, 3) := by decide +kernel
theorem dX3_readStatements_45 : decode cX3_readStatements 45 = .ok (.iload 5, 2) := by decide +kernel
theorem dX3_readStatements_47 : decode cX3_readStatements 47 = .ok (.ifCond .eq 13, 3) := by decide +kernel
theorem dX3_readStatements_50 : decode cX3_readStatements 50 = .ok (.iload 5, 2) := by decide +kernel
theorem dX3_readStatements_52 : decode cX3_readStatements 52 = .ok (.iconst 4, 1) := by decide +kernel
theorem dX3_readStatements_53 : decode cX3_readStatements 53 = .ok (.if_icmp .ne 20, 3) := by decide +kernel
theorem dX3_readStatements_56 : decode cX3_readStatements 56 = .ok (.iload_n 1, 1) := by decide +kernel
theorem dX3_readStatements_57 : decode cX3_readStatements 57 = .ok (.ifCond .eq 16, 3) := by decide +kernel
theorem dX3_readStatements_60 : decode cX3_readStatements 60 = .ok (.aload_n 0, 1) := by decide +kernel
theorem dX3_readStatements_61 : decode cX3_readStatements 61 = .ok (.dup, 1) := by decide +kernel
theorem dX3_readStatements_62 : decode cX3_readStatements 62 = .ok (.getfield 23, 3) := by decide +kernel
theorem dX3_readStatements_65 : decode cX3_readStatements 65 = .ok (.iconst 1, 1) := by decide +kernel
theorem dX3_readStatements_66 : decode cX3_readStatements 66 = .ok (.iadd, 1) := by decide +kernel
theorem dX3_readStatements_67 : decode cX3_readStatements 67 = .ok (.putfield 23, 3) := by decide +kernel
theorem dX3_readStatements_70 : decode cX3_readStatements 70 = .ok (.iload 5, 2) := by decide +kernel
theorem dX3_readStatements_72 : decode cX3_readStatements 72 = .ok (.ireturn, 1) := by decide +kernel
theorem dX3_readStatements_73 : decode cX3_readStatements 73 = .ok (.aload_n 0, 1) := by decide +kernel
theorem dX3_readStatements_74 : decode cX3_readStatements 74 = .ok (.iload_n 2, 1) := by decide +kernel
theorem dX3_readStatements_75 : decode cX3_readStatements 75 = .ok (.iload_n 3, 1) := by decide +kernel
theorem dX3_readStatements_76 : decode cX3_readStatements 76 = .ok (.invokevirtual 50, 3) := by decide +kernel
theorem dX3_readStatements_79 : decode cX3_readStatements 79 = .ok (.iinc 4 1, 3) := by decide +kernel
theorem dX3_readStatements_82 : decode cX3_readStatements 82 = .ok (.goto (-79), 3) := by decide +kernel
theorem dX3_readStatements_85 : decode cX3_readStatements 85 = .ok (.iconst 0, 1) := by decide +kernel
theorem dX3_readStatements_86 : decode cX3_readStatements 86 = .ok (.ireturn, 1) := by decide +kernel
theorem dX3_readStatement_0 : decode cX3_readStatement 0 = .ok (.aload_n 0, 1) := by decide +kernel
theorem dX3_readStatement_1 : decode cX3_readStatement 1 = .ok (.getfield 23, 3) := by decide +kernel
theorem dX3_readStatement_4 : decode cX3_readStatement 4 = .ok (.istore_n 3, 1) := by decide +kernel
theorem dX3_readStatement_5 : decode cX3_readStatement 5 = .ok (.aload_n 0, 1) := by decide +kernel
theorem dX3_readStatement_6 : decode cX3_readStatement 6 = .ok (.getfield 9, 3) := by decide +kernel
theorem dX3_readStatement_9 : decode cX3_readStatement 9 = .ok (.iload_n 3, 1) := by decide +kernel
theorem dX3_readStatement_10 : decode cX3_readStatement 10 = .ok (.invokevirtual 46, 3) := by decide +kernel
theorem dX3_readStatement_13 : decode cX3_readStatement 13 = .ok (.istore 4, 2) := by decide +kernel
theorem dX3_readStatement_15 : decode cX3_readStatement 15 = .ok (.aload_n 0, 1) := by decide +kernel
theorem dX3_readStatement_16 : decode cX3_readStatement 16 = .ok (.iload 4, 2) := by decide +kernel
theorem dX3_readStatement_18 : decode cX3_readStatement 18 = .ok (.iconst 1, 1) := by decide +kernel
theorem dX3_readStatement_19 : decode cX3_readStatement 19 = .ok (.if_icmp .lt 20, 3) := by decide +kernel
theorem dX3_readStatement_22 : decode cX3_readStatement 22 = .ok (.iload 4, 2) := by decide +kernel
theorem dX3_readStatement_24 : decode cX3_readStatement 24 = .ok (.bipush 7, 2) := by decide +kernel
theorem dX3_readStatement_26 : decode cX3_readStatement 26 = .ok (.if_icmp .gt 13, 3) := by decide +kernel
theorem dX3_readStatement_29 : decode cX3_readStatement 29 = .ok (.iload 4, 2) := by decide +kernel
theorem dX3_readStatement_31 : decode cX3_readStatement 31 = .ok (.iconst 4, 1) := by decide +kernel
theorem dX3_readStatement_32 : decode cX3_readStatement 32 = .ok (.if_icmp .eq 7, 3) := by decide +kernel
theorem dX3_readStatement_35 : decode cX3_readStatement 35 = .ok (.iconst 1, 1) := by decide +kernel
theorem dX3_readStatement_36 : decode cX3_readStatement 36 = .ok (.goto 4, 3) := by decide +kernel
theorem dX3_readStatement_39 : decode cX3_readStatement 39 = .ok (.iconst 0, 1) := by decide +kernel
theorem dX3_readStatement_40 : decode cX3_readStatement 40 = .ok (.iload_n 1, 1) := by decide +kernel
theorem dX3_readStatement_41 : decode cX3_readStatement 41 = .ok (.invokevirtual 53, 3) := by decide +kernel
theorem dX3_readStatement_44 : decode cX3_readStatement 44 = .ok (.ifCond .ne 4, 3) := by decide +kernel
theorem dX3_readStatement_47 : decode cX3_readStatement 47 = .ok (.return_, 1) := by decide +kernel
theorem dX3_readStatement_48 : decode cX3_readStatement 48 = .ok (.iconst 0, 1) := by decide +kernel
theorem dX3_readStatement_49 : decode cX3_readStatement 49 = .ok (.istore 5, 2) := by decide +kernel
theorem dX3_readStatement_51 : decode cX3_readStatement 51 = .ok (.iload 4, 2) := by decide +kernel
theorem dX3_readStatement_53 : decode cX3_readStatement 53 = .ok (.tableswitch 200 1 6 #[39, 59, 105, 200, 157, 180], 39) := by decide +kernel
theorem dX3_readStatement_92 : decode cX3_readStatement 92 = .ok (.aload_n 0, 1) := by decide +kernel
theorem dX3_readStatement_93 : decode cX3_readStatement 93 = .ok (.bipush 10, 2) := by decide +kernel
theorem dX3_readStatement_95 : decode cX3_readStatement 95 = .ok (.invokevirtual 57, 3) := by decide +kernel
theorem dX3_readStatement_98 : decode cX3_readStatement 98 = .ok (.pop, 1) := by decide +kernel
theorem dX3_readStatement_99 : decode cX3_readStatement 99 = .ok (.aload_n 0, 1) := by decide +kernel
theorem dX3_readStatement_100 : decode cX3_readStatement 100 = .ok (.iload_n 1, 1) := by decide +kernel
theorem dX3_readStatement_101 : decode cX3_readStatement 101 = .ok (.iconst 1, 1) := by decide +kernel
theorem dX3_readStatement_102 : decode cX3_readStatement 102 = .ok (.iadd, 1) := by decide +kernel
theorem dX3_readStatement_103 : decode cX3_readStatement 103 = .ok (.iload_n 2, 1) := by decide +kernel
theorem dX3_readStatement_104 : decode cX3_readStatement 104 = .ok (.invokevirtual 60, 3) := by decide +kernel
theorem dX3_readStatement_107 : decode cX3_readStatement 107 = .ok (.istore 5, 2) := by decide +kernel
theorem dX3_readStatement_109 : decode cX3_readStatement 109 = .ok (.goto 154, 3) := by decide +kernel
theorem dX3_readStatement_112 : decode cX3_readStatement 112 = .ok (.aload_n 0, 1) := by decide +kernel
theorem dX3_readStatement_113 : decode cX3_readStatement 113 = .ok (.iconst 4, 1) := by decide +kernel
theorem dX3_readStatement_114 : decode cX3_readStatement 114 = .ok (.invokevirtual 57, 3) := by decide +kernel
theorem dX3_readStatement_117 : decode cX3_readStatement 117 = .ok (.pop, 1) := by decide +kernel
theorem dX3_readStatement_118 : decode cX3_readStatement 118 = .ok (.aload_n 0, 1) := by decide +kernel
theorem dX3_readStatement_119 : decode cX3_readStatement 119 = .ok (.iload_n 1, 1) := by decide +kernel
theorem dX3_readStatement_120 : decode cX3_readStatement 120 = .ok (.iconst 1, 1) := by decide +kernel
theorem dX3_readStatement_121 : decode cX3_readStatement 121 = .ok (.iadd, 1) := by decide +kernel
theorem dX3_readStatement_122 : decode cX3_readStatement 122 = .ok (.iload_n 2, 1) := by decide +kernel
theorem dX3_readStatement_123 : decode cX3_readStatement 123 = .ok (.invokevirtual 60, 3) := by decide +kernel
theorem dX3_readStatement_126 : decode cX3_readStatement 126 = .ok (.istore 6, 2) := by decide +kernel
theorem dX3_readStatement_128 : decode cX3_readStatement 128 = .ok (.aload_n 0, 1) := by decide +kernel
theorem dX3_readStatement_129 : decode cX3_readStatement 129 = .ok (.iload_n 1, 1) := by decide +kernel
theorem dX3_readStatement_130 : decode cX3_readStatement 130 = .ok (.iconst 1, 1) := by decide +kernel
theorem dX3_readStatement_131 : decode cX3_readStatement 131 = .ok (.iadd, 1) := by decide +kernel
theorem dX3_readStatement_132 : decode cX3_readStatement 132 = .ok (.iload_n 2, 1) := by decide +kernel
theorem dX3_readStatement_133 : decode cX3_readStatement 133 = .ok (.invokevirtual 60, 3) := by decide +kernel
theorem dX3_readStatement_136 : decode cX3_readStatement 136 = .ok (.istore 7, 2) := by decide +kernel
theorem dX3_readStatement_138 : decode cX3_readStatement 138 = .ok (.iload 6, 2) := by decide +kernel
theorem dX3_readStatement_140 : decode cX3_readStatement 140 = .ok (.ifCond .ne 8, 3) := by decide +kernel
theorem dX3_readStatement_143 : decode cX3_readStatement 143 = .ok (.iload 7, 2) := by decide +kernel
theorem dX3_readStatement_145 : decode cX3_readStatement 145 = .ok (.ifCond .eq 7, 3) := by decide +kernel
theorem dX3_readStatement_148 : decode cX3_readStatement 148 = .ok (.iconst 1, 1) := by decide +kernel
theorem dX3_readStatement_149 : decode cX3_readStatement 149 = .ok (.goto 4, 3) := by decide +kernel
theorem dX3_readStatement_152 : decode cX3_readStatement 152 = .ok (.iconst 0, 1) := by decide +kernel
theorem dX3_readStatement_153 : decode cX3_readStatement 153 = .ok (.istore 5, 2) := by decide +kernel
theorem dX3_readStatement_155 : decode cX3_readStatement 155 = .ok (.goto 108, 3) := by decide +kernel
theorem dX3_readStatement_158 : decode cX3_readStatement 158 = .ok (.aload_n 0, 1) := by decide +kernel
theorem dX3_readStatement_159 : decode cX3_readStatement 159 = .ok (.iload_n 1, 1) := by decide +kernel
theorem dX3_readStatement_160 : decode cX3_readStatement 160 = .ok (.iconst 1, 1) := by decide +kernel
theorem dX3_readStatement_161 : decode cX3_readStatement 161 = .ok (.iadd, 1) := by decide +kernel
theorem dX3_readStatement_162 : decode cX3_readStatement 162 = .ok (.iload_n 2, 1) := by decide +kernel
theorem dX3_readStatement_163 : decode cX3_readStatement 163 = .ok (.invokevirtual 60, 3) := by decide +kernel
theorem dX3_readStatement_166 : decode cX3_readStatement 166 = .ok (.istore 5, 2) := by decide +kernel
theorem dX3_readStatement_168 : decode cX3_readStatement 168 = .ok (.iload 5, 2) := by decide +kernel
theorem dX3_readStatement_170 : decode cX3_readStatement 170 = .ok (.ifCond .eq 9, 3) := by decide +kernel
theorem dX3_readStatement_173 : decode cX3_readStatement 173 = .ok (.iload_n 2, 1) := by decide +kernel
theorem dX3_readStatement_174 : decode cX3_readStatement 174 = .ok (.iconst 1, 1) := by decide +kernel
theorem dX3_readStatement_175 : decode cX3_readStatement 175 = .ok (.iadd, 1) := by decide +kernel
theorem dX3_readStatement_176 : decode cX3_readStatement 176 = .ok (.goto 4, 3) := by decide +kernel
theorem dX3_readStatement_179 : decode cX3_readStatement 179 = .ok (.iload_n 2, 1) := by decide +kernel
theorem dX3_readStatement_180 : decode cX3_readStatement 180 = .ok (.istore 8, 2) := by decide +kernel
theorem dX3_readStatement_182 : decode cX3_readStatement 182 = .ok (.aload_n 0, 1) := by decide +kernel
theorem dX3_readStatement_183 : decode cX3_readStatement 183 = .ok (.iconst 1, 1) := by decide +kernel
theorem dX3_readStatement_184 : decode cX3_readStatement 184 = .ok (.iload_n 1, 1) := by decide +kernel
theorem dX3_readStatement_185 : decode cX3_readStatement 185 = .ok (.iconst 1, 1) := by decide +kernel
theorem dX3_readStatement_186 : decode cX3_readStatement 186 = .ok (.iadd, 1) := by decide +kernel
theorem dX3_readStatement_187 : decode cX3_readStatement 187 = .ok (.iload 8, 2) := by decide +kernel
theorem dX3_readStatement_189 : decode cX3_readStatement 189 = .ok (.invokevirtual 29, 3) := by decide +kernel
theorem dX3_readStatement_192 : decode cX3_readStatement 192 = .ok (.iconst 4, 1) := by decide +kernel
theorem dX3_readStatement_193 : decode cX3_readStatement 193 = .ok (.if_icmp .ne 70, 3) := by decide +kernel
theorem dX3_readStatement_196 : decode cX3_readStatement 196 = .ok (.aload_n 0, 1) := by decide +kernel
theorem dX3_readStatement_197 : decode cX3_readStatement 197 = .ok (.iconst 0, 1) := by decide +kernel
theorem dX3_readStatement_198 : decode cX3_readStatement 198 = .ok (.iload_n 1, 1) := by decide +kernel
theorem dX3_readStatement_199 : decode cX3_readStatement 199 = .ok (.iconst 1, 1) := by decide +kernel
theorem dX3_readStatement_200 : decode cX3_readStatement 200 = .ok (.iadd, 1) := by decide +kernel
theorem dX3_readStatement_201 : decode cX3_readStatement 201 = .ok (.iload 8, 2) := by decide +kernel
theorem dX3_readStatement_203 : decode cX3_readStatement 203 = .ok (.invokevirtual 29, 3) := by decide +kernel
theorem dX3_readStatement_206 : decode cX3_readStatement 206 = .ok (.pop, 1) := by decide +kernel
theorem dX3_readStatement_207 : decode cX3_readStatement 207 = .ok (.goto 56, 3) := by decide +kernel
theorem dX3_readStatement_210 : decode cX3_readStatement 210 = .ok (.aload_n 0, 1) := by decide +kernel
theorem dX3_readStatement_211 : decode cX3_readStatement 211 = .ok (.iload_n 1, 1) := by decide +kernel
theorem dX3_readStatement_212 : decode cX3_readStatement 212 = .ok (.iconst 1, 1) := by decide +kernel
theorem dX3_readStatement_213 : decode cX3_readStatement 213 = .ok (.iadd, 1) := by decide +kernel
theorem dX3_readStatement_214 : decode cX3_readStatement 214 = .ok (.iload_n 2, 1) := by decide +kernel
theorem dX3_readStatement_215 : decode cX3_readStatement 215 = .ok (.invokevirtual 60, 3) := by decide +kernel
theorem dX3_readStatement_218 : decode cX3_readStatement 218 = .ok (.istore 5, 2) := by decide +kernel
theorem dX3_readStatement_220 : decode cX3_readStatement 220 = .ok (.aload_n 0, 1) := by decide +kernel
theorem dX3_readStatement_221 : decode cX3_readStatement 221 = .ok (.iconst 0, 1) := by decide +kernel
theorem dX3_readStatement_222 : decode cX3_readStatement 222 = .ok (.iload_n 1, 1) := by decide +kernel
theorem dX3_readStatement_223 : decode cX3_readStatement 223 = .ok (.iconst 1, 1) := by decide +kernel
theorem dX3_readStatement_224 : decode cX3_readStatement 224 = .ok (.iadd, 1) := by decide +kernel
theorem dX3_readStatement_225 : decode cX3_readStatement 225 = .ok (.iload_n 2, 1) := by decide +kernel
theorem dX3_readStatement_226 : decode cX3_readStatement 226 = .ok (.invokevirtual 29, 3) := by decide +kernel
theorem dX3_readStatement_229 : decode cX3_readStatement 229 = .ok (.pop, 1) := by decide +kernel
theorem dX3_readStatement_230 : decode cX3_readStatement 230 = .ok (.goto 33, 3) := by decide +kernel
theorem dX3_readStatement_233 : decode cX3_readStatement 233 = .ok (.aload_n 0, 1) := by decide +kernel
theorem dX3_readStatement_234 : decode cX3_readStatement 234 = .ok (.bipush 21, 2) := by decide +kernel
theorem dX3_readStatement_236 : decode cX3_readStatement 236 = .ok (.invokevirtual 57, 3) := by decide +kernel
theorem dX3_readStatement_239 : decode cX3_readStatement 239 = .ok (.pop, 1) := by decide +kernel
theorem dX3_readStatement_240 : decode cX3_readStatement 240 = .ok (.aload_n 0, 1) := by decide +kernel
theorem dX3_readStatement_241 : decode cX3_readStatement 241 = .ok (.iconst 0, 1) := by decide +kernel
theorem dX3_readStatement_242 : decode cX3_readStatement 242 = .ok (.iload_n 1, 1) := by decide +kernel
theorem dX3_readStatement_243 : decode cX3_readStatement 243 = .ok (.iconst 1, 1) := by decide +kernel
theorem dX3_readStatement_244 : decode cX3_readStatement 244 = .ok (.iadd, 1) := by decide +kernel
theorem dX3_readStatement_245 : decode cX3_readStatement 245 = .ok (.iload_n 2, 1) := by decide +kernel
theorem dX3_readStatement_246 : decode cX3_readStatement 246 = .ok (.invokevirtual 29, 3) := by decide +kernel
theorem dX3_readStatement_249 : decode cX3_readStatement 249 = .ok (.pop, 1) := by decide +kernel
theorem dX3_readStatement_250 : decode cX3_readStatement 250 = .ok (.goto 13, 3) := by decide +kernel
theorem dX3_readStatement_253 : decode cX3_readStatement 253 = .ok (.aload_n 0, 1) := by decide +kernel
theorem dX3_readStatement_254 : decode cX3_readStatement 254 = .ok (.iload_n 1, 1) := by decide +kernel
theorem dX3_readStatement_255 : decode cX3_readStatement 255 = .ok (.iconst 1, 1) := by decide +kernel
theorem dX3_readStatement_256 : decode cX3_readStatement 256 = .ok (.iadd, 1) := by decide +kernel
theorem dX3_readStatement_257 : decode cX3_readStatement 257 = .ok (.iload_n 2, 1) := by decide +kernel
theorem dX3_readStatement_258 : decode cX3_readStatement 258 = .ok (.invokevirtual 60, 3) := by decide +kernel
theorem dX3_readStatement_261 : decode cX3_readStatement 261 = .ok (.istore 5, 2) := by decide +kernel
theorem dX3_readStatement_263 : decode cX3_readStatement 263 = .ok (.aload_n 0, 1) := by decide +kernel
theorem dX3_readStatement_264 : decode cX3_readStatement 264 = .ok (.getfield 9, 3) := by decide +kernel
theorem dX3_readStatement_267 : decode cX3_readStatement 267 = .ok (.iload_n 3, 1) := by decide +kernel
theorem dX3_readStatement_268 : decode cX3_readStatement 268 = .ok (.aload_n 0, 1) := by decide +kernel
theorem dX3_readStatement_269 : decode cX3_readStatement 269 = .ok (.getfield 23, 3) := by decide +kernel
theorem dX3_readStatement_272 : decode cX3_readStatement 272 = .ok (.iload_n 2, 1) := by decide +kernel
theorem dX3_readStatement_273 : decode cX3_readStatement 273 = .ok (.iload 5, 2) := by decide +kernel
theorem dX3_readStatement_275 : decode cX3_readStatement 275 = .ok (.invokevirtual 64, 3) := by decide +kernel
theorem dX3_readStatement_278 : decode cX3_readStatement 278 = .ok (.return_, 1) := by decide +kernel
theorem dX3_readExpression_0 : decode cX3_readExpression 0 = .ok (.aload_n 0, 1) := by decide +kernel
theorem dX3_readExpression_1 : decode cX3_readExpression 1 = .ok (.getfield 23, 3) := by decide +kernel
theorem dX3_readExpression_4 : decode cX3_readExpression 4 = .ok (.istore_n 3, 1) := by decide +kernel
theorem dX3_readExpression_5 : decode cX3_readExpression 5 = .ok (.aload_n 0, 1) := by decide +kernel
theorem dX3_readExpression_6 : decode cX3_readExpression 6 = .ok (.getfield 9, 3) := by decide +kernel
theorem dX3_readExpression_9 : decode cX3_readExpression 9 = .ok (.iload_n 3, 1) := by decide +kernel
