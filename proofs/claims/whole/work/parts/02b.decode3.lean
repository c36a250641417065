theorem dX10_init_130 : decode cX10_init 130 = .ok (.iastore, 1) := by decide +kernel
theorem dX10_init_131 : decode cX10_init 131 = .ok (.iinc 1 1, 3) := by decide +kernel
theorem dX10_init_134 : decode cX10_init 134 = .ok (.goto (-15), 3) := by decide +kernel
theorem dX10_init_137 : decode cX10_init 137 = .ok (.return_, 1) := by decide +kernel
theorem dX10_isIn_0 : decode cX10_isIn 0 = .ok (.iload_n 0, 1) := by decide +kernel
theorem dX10_isIn_1 : decode cX10_isIn 1 = .ok (.iload_n 1, 1) := by decide +kernel
theorem dX10_isIn_2 : decode cX10_isIn 2 = .ok (.if_icmp .lt 12, 3) := by decide +kernel
theorem dX10_isIn_5 : decode cX10_isIn 5 = .ok (.iload_n 0, 1) := by decide +kernel
theorem dX10_isIn_6 : decode cX10_isIn 6 = .ok (.iload_n 2, 1) := by decide +kernel
theorem dX10_isIn_7 : decode cX10_isIn 7 = .ok (.if_icmp .gt 7, 3) := by decide +kernel
theorem dX10_isIn_10 : decode cX10_isIn 10 = .ok (.iconst 1, 1) := by decide +kernel
theorem dX10_isIn_11 : decode cX10_isIn 11 = .ok (.goto 4, 3) := by decide +kernel
theorem dX10_isIn_14 : decode cX10_isIn 14 = .ok (.iconst 0, 1) := by decide +kernel
theorem dX10_isIn_15 : decode cX10_isIn 15 = .ok (.ireturn, 1) := by decide +kernel
theorem dX10_variable_0 : decode cX10_variable 0 = .ok (.iload_n 1, 1) := by decide +kernel
theorem dX10_variable_1 : decode cX10_variable 1 = .ok (.iconst 0, 1) := by decide +kernel
theorem dX10_variable_2 : decode cX10_variable 2 = .ok (.bipush 9, 2) := by decide +kernel
theorem dX10_variable_4 : decode cX10_variable 4 = .ok (.invokestatic 54, 3) := by decide +kernel
theorem dX10_variable_7 : decode cX10_variable 7 = .ok (.ifCond .ne 6, 3) := by decide +kernel
theorem dX10_variable_10 : decode cX10_variable 10 = .ok (.bipush (-2), 2) := by decide +kernel
theorem dX10_variable_12 : decode cX10_variable 12 = .ok (.ireturn, 1) := by decide +kernel
theorem dX10_variable_13 : decode cX10_variable 13 = .ok (.aload_n 0, 1) := by decide +kernel
theorem dX10_variable_14 : decode cX10_variable 14 = .ok (.getfield 13, 3) := by decide +kernel
theorem dX10_variable_17 : decode cX10_variable 17 = .ok (.iload_n 1, 1) := by decide +kernel
theorem dX10_variable_18 : decode cX10_variable 18 = .ok (.baload, 1) := by decide +kernel
theorem dX10_variable_19 : decode cX10_variable 19 = .ok (.istore_n 3, 1) := by decide +kernel
theorem dX10_variable_20 : decode cX10_variable 20 = .ok (.aload_n 0, 1) := by decide +kernel
theorem dX10_variable_21 : decode cX10_variable 21 = .ok (.getfield 13, 3) := by decide +kernel
theorem dX10_variable_24 : decode cX10_variable 24 = .ok (.iload_n 1, 1) := by decide +kernel
theorem dX10_variable_25 : decode cX10_variable 25 = .ok (.iload_n 2, 1) := by decide +kernel
theorem dX10_variable_26 : decode cX10_variable 26 = .ok (.bastore, 1) := by decide +kernel
theorem dX10_variable_27 : decode cX10_variable 27 = .ok (.aload_n 0, 1) := by decide +kernel
theorem dX10_variable_28 : decode cX10_variable 28 = .ok (.iconst 0, 1) := by decide +kernel
theorem dX10_variable_29 : decode cX10_variable 29 = .ok (.putfield 58, 3) := by decide +kernel
theorem dX10_variable_32 : decode cX10_variable 32 = .ok (.iload_n 3, 1) := by decide +kernel
theorem dX10_variable_33 : decode cX10_variable 33 = .ok (.ifCond .eq 7, 3) := by decide +kernel
theorem dX10_variable_36 : decode cX10_variable 36 = .ok (.iconst 1, 1) := by decide +kernel
theorem dX10_variable_37 : decode cX10_variable 37 = .ok (.goto 4, 3) := by decide +kernel
theorem dX10_variable_40 : decode cX10_variable 40 = .ok (.iconst 0, 1) := by decide +kernel
theorem dX10_variable_41 : decode cX10_variable 41 = .ok (.ireturn, 1) := by decide +kernel
theorem dX10_table_0 : decode cX10_table 0 = .ok (.iload_n 1, 1) := by decide +kernel
theorem dX10_table_1 : decode cX10_table 1 = .ok (.iconst 0, 1) := by decide +kernel
theorem dX10_table_2 : decode cX10_table 2 = .ok (.iconst 3, 1) := by decide +kernel
theorem dX10_table_3 : decode cX10_table 3 = .ok (.invokestatic 54, 3) := by decide +kernel
theorem dX10_table_6 : decode cX10_table 6 = .ok (.ifCond .eq 13, 3) := by decide +kernel
theorem dX10_table_9 : decode cX10_table 9 = .ok (.iload_n 3, 1) := by decide +kernel
theorem dX10_table_10 : decode cX10_table 10 = .ok (.iconst 1, 1) := by decide +kernel
theorem dX10_table_11 : decode cX10_table 11 = .ok (.bipush 16, 2) := by decide +kernel
theorem dX10_table_13 : decode cX10_table 13 = .ok (.invokestatic 54, 3) := by decide +kernel
theorem dX10_table_16 : decode cX10_table 16 = .ok (.ifCond .ne 6, 3) := by decide +kernel
theorem dX10_table_19 : decode cX10_table 19 = .ok (.bipush (-2), 2) := by decide +kernel
theorem dX10_table_21 : decode cX10_table 21 = .ok (.ireturn, 1) := by decide +kernel
theorem dX10_table_22 : decode cX10_table 22 = .ok (.aload_n 0, 1) := by decide +kernel
theorem dX10_table_23 : decode cX10_table 23 = .ok (.getfield 26, 3) := by decide +kernel
theorem dX10_table_26 : decode cX10_table 26 = .ok (.iload_n 1, 1) := by decide +kernel
theorem dX10_table_27 : decode cX10_table 27 = .ok (.iaload, 1) := by decide +kernel
theorem dX10_table_28 : decode cX10_table 28 = .ok (.istore 4, 2) := by decide +kernel
theorem dX10_table_30 : decode cX10_table 30 = .ok (.aload_n 0, 1) := by decide +kernel
theorem dX10_table_31 : decode cX10_table 31 = .ok (.getfield 17, 3) := by decide +kernel
theorem dX10_table_34 : decode cX10_table 34 = .ok (.iload_n 1, 1) := by decide +kernel
theorem dX10_table_35 : decode cX10_table 35 = .ok (.iload_n 2, 1) := by decide +kernel
theorem dX10_table_36 : decode cX10_table 36 = .ok (.bastore, 1) := by decide +kernel
theorem dX10_table_37 : decode cX10_table 37 = .ok (.aload_n 0, 1) := by decide +kernel
theorem dX10_table_38 : decode cX10_table 38 = .ok (.getfield 26, 3) := by decide +kernel
theorem dX10_table_41 : decode cX10_table 41 = .ok (.iload_n 1, 1) := by decide +kernel
theorem dX10_table_42 : decode cX10_table 42 = .ok (.iload_n 3, 1) := by decide +kernel
theorem dX10_table_43 : decode cX10_table 43 = .ok (.iastore, 1) := by decide +kernel
theorem dX10_table_44 : decode cX10_table 44 = .ok (.iconst 0, 1) := by decide +kernel
theorem dX10_table_45 : decode cX10_table 45 = .ok (.istore 5, 2) := by decide +kernel
theorem dX10_table_47 : decode cX10_table 47 = .ok (.iload 5, 2) := by decide +kernel
theorem dX10_table_49 : decode cX10_table 49 = .ok (.bipush 16, 2) := by decide +kernel
theorem dX10_table_51 : decode cX10_table 51 = .ok (.if_icmp .ge 22, 3) := by decide +kernel
theorem dX10_table_54 : decode cX10_table 54 = .ok (.aload_n 0, 1) := by decide +kernel
theorem dX10_table_55 : decode cX10_table 55 = .ok (.getfield 23, 3) := by decide +kernel
theorem dX10_table_58 : decode cX10_table 58 = .ok (.bipush 16, 2) := by decide +kernel
theorem dX10_table_60 : decode cX10_table 60 = .ok (.iload_n 1, 1) := by decide +kernel
theorem dX10_table_61 : decode cX10_table 61 = .ok (.imul, 1) := by decide +kernel
theorem dX10_table_62 : decode cX10_table 62 = .ok (.iload 5, 2) := by decide +kernel
theorem dX10_table_64 : decode cX10_table 64 = .ok (.iadd, 1) := by decide +kernel
theorem dX10_table_65 : decode cX10_table 65 = .ok (.iconst 0, 1) := by decide +kernel
theorem dX10_table_66 : decode cX10_table 66 = .ok (.iastore, 1) := by decide +kernel
theorem dX10_table_67 : decode cX10_table 67 = .ok (.iinc 5 1, 3) := by decide +kernel
theorem dX10_table_70 : decode cX10_table 70 = .ok (.goto (-23), 3) := by decide +kernel
theorem dX10_table_73 : decode cX10_table 73 = .ok (.aload_n 0, 1) := by decide +kernel
theorem dX10_table_74 : decode cX10_table 74 = .ok (.iconst 0, 1) := by decide +kernel
theorem dX10_table_75 : decode cX10_table 75 = .ok (.putfield 58, 3) := by decide +kernel
theorem dX10_table_78 : decode cX10_table 78 = .ok (.iload 4, 2) := by decide +kernel
theorem dX10_table_80 : decode cX10_table 80 = .ok (.ireturn, 1) := by decide +kernel
theorem dX10_token_0 : decode cX10_token 0 = .ok (.aload_n 0, 1) := by decide +kernel
theorem dX10_token_1 : decode cX10_token 1 = .ok (.getfield 62, 3) := by decide +kernel
theorem dX10_token_4 : decode cX10_token 4 = .ok (.sipush 400, 3) := by decide +kernel
theorem dX10_token_7 : decode cX10_token 7 = .ok (.if_icmp .ne 6, 3) := by decide +kernel
theorem dX10_token_10 : decode cX10_token 10 = .ok (.bipush (-3), 2) := by decide +kernel
theorem dX10_token_12 : decode cX10_token 12 = .ok (.ireturn, 1) := by decide +kernel
theorem dX10_token_13 : decode cX10_token 13 = .ok (.aload_n 0, 1) := by decide +kernel
theorem dX10_token_14 : decode cX10_token 14 = .ok (.getfield 7, 3) := by decide +kernel
theorem dX10_token_17 : decode cX10_token 17 = .ok (.aload_n 0, 1) := by decide +kernel
theorem dX10_token_18 : decode cX10_token 18 = .ok (.getfield 62, 3) := by decide +kernel
theorem dX10_token_21 : decode cX10_token 21 = .ok (.iload_n 1, 1) := by decide +kernel
theorem dX10_token_22 : decode cX10_token 22 = .ok (.iastore, 1) := by decide +kernel
theorem dX10_token_23 : decode cX10_token 23 = .ok (.aload_n 0, 1) := by decide +kernel
theorem dX10_token_24 : decode cX10_token 24 = .ok (.dup, 1) := by decide +kernel
theorem dX10_token_25 : decode cX10_token 25 = .ok (.getfield 62, 3) := by decide +kernel
theorem dX10_token_28 : decode cX10_token 28 = .ok (.iconst 1, 1) := by decide +kernel
theorem dX10_token_29 : decode cX10_token 29 = .ok (.iadd, 1) := by decide +kernel
theorem dX10_token_30 : decode cX10_token 30 = .ok (.putfield 62, 3) := by decide +kernel
theorem dX10_token_33 : decode cX10_token 33 = .ok (.aload_n 0, 1) := by decide +kernel
theorem dX10_token_34 : decode cX10_token 34 = .ok (.getfield 62, 3) := by decide +kernel
theorem dX10_token_37 : decode cX10_token 37 = .ok (.ireturn, 1) := by decide +kernel
theorem dX10_fail_0 : decode cX10_fail 0 = .ok (.aload_n 0, 1) := by decide +kernel
theorem dX10_fail_1 : decode cX10_fail 1 = .ok (.getfield 65, 3) := by decide +kernel
theorem dX10_fail_4 : decode cX10_fail 4 = .ok (.ifCond .ne 13, 3) := by decide +kernel
theorem dX10_fail_7 : decode cX10_fail 7 = .ok (.aload_n 0, 1) := by decide +kernel
theorem dX10_fail_8 : decode cX10_fail 8 = .ok (.iload_n 1, 1) := by decide +kernel
theorem dX10_fail_9 : decode cX10_fail 9 = .ok (.putfield 65, 3) := by decide +kernel
theorem dX10_fail_12 : decode cX10_fail 12 = .ok (.aload_n 0, 1) := by decide +kernel
theorem dX10_fail_13 : decode cX10_fail 13 = .ok (.iload_n 2, 1) := by decide +kernel
theorem dX10_fail_14 : decode cX10_fail 14 = .ok (.putfield 68, 3) := by decide +kernel
theorem dX10_fail_17 : decode cX10_fail 17 = .ok (.iconst 0, 1) := by decide +kernel
theorem dX10_fail_18 : decode cX10_fail 18 = .ok (.ireturn, 1) := by decide +kernel
theorem dX10_here_0 : decode cX10_here 0 = .ok (.aload_n 0, 1) := by decide +kernel
theorem dX10_here_1 : decode cX10_here 1 = .ok (.getfield 71, 3) := by decide +kernel
theorem dX10_here_4 : decode cX10_here 4 = .ok (.aload_n 0, 1) := by decide +kernel
theorem dX10_here_5 : decode cX10_here 5 = .ok (.getfield 62, 3) := by decide +kernel
theorem dX10_here_8 : decode cX10_here 8 = .ok (.if_icmp .ge 15, 3) := by decide +kernel
theorem dX10_here_11 : decode cX10_here 11 = .ok (.aload_n 0, 1) := by decide +kernel
theorem dX10_here_12 : decode cX10_here 12 = .ok (.getfield 7, 3) := by decide +kernel
theorem dX10_here_15 : decode cX10_here 15 = .ok (.aload_n 0, 1) := by decide +kernel
theorem dX10_here_16 : decode cX10_here 16 = .ok (.getfield 71, 3) := by decide +kernel
theorem dX10_here_19 : decode cX10_here 19 = .ok (.iaload, 1) := by decide +kernel
theorem dX10_here_20 : decode cX10_here 20 = .ok (.goto 4, 3) := by decide +kernel
theorem dX10_here_23 : decode cX10_here 23 = .ok (.iconst (-1), 1) := by decide +kernel
theorem dX10_here_24 : decode cX10_here 24 = .ok (.ireturn, 1) := by decide +kernel
theorem dX10_isHere_0 : decode cX10_isHere 0 = .ok (.aload_n 0, 1) := by decide +kernel
theorem dX10_isHere_1 : decode cX10_isHere 1 = .ok (.getfield 71, 3) := by decide +kernel
theorem dX10_isHere_4 : decode cX10_isHere 4 = .ok (.aload_n 0, 1) := by decide +kernel
theorem dX10_isHere_5 : decode cX10_isHere 5 = .ok (.getfield 62, 3) := by decide +kernel
theorem dX10_isHere_8 : decode cX10_isHere 8 = .ok (.if_icmp .ge 20, 3) := by decide +kernel
theorem dX10_isHere_11 : decode cX10_isHere 11 = .ok (.aload_n 0, 1) := by decide +kernel
theorem dX10_isHere_12 : decode cX10_isHere 12 = .ok (.getfield 7, 3) := by decide +kernel
theorem dX10_isHere_15 : decode cX10_isHere 15 = .ok (.aload_n 0, 1) := by decide +kernel
theorem dX10_isHere_16 : decode cX10_isHere 16 = .ok (.getfield 71, 3) := by decide +kernel
theorem dX10_isHere_19 : decode cX10_isHere 19 = .ok (.iaload, 1) := by decide +kernel
theorem dX10_isHere_20 : decode cX10_isHere 20 = .ok (.iload_n 1, 1) := by decide +kernel
theorem dX10_isHere_21 : decode cX10_isHere 21 = .ok (.if_icmp .ne 7, 3) := by decide +kernel
theorem dX10_isHere_24 : decode cX10_isHere 24 = .ok (.iconst 1, 1) := by decide +kernel
theorem dX10_isHere_25 : decode cX10_isHere 25 = .ok (.goto 4, 3) := by decide +kernel
theorem dX10_isHere_28 : decode cX10_isHere 28 = .ok (.iconst 0, 1) := by decide +kernel
theorem dX10_isHere_29 : decode cX10_isHere 29 = .ok (.ireturn, 1) := by decide +kernel
theorem dX10_number_0 : decode cX10_number 0 = .ok (.aload_n 0, 1) := by decide +kernel
theorem dX10_number_1 : decode cX10_number 1 = .ok (.getfield 65, 3) := by decide +kernel
theorem dX10_number_4 : decode cX10_number 4 = .ok (.ifCond .ne 69, 3) := by decide +kernel
theorem dX10_number_7 : decode cX10_number 7 = .ok (.aload_n 0, 1) := by decide +kernel
theorem dX10_number_8 : decode cX10_number 8 = .ok (.getfield 71, 3) := by decide +kernel
theorem dX10_number_11 : decode cX10_number 11 = .ok (.aload_n 0, 1) := by decide +kernel
theorem dX10_number_12 : decode cX10_number 12 = .ok (.getfield 62, 3) := by decide +kernel
theorem dX10_number_15 : decode cX10_number 15 = .ok (.if_icmp .ne 17, 3) := by decide +kernel
theorem dX10_number_18 : decode cX10_number 18 = .ok (.aload_n 0, 1) := by decide +kernel
theorem dX10_number_19 : decode cX10_number 19 = .ok (.bipush (-11), 2) := by decide +kernel
theorem dX10_number_21 : decode cX10_number 21 = .ok (.aload_n 0, 1) := by decide +kernel
theorem dX10_number_22 : decode cX10_number 22 = .ok (.getfield 62, 3) := by decide +kernel
theorem dX10_number_25 : decode cX10_number 25 = .ok (.invokevirtual 74, 3) := by decide +kernel
theorem dX10_number_28 : decode cX10_number 28 = .ok (.pop, 1) := by decide +kernel
theorem dX10_number_29 : decode cX10_number 29 = .ok (.goto 44, 3) := by decide +kernel
theorem dX10_number_32 : decode cX10_number 32 = .ok (.aload_n 0, 1) := by decide +kernel
theorem dX10_number_33 : decode cX10_number 33 = .ok (.getfield 7, 3) := by decide +kernel
theorem dX10_number_36 : decode cX10_number 36 = .ok (.aload_n 0, 1) := by decide +kernel
theorem dX10_number_37 : decode cX10_number 37 = .ok (.getfield 71, 3) := by decide +kernel
theorem dX10_number_40 : decode cX10_number 40 = .ok (.iaload, 1) := by decide +kernel
theorem dX10_number_41 : decode cX10_number 41 = .ok (.iconst 0, 1) := by decide +kernel
theorem dX10_number_42 : decode cX10_number 42 = .ok (.iload_n 1, 1) := by decide +kernel
theorem dX10_number_43 : decode cX10_number 43 = .ok (.invokestatic 54, 3) := by decide +kernel
theorem dX10_number_46 : decode cX10_number 46 = .ok (.ifCond .ne 17, 3) := by decide +kernel
theorem dX10_number_49 : decode cX10_number 49 = .ok (.aload_n 0, 1) := by decide +kernel
theorem dX10_number_50 : decode cX10_number 50 = .ok (.bipush (-12), 2) := by decide +kernel
theorem dX10_number_52 : decode cX10_number 52 = .ok (.aload_n 0, 1) := by decide +kernel
theorem dX10_number_53 : decode cX10_number 53 = .ok (.getfield 71, 3) := by decide +kernel
theorem dX10_number_56 : decode cX10_number 56 = .ok (.invokevirtual 74, 3) := by decide +kernel
theorem dX10_number_59 : decode cX10_number 59 = .ok (.pop, 1) := by decide +kernel
theorem dX10_number_60 : decode cX10_number 60 = .ok (.goto 13, 3) := by decide +kernel
theorem dX10_number_63 : decode cX10_number 63 = .ok (.aload_n 0, 1) := by decide +kernel
theorem dX10_number_64 : decode cX10_number 64 = .ok (.dup, 1) := by decide +kernel
theorem dX10_number_65 : decode cX10_number 65 = .ok (.getfield 71, 3) := by decide +kernel
theorem dX10_number_68 : decode cX10_number 68 = .ok (.iconst 1, 1) := by decide +kernel
theorem dX10_number_69 : decode cX10_number 69 = .ok (.iadd, 1) := by decide +kernel
theorem dX10_number_70 : decode cX10_number 70 = .ok (.putfield 71, 3) := by decide +kernel
theorem dX10_number_73 : decode cX10_number 73 = .ok (.return_, 1) := by decide +kernel
theorem dX10_operands_0 : decode cX10_operands 0 = .ok (.iload_n 0, 1) := by decide +kernel
theorem dX10_operands_1 : decode cX10_operands 1 = .ok (.bipush 32, 2) := by decide +kernel
theorem dX10_operands_3 : decode cX10_operands 3 = .ok (.if_icmp .ne 7, 3) := by decide +kernel
theorem dX10_operands_6 : decode cX10_operands 6 = .ok (.iconst 1, 1) := by decide +kernel
theorem dX10_operands_7 : decode cX10_operands 7 = .ok (.goto 14, 3) := by decide +kernel
theorem dX10_operands_10 : decode cX10_operands 10 = .ok (.iload_n 0, 1) := by decide +kernel
theorem dX10_operands_11 : decode cX10_operands 11 = .ok (.bipush 36, 2) := by decide +kernel
theorem dX10_operands_13 : decode cX10_operands 13 = .ok (.if_icmp .ne 7, 3) := by decide +kernel
theorem dX10_operands_16 : decode cX10_operands 16 = .ok (.iconst 3, 1) := by decide +kernel
theorem dX10_operands_17 : decode cX10_operands 17 = .ok (.goto 4, 3) := by decide +kernel
theorem dX10_operands_20 : decode cX10_operands 20 = .ok (.iconst 2, 1) := by decide +kernel
theorem dX10_operands_21 : decode cX10_operands 21 = .ok (.ireturn, 1) := by decide +kernel
theorem dX10_readE_0 : decode cX10_readE 0 = .ok (.aload_n 0, 1) := by decide +kernel
theorem dX10_readE_1 : decode cX10_readE 1 = .ok (.getfield 65, 3) := by decide +kernel
theorem dX10_readE_4 : decode cX10_readE 4 = .ok (.ifCond .eq 4, 3) := by decide +kernel
theorem dX10_readE_7 : decode cX10_readE 7 = .ok (.return_, 1) := by decide +kernel
theorem dX10_readE_8 : decode cX10_readE 8 = .ok (.aload_n 0, 1) := by decide +kernel
theorem dX10_readE_9 : decode cX10_readE 9 = .ok (.getfield 71, 3) := by decide +kernel
theorem dX10_readE_12 : decode cX10_readE 12 = .ok (.aload_n 0, 1) := by decide +kernel
theorem dX10_readE_13 : decode cX10_readE 13 = .ok (.getfield 62, 3) := by decide +kernel
theorem dX10_readE_16 : decode cX10_readE 16 = .ok (.if_icmp .eq 22, 3) := by decide +kernel
theorem dX10_readE_19 : decode cX10_readE 19 = .ok (.aload_n 0, 1) := by decide +kernel
theorem dX10_readE_20 : decode cX10_readE 20 = .ok (.getfield 7, 3) := by decide +kernel
theorem dX10_readE_23 : decode cX10_readE 23 = .ok (.aload_n 0, 1) := by decide +kernel
theorem dX10_readE_24 : decode cX10_readE 24 = .ok (.getfield 71, 3) := by decide +kernel
theorem dX10_readE_27 : decode cX10_readE 27 = .ok (.iaload, 1) := by decide +kernel
theorem dX10_readE_28 : decode cX10_readE 28 = .ok (.bipush 20, 2) := by decide +kernel
theorem dX10_readE_30 : decode cX10_readE 30 = .ok (.bipush 36, 2) := by decide +kernel
theorem dX10_readE_32 : decode cX10_readE 32 = .ok (.invokestatic 54, 3) := by decide +kernel
theorem dX10_readE_35 : decode cX10_readE 35 = .ok (.ifCond .ne 15, 3) := by decide +kernel
theorem dX10_readE_38 : decode cX10_readE 38 = .ok (.aload_n 0, 1) := by decide +kernel
theorem dX10_readE_39 : decode cX10_readE 39 = .ok (.bipush (-11), 2) := by decide +kernel
theorem dX10_readE_41 : decode cX10_readE 41 = .ok (.aload_n 0, 1) := by decide +kernel
theorem dX10_readE_42 : decode cX10_readE 42 = .ok (.getfield 71, 3) := by decide +kernel
theorem dX10_readE_45 : decode cX10_readE 45 = .ok (.invokevirtual 74, 3) := by decide +kernel
theorem dX10_readE_48 : decode cX10_readE 48 = .ok (.pop, 1) := by decide +kernel
theorem dX10_readE_49 : decode cX10_readE 49 = .ok (.return_, 1) := by decide +kernel
theorem dX10_readE_50 : decode cX10_readE 50 = .ok (.iload_n 1, 1) := by decide +kernel
theorem dX10_readE_51 : decode cX10_readE 51 = .ok (.bipush 12, 2) := by decide +kernel
theorem dX10_readE_53 : decode cX10_readE 53 = .ok (.if_icmp .le 15, 3) := by decide +kernel
theorem dX10_readE_56 : decode cX10_readE 56 = .ok (.aload_n 0, 1) := by decide +kernel
theorem dX10_readE_57 : decode cX10_readE 57 = .ok (.bipush (-13), 2) := by decide +kernel
theorem dX10_readE_59 : decode cX10_readE 59 = .ok (.aload_n 0, 1) := by decide +kernel
theorem dX10_readE_60 : decode cX10_readE 60 = .ok (.getfield 71, 3) := by decide +kernel
theorem dX10_readE_63 : decode cX10_readE 63 = .ok (.invokevirtual 74, 3) := by decide +kernel
theorem dX10_readE_66 : decode cX10_readE 66 = .ok (.pop, 1) := by decide +kernel
theorem dX10_readE_67 : decode cX10_readE 67 = .ok (.return_, 1) := by decide +kernel
theorem dX10_readE_68 : decode cX10_readE 68 = .ok (.aload_n 0, 1) := by decide +kernel
theorem dX10_readE_69 : decode cX10_readE 69 = .ok (.getfield 7, 3) := by decide +kernel
theorem dX10_readE_72 : decode cX10_readE 72 = .ok (.aload_n 0, 1) := by decide +kernel
theorem dX10_readE_73 : decode cX10_readE 73 = .ok (.getfield 71, 3) := by decide +kernel
theorem dX10_readE_76 : decode cX10_readE 76 = .ok (.iaload, 1) := by decide +kernel
theorem dX10_readE_77 : decode cX10_readE 77 = .ok (.istore_n 2, 1) := by decide +kernel
theorem dX10_readE_78 : decode cX10_readE 78 = .ok (.aload_n 0, 1) := by decide +kernel
theorem dX10_readE_79 : decode cX10_readE 79 = .ok (.dup, 1) := by decide +kernel
theorem dX10_readE_80 : decode cX10_readE 80 = .ok (.getfield 71, 3) := by decide +kernel
theorem dX10_readE_83 : decode cX10_readE 83 = .ok (.iconst 1, 1) := by decide +kernel
theorem dX10_readE_84 : decode cX10_readE 84 = .ok (.iadd, 1) := by decide +kernel
theorem dX10_readE_85 : decode cX10_readE 85 = .ok (.putfield 71, 3) := by decide +kernel
theorem dX10_readE_88 : decode cX10_readE 88 = .ok (.iload_n 2, 1) := by decide +kernel
theorem dX10_readE_89 : decode cX10_readE 89 = .ok (.bipush 20, 2) := by decide +kernel
theorem dX10_readE_91 : decode cX10_readE 91 = .ok (.if_icmp .ne 41, 3) := by decide +kernel
theorem dX10_readE_94 : decode cX10_readE 94 = .ok (.aload_n 0, 1) := by decide +kernel
theorem dX10_readE_95 : decode cX10_readE 95 = .ok (.getfield 71, 3) := by decide +kernel
theorem dX10_readE_98 : decode cX10_readE 98 = .ok (.aload_n 0, 1) := by decide +kernel
theorem dX10_readE_99 : decode cX10_readE 99 = .ok (.getfield 62, 3) := by decide +kernel
theorem dX10_readE_102 : decode cX10_readE 102 = .ok (.if_icmp .ne 17, 3) := by decide +kernel
theorem dX10_readE_105 : decode cX10_readE 105 = .ok (.aload_n 0, 1) := by decide +kernel
theorem dX10_readE_106 : decode cX10_readE 106 = .ok (.bipush (-11), 2) := by decide +kernel
theorem dX10_readE_108 : decode cX10_readE 108 = .ok (.aload_n 0, 1) := by decide +kernel
theorem dX10_readE_109 : decode cX10_readE 109 = .ok (.getfield 71, 3) := by decide +kernel
theorem dX10_readE_112 : decode cX10_readE 112 = .ok (.invokevirtual 74, 3) := by decide +kernel
theorem dX10_readE_115 : decode cX10_readE 115 = .ok (.pop, 1) := by decide +kernel
theorem dX10_readE_116 : decode cX10_readE 116 = .ok (.goto 75, 3) := by decide +kernel
theorem dX10_readE_119 : decode cX10_readE 119 = .ok (.aload_n 0, 1) := by decide +kernel
theorem dX10_readE_120 : decode cX10_readE 120 = .ok (.dup, 1) := by decide +kernel
theorem dX10_readE_121 : decode cX10_readE 121 = .ok (.getfield 71, 3) := by decide +kernel
theorem dX10_readE_124 : decode cX10_readE 124 = .ok (.iconst 1, 1) := by decide +kernel
theorem dX10_readE_125 : decode cX10_readE 125 = .ok (.iadd, 1) := by decide +kernel
theorem dX10_readE_126 : decode cX10_readE 126 = .ok (.putfield 71, 3) := by decide +kernel
theorem dX10_readE_129 : decode cX10_readE 129 = .ok (.goto 62, 3) := by decide +kernel
theorem dX10_readE_132 : decode cX10_readE 132 = .ok (.iload_n 2, 1) := by decide +kernel
theorem dX10_readE_133 : decode cX10_readE 133 = .ok (.bipush 21, 2) := by decide +kernel
theorem dX10_readE_135 : decode cX10_readE 135 = .ok (.if_icmp .ne 12, 3) := by decide +kernel
theorem dX10_readE_138 : decode cX10_readE 138 = .ok (.aload_n 0, 1) := by decide +kernel
theorem dX10_readE_139 : decode cX10_readE 139 = .ok (.bipush 9, 2) := by decide +kernel
theorem dX10_readE_141 : decode cX10_readE 141 = .ok (.invokevirtual 78, 3) := by decide +kernel
theorem dX10_readE_144 : decode cX10_readE 144 = .ok (.goto 47, 3) := by decide +kernel
theorem dX10_readE_147 : decode cX10_readE 147 = .ok (.iload_n 2, 1) := by decide +kernel
theorem dX10_readE_148 : decode cX10_readE 148 = .ok (.bipush 35, 2) := by decide +kernel
theorem dX10_readE_150 : decode cX10_readE 150 = .ok (.if_icmp .ne 18, 3) := by decide +kernel
theorem dX10_readE_153 : decode cX10_readE 153 = .ok (.aload_n 0, 1) := by decide +kernel
theorem dX10_readE_154 : decode cX10_readE 154 = .ok (.iconst 3, 1) := by decide +kernel
theorem dX10_readE_155 : decode cX10_readE 155 = .ok (.invokevirtual 78, 3) := by decide +kernel
theorem dX10_readE_158 : decode cX10_readE 158 = .ok (.aload_n 0, 1) := by decide +kernel
theorem dX10_readE_159 : decode cX10_readE 159 = .ok (.iload_n 1, 1) := by decide +kernel
theorem dX10_readE_160 : decode cX10_readE 160 = .ok (.iconst 1, 1) := by decide +kernel
theorem dX10_readE_161 : decode cX10_readE 161 = .ok (.iadd, 1) := by decide +kernel
theorem dX10_readE_162 : decode cX10_readE 162 = .ok (.invokevirtual 82, 3) := by decide +kernel
theorem dX10_readE_165 : decode cX10_readE 165 = .ok (.goto 26, 3) := by decide +kernel
theorem dX10_readE_168 : decode cX10_readE 168 = .ok (.iconst 0, 1) := by decide +kernel
theorem dX10_readE_169 : decode cX10_readE 169 = .ok (.istore_n 3, 1) := by decide +kernel
theorem dX10_readE_170 : decode cX10_readE 170 = .ok (.iload_n 3, 1) := by decide +kernel
theorem dX10_readE_171 : decode cX10_readE 171 = .ok (.iload_n 2, 1) := by decide +kernel
theorem dX10_readE_172 : decode cX10_readE 172 = .ok (.invokestatic 85, 3) := by decide +kernel
theorem dX10_readE_175 : decode cX10_readE 175 = .ok (.if_icmp .ge 16, 3) := by decide +kernel
theorem dX10_readE_178 : decode cX10_readE 178 = .ok (.aload_n 0, 1) := by decide +kernel
theorem dX10_readE_179 : decode cX10_readE 179 = .ok (.iload_n 1, 1) := by decide +kernel
theorem dX10_readE_180 : decode cX10_readE 180 = .ok (.iconst 1, 1) := by decide +kernel
theorem dX10_readE_181 : decode cX10_readE 181 = .ok (.iadd, 1) := by decide +kernel
theorem dX10_readE_182 : decode cX10_readE 182 = .ok (.invokevirtual 82, 3) := by decide +kernel
theorem dX10_readE_185 : decode cX10_readE 185 = .ok (.iinc 3 1, 3) := by decide +kernel
theorem dX10_readE_188 : decode cX10_readE 188 = .ok (.goto (-18), 3) := by decide +kernel
theorem dX10_readE_191 : decode cX10_readE 191 = .ok (.return_, 1) := by decide +kernel
theorem dX10_readAll_0 : decode cX10_readAll 0 = .ok (.aload_n 0, 1) := by decide +kernel
theorem dX10_readAll_1 : decode cX10_readAll 1 = .ok (.getfield 65, 3) := by decide +kernel
theorem dX10_readAll_4 : decode cX10_readAll 4 = .ok (.ifCond .ne 31, 3) := by decide +kernel
theorem dX10_readAll_7 : decode cX10_readAll 7 = .ok (.aload_n 0, 1) := by decide +kernel
theorem dX10_readAll_8 : decode cX10_readAll 8 = .ok (.iconst 0, 1) := by decide +kernel
theorem dX10_readAll_9 : decode cX10_readAll 9 = .ok (.invokevirtual 89, 3) := by decide +kernel
theorem dX10_readAll_12 : decode cX10_readAll 12 = .ok (.ifCond .ne 23, 3) := by decide +kernel
theorem dX10_readAll_15 : decode cX10_readAll 15 = .ok (.iload_n 2, 1) := by decide +kernel
theorem dX10_readAll_16 : decode cX10_readAll 16 = .ok (.ifCond .eq 11, 3) := by decide +kernel
theorem dX10_readAll_19 : decode cX10_readAll 19 = .ok (.aload_n 0, 1) := by decide +kernel
theorem dX10_readAll_20 : decode cX10_readAll 20 = .ok (.iconst 4, 1) := by decide +kernel
theorem dX10_readAll_21 : decode cX10_readAll 21 = .ok (.invokevirtual 89, 3) := by decide +kernel
theorem dX10_readAll_24 : decode cX10_readAll 24 = .ok (.ifCond .ne 11, 3) := by decide +kernel
theorem dX10_readAll_27 : decode cX10_readAll 27 = .ok (.aload_n 0, 1) := by decide +kernel
theorem dX10_readAll_28 : decode cX10_readAll 28 = .ok (.iload_n 1, 1) := by decide +kernel
theorem dX10_readAll_29 : decode cX10_readAll 29 = .ok (.invokevirtual 93, 3) := by decide +kernel
theorem dX10_readAll_32 : decode cX10_readAll 32 = .ok (.goto (-32), 3) := by decide +kernel
theorem dX10_readAll_35 : decode cX10_readAll 35 = .ok (.return_, 1) := by decide +kernel
theorem dX10_end_0 : decode cX10_end 0 = .ok (.aload_n 0, 1) := by decide +kernel
theorem dX10_end_1 : decode cX10_end 1 = .ok (.getfield 65, 3) := by decide +kernel
theorem dX10_end_4 : decode cX10_end 4 = .ok (.ifCond .ne 21, 3) := by decide +kernel
theorem dX10_end_7 : decode cX10_end 7 = .ok (.aload_n 0, 1) := by decide +kernel
theorem dX10_end_8 : decode cX10_end 8 = .ok (.iconst 0, 1) := by decide +kernel
theorem dX10_end_9 : decode cX10_end 9 = .ok (.invokevirtual 89, 3) := by decide +kernel
theorem dX10_end_12 : decode cX10_end 12 = .ok (.ifCond .eq 13, 3) := by decide +kernel
theorem dX10_end_15 : decode cX10_end 15 = .ok (.aload_n 0, 1) := by decide +kernel
theorem dX10_end_16 : decode cX10_end 16 = .ok (.dup, 1) := by decide +kernel
theorem dX10_end_17 : decode cX10_end 17 = .ok (.getfield 71, 3) := by decide +kernel
theorem dX10_end_20 : decode cX10_end 20 = .ok (.iconst 1, 1) := by decide +kernel
theorem dX10_end_21 : decode cX10_end 21 = .ok (.iadd, 1) := by decide +kernel
theorem dX10_end_22 : decode cX10_end 22 = .ok (.putfield 71, 3) := by decide +kernel
theorem dX10_end_25 : decode cX10_end 25 = .ok (.return_, 1) := by decide +kernel
theorem dX10_readS_0 : decode cX10_readS 0 = .ok (.aload_n 0, 1) := by decide +kernel
theorem dX10_readS_1 : decode cX10_readS 1 = .ok (.invokevirtual 96, 3) := by decide +kernel
theorem dX10_readS_4 : decode cX10_readS 4 = .ok (.istore_n 2, 1) := by decide +kernel
theorem dX10_readS_5 : decode cX10_readS 5 = .ok (.aload_n 0, 1) := by decide +kernel
theorem dX10_readS_6 : decode cX10_readS 6 = .ok (.getfield 71, 3) := by decide +kernel
theorem dX10_readS_9 : decode cX10_readS 9 = .ok (.aload_n 0, 1) := by decide +kernel
theorem dX10_readS_10 : decode cX10_readS 10 = .ok (.getfield 62, 3) := by decide +kernel
theorem dX10_readS_13 : decode cX10_readS 13 = .ok (.if_icmp .eq 22, 3) := by decide +kernel
theorem dX10_readS_16 : decode cX10_readS 16 = .ok (.iload_n 2, 1) := by decide +kernel
theorem dX10_readS_17 : decode cX10_readS 17 = .ok (.iconst 1, 1) := by decide +kernel
theorem dX10_readS_18 : decode cX10_readS 18 = .ok (.iconst 3, 1) := by decide +kernel
theorem dX10_readS_19 : decode cX10_readS 19 = .ok (.invokestatic 54, 3) := by decide +kernel
theorem dX10_readS_22 : decode cX10_readS 22 = .ok (.ifCond .ne 25, 3) := by decide +kernel
theorem dX10_readS_25 : decode cX10_readS 25 = .ok (.iload_n 2, 1) := by decide +kernel
theorem dX10_readS_26 : decode cX10_readS 26 = .ok (.iconst 5, 1) := by decide +kernel
theorem dX10_readS_27 : decode cX10_readS 27 = .ok (.bipush 7, 2) := by decide +kernel
theorem dX10_readS_29 : decode cX10_readS 29 = .ok (.invokestatic 54, 3) := by decide +kernel
theorem dX10_readS_32 : decode cX10_readS 32 = .ok (.ifCond .ne 15, 3) := by decide +kernel
theorem dX10_readS_35 : decode cX10_readS 35 = .ok (.aload_n 0, 1) := by decide +kernel
theorem dX10_readS_36 : decode cX10_readS 36 = .ok (.bipush (-11), 2) := by decide +kernel
theorem dX10_readS_38 : decode cX10_readS 38 = .ok (.aload_n 0, 1) := by decide +kernel
theorem dX10_readS_39 : decode cX10_readS 39 = .ok (.getfield 71, 3) := by decide +kernel
theorem dX10_readS_42 : decode cX10_readS 42 = .ok (.invokevirtual 74, 3) := by decide +kernel
theorem dX10_readS_45 : decode cX10_readS 45 = .ok (.pop, 1) := by decide +kernel
theorem dX10_readS_46 : decode cX10_readS 46 = .ok (.return_, 1) := by decide +kernel
theorem dX10_readS_47 : decode cX10_readS 47 = .ok (.iload_n 1, 1) := by decide +kernel
theorem dX10_readS_48 : decode cX10_readS 48 = .ok (.bipush 12, 2) := by decide +kernel
theorem dX10_readS_50 : decode cX10_readS 50 = .ok (.if_icmp .le 15, 3) := by decide +kernel
theorem dX10_readS_53 : decode cX10_readS 53 = .ok (.aload_n 0, 1) := by decide +kernel
theorem dX10_readS_54 : decode cX10_readS 54 = .ok (.bipush (-13), 2) := by decide +kernel
theorem dX10_readS_56 : decode cX10_readS 56 = .ok (.aload_n 0, 1) := by decide +kernel
theorem dX10_readS_57 : decode cX10_readS 57 = .ok (.getfield 71, 3) := by decide +kernel
theorem dX10_readS_60 : decode cX10_readS 60 = .ok (.invokevirtual 74, 3) := by decide +kernel
theorem dX10_readS_63 : decode cX10_readS 63 = .ok (.pop, 1) := by decide +kernel
theorem dX10_readS_64 : decode cX10_readS 64 = .ok (.return_, 1) := by decide +kernel
theorem dX10_readS_65 : decode cX10_readS 65 = .ok (.aload_n 0, 1) := by decide +kernel
theorem dX10_readS_66 : decode cX10_readS 66 = .ok (.dup, 1) := by decide +kernel
theorem dX10_readS_67 : decode cX10_readS 67 = .ok (.getfield 71, 3) := by decide +kernel
theorem dX10_readS_70 : decode cX10_readS 70 = .ok (.iconst 1, 1) := by decide +kernel
theorem dX10_readS_71 : decode cX10_readS 71 = .ok (.iadd, 1) := by decide +kernel
theorem dX10_readS_72 : decode cX10_readS 72 = .ok (.putfield 71, 3) := by decide +kernel
theorem dX10_readS_75 : decode cX10_readS 75 = .ok (.iload_n 2, 1) := by decide +kernel
theorem dX10_readS_76 : decode cX10_readS 76 = .ok (.iconst 1, 1) := by decide +kernel
theorem dX10_readS_77 : decode cX10_readS 77 = .ok (.if_icmp .ne 9, 3) := by decide +kernel
theorem dX10_readS_80 : decode cX10_readS 80 = .ok (.aload_n 0, 1) := by decide +kernel
theorem dX10_readS_81 : decode cX10_readS 81 = .ok (.bipush 9, 2) := by decide +kernel
theorem dX10_readS_83 : decode cX10_readS 83 = .ok (.invokevirtual 78, 3) := by decide +kernel
theorem dX10_readS_86 : decode cX10_readS 86 = .ok (.iload_n 2, 1) := by decide +kernel
theorem dX10_readS_87 : decode cX10_readS 87 = .ok (.iconst 2, 1) := by decide +kernel
theorem dX10_readS_88 : decode cX10_readS 88 = .ok (.if_icmp .ne 15, 3) := by decide +kernel
theorem dX10_readS_91 : decode cX10_readS 91 = .ok (.aload_n 0, 1) := by decide +kernel
theorem dX10_readS_92 : decode cX10_readS 92 = .ok (.iconst 3, 1) := by decide +kernel
theorem dX10_readS_93 : decode cX10_readS 93 = .ok (.invokevirtual 78, 3) := by decide +kernel
theorem dX10_readS_96 : decode cX10_readS 96 = .ok (.aload_n 0, 1) := by decide +kernel
theorem dX10_readS_97 : decode cX10_readS 97 = .ok (.iload_n 1, 1) := by decide +kernel
theorem dX10_readS_98 : decode cX10_readS 98 = .ok (.iconst 1, 1) := by decide +kernel
theorem dX10_readS_99 : decode cX10_readS 99 = .ok (.iadd, 1) := by decide +kernel
theorem dX10_readS_100 : decode cX10_readS 100 = .ok (.invokevirtual 82, 3) := by decide +kernel
theorem dX10_readS_103 : decode cX10_readS 103 = .ok (.iload_n 2, 1) := by decide +kernel
theorem dX10_readS_104 : decode cX10_readS 104 = .ok (.bipush 6, 2) := by decide +kernel
theorem dX10_readS_106 : decode cX10_readS 106 = .ok (.if_icmp .ne 12, 3) := by decide +kernel
theorem dX10_readS_109 : decode cX10_readS 109 = .ok (.aload_n 0, 1) := by decide +kernel
theorem dX10_readS_110 : decode cX10_readS 110 = .ok (.bipush 20, 2) := by decide +kernel
theorem dX10_readS_112 : decode cX10_readS 112 = .ok (.invokevirtual 78, 3) := by decide +kernel
theorem dX10_readS_115 : decode cX10_readS 115 = .ok (.goto 10, 3) := by decide +kernel
theorem dX10_readS_118 : decode cX10_readS 118 = .ok (.aload_n 0, 1) := by decide +kernel
theorem dX10_readS_119 : decode cX10_readS 119 = .ok (.iload_n 1, 1) := by decide +kernel
theorem dX10_readS_120 : decode cX10_readS 120 = .ok (.iconst 1, 1) := by decide +kernel
theorem dX10_readS_121 : decode cX10_readS 121 = .ok (.iadd, 1) := by decide +kernel
theorem dX10_readS_122 : decode cX10_readS 122 = .ok (.invokevirtual 82, 3) := by decide +kernel
theorem dX10_readS_125 : decode cX10_readS 125 = .ok (.iload_n 2, 1) := by decide +kernel
theorem dX10_readS_126 : decode cX10_readS 126 = .ok (.iconst 3, 1) := by decide +kernel
theorem dX10_readS_127 : decode cX10_readS 127 = .ok (.if_icmp .ne 51, 3) := by decide +kernel
theorem dX10_readS_130 : decode cX10_readS 130 = .ok (.aload_n 0, 1) := by decide +kernel
theorem dX10_readS_131 : decode cX10_readS 131 = .ok (.iload_n 1, 1) := by decide +kernel
theorem dX10_readS_132 : decode cX10_readS 132 = .ok (.iconst 1, 1) := by decide +kernel
theorem dX10_readS_133 : decode cX10_readS 133 = .ok (.iadd, 1) := by decide +kernel
theorem dX10_readS_134 : decode cX10_readS 134 = .ok (.iconst 1, 1) := by decide +kernel
theorem dX10_readS_135 : decode cX10_readS 135 = .ok (.invokevirtual 100, 3) := by decide +kernel
theorem dX10_readS_138 : decode cX10_readS 138 = .ok (.aload_n 0, 1) := by decide +kernel
theorem dX10_readS_139 : decode cX10_readS 139 = .ok (.getfield 65, 3) := by decide +kernel
theorem dX10_readS_142 : decode cX10_readS 142 = .ok (.ifCond .ne 29, 3) := by decide +kernel
theorem dX10_readS_145 : decode cX10_readS 145 = .ok (.aload_n 0, 1) := by decide +kernel
theorem dX10_readS_146 : decode cX10_readS 146 = .ok (.iconst 4, 1) := by decide +kernel
theorem dX10_readS_147 : decode cX10_readS 147 = .ok (.invokevirtual 89, 3) := by decide +kernel
theorem dX10_readS_150 : decode cX10_readS 150 = .ok (.ifCond .eq 21, 3) := by decide +kernel
theorem dX10_readS_153 : decode cX10_readS 153 = .ok (.aload_n 0, 1) := by decide +kernel
theorem dX10_readS_154 : decode cX10_readS 154 = .ok (.dup, 1) := by decide +kernel
theorem dX10_readS_155 : decode cX10_readS 155 = .ok (.getfield 71, 3) := by decide +kernel
theorem dX10_readS_158 : decode cX10_readS 158 = .ok (.iconst 1, 1) := by decide +kernel
theorem dX10_readS_159 : decode cX10_readS 159 = .ok (.iadd, 1) := by decide +kernel
theorem dX10_readS_160 : decode cX10_readS 160 = .ok (.putfield 71, 3) := by decide +kernel
theorem dX10_readS_163 : decode cX10_readS 163 = .ok (.aload_n 0, 1) := by decide +kernel
theorem dX10_readS_164 : decode cX10_readS 164 = .ok (.iload_n 1, 1) := by decide +kernel
theorem dX10_readS_165 : decode cX10_readS 165 = .ok (.iconst 1, 1) := by decide +kernel
theorem dX10_readS_166 : decode cX10_readS 166 = .ok (.iadd, 1) := by decide +kernel
theorem dX10_readS_167 : decode cX10_readS 167 = .ok (.iconst 0, 1) := by decide +kernel
theorem dX10_readS_168 : decode cX10_readS 168 = .ok (.invokevirtual 100, 3) := by decide +kernel
theorem dX10_readS_171 : decode cX10_readS 171 = .ok (.aload_n 0, 1) := by decide +kernel
theorem dX10_readS_172 : decode cX10_readS 172 = .ok (.invokevirtual 104, 3) := by decide +kernel
theorem dX10_readS_175 : decode cX10_readS 175 = .ok (.goto 26, 3) := by decide +kernel
theorem dX10_readS_178 : decode cX10_readS 178 = .ok (.iload_n 2, 1) := by decide +kernel
theorem dX10_readS_179 : decode cX10_readS 179 = .ok (.iconst 5, 1) := by decide +kernel
theorem dX10_readS_180 : decode cX10_readS 180 = .ok (.if_icmp .eq 9, 3) := by decide +kernel
theorem dX10_readS_183 : decode cX10_readS 183 = .ok (.iload_n 2, 1) := by decide +kernel
theorem dX10_readS_184 : decode cX10_readS 184 = .ok (.bipush 6, 2) := by decide +kernel
theorem dX10_readS_186 : decode cX10_readS 186 = .ok (.if_icmp .ne 15, 3) := by decide +kernel
theorem dX10_readS_189 : decode cX10_readS 189 = .ok (.aload_n 0, 1) := by decide +kernel
theorem dX10_readS_190 : decode cX10_readS 190 = .ok (.iload_n 1, 1) := by decide +kernel
theorem dX10_readS_191 : decode cX10_readS 191 = .ok (.iconst 1, 1) := by decide +kernel
theorem dX10_readS_192 : decode cX10_readS 192 = .ok (.iadd, 1) := by decide +kernel
theorem dX10_readS_193 : decode cX10_readS 193 = .ok (.iconst 0, 1) := by decide +kernel
theorem dX10_readS_194 : decode cX10_readS 194 = .ok (.invokevirtual 100, 3) := by decide +kernel
theorem dX10_readS_197 : decode cX10_readS 197 = .ok (.aload_n 0, 1) := by decide +kernel
theorem dX10_readS_198 : decode cX10_readS 198 = .ok (.invokevirtual 104, 3) := by decide +kernel
theorem dX10_readS_201 : decode cX10_readS 201 = .ok (.return_, 1) := by decide +kernel
theorem dX10_behind_0 : decode cX10_behind 0 = .ok (.iconst 1, 1) := by decide +kernel
theorem dX10_behind_1 : decode cX10_behind 1 = .ok (.istore_n 3, 1) := by decide +kernel
theorem dX10_behind_2 : decode cX10_behind 2 = .ok (.iload_n 2, 1) := by decide +kernel
theorem dX10_behind_3 : decode cX10_behind 3 = .ok (.istore 4, 2) := by decide +kernel
theorem dX10_behind_5 : decode cX10_behind 5 = .ok (.iload_n 3, 1) := by decide +kernel
theorem dX10_behind_6 : decode cX10_behind 6 = .ok (.ifCond .le 62, 3) := by decide +kernel
theorem dX10_behind_9 : decode cX10_behind 9 = .ok (.aload_n 1, 1) := by decide +kernel
theorem dX10_behind_10 : decode cX10_behind 10 = .ok (.iload 4, 2) := by decide +kernel
theorem dX10_behind_12 : decode cX10_behind 12 = .ok (.iaload, 1) := by decide +kernel
theorem dX10_behind_13 : decode cX10_behind 13 = .ok (.istore 5, 2) := by decide +kernel
theorem dX10_behind_15 : decode cX10_behind 15 = .ok (.iinc 3 (-1), 3) := by decide +kernel
theorem dX10_behind_18 : decode cX10_behind 18 = .ok (.iload 5, 2) := by decide +kernel
theorem dX10_behind_20 : decode cX10_behind 20 = .ok (.bipush 20, 2) := by decide +kernel
theorem dX10_behind_22 : decode cX10_behind 22 = .ok (.if_icmp .eq 10, 3) := by decide +kernel
theorem dX10_behind_25 : decode cX10_behind 25 = .ok (.iload 5, 2) := by decide +kernel
theorem dX10_behind_27 : decode cX10_behind 27 = .ok (.bipush 21, 2) := by decide +kernel
theorem dX10_behind_29 : decode cX10_behind 29 = .ok (.if_icmp .ne 9, 3) := by decide +kernel
theorem dX10_behind_32 : decode cX10_behind 32 = .ok (.iinc 4 2, 3) := by decide +kernel
theorem dX10_behind_35 : decode cX10_behind 35 = .ok (.goto 30, 3) := by decide +kernel
theorem dX10_behind_38 : decode cX10_behind 38 = .ok (.iload 5, 2) := by decide +kernel
theorem dX10_behind_40 : decode cX10_behind 40 = .ok (.bipush 35, 2) := by decide +kernel
theorem dX10_behind_42 : decode cX10_behind 42 = .ok (.if_icmp .ne 12, 3) := by decide +kernel
theorem dX10_behind_45 : decode cX10_behind 45 = .ok (.iinc 4 2, 3) := by decide +kernel
theorem dX10_behind_48 : decode cX10_behind 48 = .ok (.iinc 3 1, 3) := by decide +kernel
theorem dX10_behind_51 : decode cX10_behind 51 = .ok (.goto 14, 3) := by decide +kernel
theorem dX10_behind_54 : decode cX10_behind 54 = .ok (.iinc 4 1, 3) := by decide +kernel
theorem dX10_behind_57 : decode cX10_behind 57 = .ok (.iload_n 3, 1) := by decide +kernel
theorem dX10_behind_58 : decode cX10_behind 58 = .ok (.iload 5, 2) := by decide +kernel
theorem dX10_behind_60 : decode cX10_behind 60 = .ok (.invokestatic 85, 3) := by decide +kernel
theorem dX10_behind_63 : decode cX10_behind 63 = .ok (.iadd, 1) := by decide +kernel
theorem dX10_behind_64 : decode cX10_behind 64 = .ok (.istore_n 3, 1) := by decide +kernel
theorem dX10_behind_65 : decode cX10_behind 65 = .ok (.goto (-60), 3) := by decide +kernel
theorem dX10_behind_68 : decode cX10_behind 68 = .ok (.iload 4, 2) := by decide +kernel
theorem dX10_behind_70 : decode cX10_behind 70 = .ok (.ireturn, 1) := by decide +kernel
theorem dX10_isSecret_0 : decode cX10_isSecret 0 = .ok (.aload_n 0, 1) := by decide +kernel
theorem dX10_isSecret_1 : decode cX10_isSecret 1 = .ok (.aload_n 1, 1) := by decide +kernel
theorem dX10_isSecret_2 : decode cX10_isSecret 2 = .ok (.iload_n 2, 1) := by decide +kernel
theorem dX10_isSecret_3 : decode cX10_isSecret 3 = .ok (.invokevirtual 107, 3) := by decide +kernel
theorem dX10_isSecret_6 : decode cX10_isSecret 6 = .ok (.istore_n 3, 1) := by decide +kernel
theorem dX10_isSecret_7 : decode cX10_isSecret 7 = .ok (.iload_n 2, 1) := by decide +kernel
theorem dX10_isSecret_8 : decode cX10_isSecret 8 = .ok (.istore 4, 2) := by decide +kernel
theorem dX10_isSecret_10 : decode cX10_isSecret 10 = .ok (.iconst 0, 1) := by decide +kernel
theorem dX10_isSecret_11 : decode cX10_isSecret 11 = .ok (.istore 5, 2) := by decide +kernel
theorem dX10_isSecret_13 : decode cX10_isSecret 13 = .ok (.iload 4, 2) := by decide +kernel
theorem dX10_isSecret_15 : decode cX10_isSecret 15 = .ok (.iload_n 3, 1) := by decide +kernel
theorem dX10_isSecret_16 : decode cX10_isSecret 16 = .ok (.if_icmp .ge 112, 3) := by decide +kernel
theorem dX10_isSecret_19 : decode cX10_isSecret 19 = .ok (.aload_n 1, 1) := by decide +kernel
theorem dX10_isSecret_20 : decode cX10_isSecret 20 = .ok (.iload 4, 2) := by decide +kernel
theorem dX10_isSecret_22 : decode cX10_isSecret 22 = .ok (.iaload, 1) := by decide +kernel
theorem dX10_isSecret_23 : decode cX10_isSecret 23 = .ok (.istore 6, 2) := by decide +kernel
theorem dX10_isSecret_25 : decode cX10_isSecret 25 = .ok (.iload 6, 2) := by decide +kernel
theorem dX10_isSecret_27 : decode cX10_isSecret 27 = .ok (.bipush 21, 2) := by decide +kernel
theorem dX10_isSecret_29 : decode cX10_isSecret 29 = .ok (.if_icmp .ne 32, 3) := by decide +kernel
theorem dX10_isSecret_32 : decode cX10_isSecret 32 = .ok (.iload 5, 2) := by decide +kernel
theorem dX10_isSecret_34 : decode cX10_isSecret 34 = .ok (.ifCond .ne 17, 3) := by decide +kernel
theorem dX10_isSecret_37 : decode cX10_isSecret 37 = .ok (.aload_n 0, 1) := by decide +kernel
theorem dX10_isSecret_38 : decode cX10_isSecret 38 = .ok (.getfield 13, 3) := by decide +kernel
theorem dX10_isSecret_41 : decode cX10_isSecret 41 = .ok (.aload_n 1, 1) := by decide +kernel
theorem dX10_isSecret_42 : decode cX10_isSecret 42 = .ok (.iload 4, 2) := by decide +kernel
theorem dX10_isSecret_44 : decode cX10_isSecret 44 = .ok (.iconst 1, 1) := by decide +kernel
theorem dX10_isSecret_45 : decode cX10_isSecret 45 = .ok (.iadd, 1) := by decide +kernel
theorem dX10_isSecret_46 : decode cX10_isSecret 46 = .ok (.iaload, 1) := by decide +kernel
theorem dX10_isSecret_47 : decode cX10_isSecret 47 = .ok (.baload, 1) := by decide +kernel
theorem dX10_isSecret_48 : decode cX10_isSecret 48 = .ok (.ifCond .eq 7, 3) := by decide +kernel
theorem dX10_isSecret_51 : decode cX10_isSecret 51 = .ok (.iconst 1, 1) := by decide +kernel
theorem dX10_isSecret_52 : decode cX10_isSecret 52 = .ok (.goto 4, 3) := by decide +kernel
theorem dX10_isSecret_55 : decode cX10_isSecret 55 = .ok (.iconst 0, 1) := by decide +kernel
theorem dX10_isSecret_56 : decode cX10_isSecret 56 = .ok (.istore 5, 2) := by decide +kernel
theorem dX10_isSecret_58 : decode cX10_isSecret 58 = .ok (.goto 36, 3) := by decide +kernel
theorem dX10_isSecret_61 : decode cX10_isSecret 61 = .ok (.iload 6, 2) := by decide +kernel
theorem dX10_isSecret_63 : decode cX10_isSecret 63 = .ok (.bipush 35, 2) := by decide +kernel
theorem dX10_isSecret_65 : decode cX10_isSecret 65 = .ok (.if_icmp .ne 29, 3) := by decide +kernel
theorem dX10_isSecret_68 : decode cX10_isSecret 68 = .ok (.iload 5, 2) := by decide +kernel
theorem dX10_isSecret_70 : decode cX10_isSecret 70 = .ok (.ifCond .ne 17, 3) := by decide +kernel
theorem dX10_isSecret_73 : decode cX10_isSecret 73 = .ok (.aload_n 0, 1) := by decide +kernel
theorem dX10_isSecret_74 : decode cX10_isSecret 74 = .ok (.getfield 17, 3) := by decide +kernel
theorem dX10_isSecret_77 : decode cX10_isSecret 77 = .ok (.aload_n 1, 1) := by decide +kernel
theorem dX10_isSecret_78 : decode cX10_isSecret 78 = .ok (.iload 4, 2) := by decide +kernel
theorem dX10_isSecret_80 : decode cX10_isSecret 80 = .ok (.iconst 1, 1) := by decide +kernel
theorem dX10_isSecret_81 : decode cX10_isSecret 81 = .ok (.iadd, 1) := by decide +kernel
theorem dX10_isSecret_82 : decode cX10_isSecret 82 = .ok (.iaload, 1) := by decide +kernel
theorem dX10_isSecret_83 : decode cX10_isSecret 83 = .ok (.baload, 1) := by decide +kernel
theorem dX10_isSecret_84 : decode cX10_isSecret 84 = .ok (.ifCond .eq 7, 3) := by decide +kernel
theorem dX10_isSecret_87 : decode cX10_isSecret 87 = .ok (.iconst 1, 1) := by decide +kernel
theorem dX10_isSecret_88 : decode cX10_isSecret 88 = .ok (.goto 4, 3) := by decide +kernel
theorem dX10_isSecret_91 : decode cX10_isSecret 91 = .ok (.iconst 0, 1) := by decide +kernel
theorem dX10_isSecret_92 : decode cX10_isSecret 92 = .ok (.istore 5, 2) := by decide +kernel
theorem dX10_isSecret_94 : decode cX10_isSecret 94 = .ok (.iload 4, 2) := by decide +kernel
theorem dX10_isSecret_96 : decode cX10_isSecret 96 = .ok (.iload 6, 2) := by decide +kernel
theorem dX10_isSecret_98 : decode cX10_isSecret 98 = .ok (.bipush 20, 2) := by decide +kernel
theorem dX10_isSecret_100 : decode cX10_isSecret 100 = .ok (.if_icmp .eq 17, 3) := by decide +kernel
theorem dX10_isSecret_103 : decode cX10_isSecret 103 = .ok (.iload 6, 2) := by decide +kernel
theorem dX10_isSecret_105 : decode cX10_isSecret 105 = .ok (.bipush 21, 2) := by decide +kernel
theorem dX10_isSecret_107 : decode cX10_isSecret 107 = .ok (.if_icmp .eq 10, 3) := by decide +kernel
theorem dX10_isSecret_110 : decode cX10_isSecret 110 = .ok (.iload 6, 2) := by decide +kernel
theorem dX10_isSecret_112 : decode cX10_isSecret 112 = .ok (.bipush 35, 2) := by decide +kernel
theorem dX10_isSecret_114 : decode cX10_isSecret 114 = .ok (.if_icmp .ne 7, 3) := by decide +kernel
theorem dX10_isSecret_117 : decode cX10_isSecret 117 = .ok (.iconst 2, 1) := by decide +kernel
theorem dX10_isSecret_118 : decode cX10_isSecret 118 = .ok (.goto 4, 3) := by decide +kernel
theorem dX10_isSecret_121 : decode cX10_isSecret 121 = .ok (.iconst 1, 1) := by decide +kernel
theorem dX10_isSecret_122 : decode cX10_isSecret 122 = .ok (.iadd, 1) := by decide +kernel
theorem dX10_isSecret_123 : decode cX10_isSecret 123 = .ok (.istore 4, 2) := by decide +kernel
theorem dX10_isSecret_125 : decode cX10_isSecret 125 = .ok (.goto (-112), 3) := by decide +kernel
theorem dX10_isSecret_128 : decode cX10_isSecret 128 = .ok (.iload 5, 2) := by decide +kernel
theorem dX10_isSecret_130 : decode cX10_isSecret 130 = .ok (.ireturn, 1) := by decide +kernel
theorem dX10_labelE_0 : decode cX10_labelE 0 = .ok (.aload_n 0, 1) := by decide +kernel
theorem dX10_labelE_1 : decode cX10_labelE 1 = .ok (.aload_n 0, 1) := by decide +kernel
theorem dX10_labelE_2 : decode cX10_labelE 2 = .ok (.getfield 7, 3) := by decide +kernel
theorem dX10_labelE_5 : decode cX10_labelE 5 = .ok (.iload_n 1, 1) := by decide +kernel
theorem dX10_labelE_6 : decode cX10_labelE 6 = .ok (.invokevirtual 107, 3) := by decide +kernel
theorem dX10_labelE_9 : decode cX10_labelE 9 = .ok (.istore_n 3, 1) := by decide +kernel
theorem dX10_labelE_10 : decode cX10_labelE 10 = .ok (.iload_n 1, 1) := by decide +kernel
theorem dX10_labelE_11 : decode cX10_labelE 11 = .ok (.istore 4, 2) := by decide +kernel
theorem dX10_labelE_13 : decode cX10_labelE 13 = .ok (.iload 4, 2) := by decide +kernel
theorem dX10_labelE_15 : decode cX10_labelE 15 = .ok (.iload_n 3, 1) := by decide +kernel
theorem dX10_labelE_16 : decode cX10_labelE 16 = .ok (.if_icmp .ge 123, 3) := by decide +kernel
theorem dX10_labelE_19 : decode cX10_labelE 19 = .ok (.aload_n 0, 1) := by decide +kernel
theorem dX10_labelE_20 : decode cX10_labelE 20 = .ok (.getfield 7, 3) := by decide +kernel
theorem dX10_labelE_23 : decode cX10_labelE 23 = .ok (.iload 4, 2) := by decide +kernel
theorem dX10_labelE_25 : decode cX10_labelE 25 = .ok (.iaload, 1) := by decide +kernel
theorem dX10_labelE_26 : decode cX10_labelE 26 = .ok (.istore 5, 2) := by decide +kernel
theorem dX10_labelE_28 : decode cX10_labelE 28 = .ok (.iload 5, 2) := by decide +kernel
theorem dX10_labelE_30 : decode cX10_labelE 30 = .ok (.bipush 33, 2) := by decide +kernel
theorem dX10_labelE_32 : decode cX10_labelE 32 = .ok (.if_icmp .eq 10, 3) := by decide +kernel
theorem dX10_labelE_35 : decode cX10_labelE 35 = .ok (.iload 5, 2) := by decide +kernel
theorem dX10_labelE_37 : decode cX10_labelE 37 = .ok (.bipush 34, 2) := by decide +kernel
theorem dX10_labelE_39 : decode cX10_labelE 39 = .ok (.if_icmp .ne 66, 3) := by decide +kernel
theorem dX10_labelE_42 : decode cX10_labelE 42 = .ok (.aload_n 0, 1) := by decide +kernel
theorem dX10_labelE_43 : decode cX10_labelE 43 = .ok (.aload_n 0, 1) := by decide +kernel
theorem dX10_labelE_44 : decode cX10_labelE 44 = .ok (.getfield 7, 3) := by decide +kernel
theorem dX10_labelE_47 : decode cX10_labelE 47 = .ok (.iload 4, 2) := by decide +kernel
theorem dX10_labelE_49 : decode cX10_labelE 49 = .ok (.iconst 1, 1) := by decide +kernel
theorem dX10_labelE_50 : decode cX10_labelE 50 = .ok (.iadd, 1) := by decide +kernel
theorem dX10_labelE_51 : decode cX10_labelE 51 = .ok (.invokevirtual 111, 3) := by decide +kernel
theorem dX10_labelE_54 : decode cX10_labelE 54 = .ok (.ifCond .ne 26, 3) := by decide +kernel
theorem dX10_labelE_57 : decode cX10_labelE 57 = .ok (.aload_n 0, 1) := by decide +kernel
theorem dX10_labelE_58 : decode cX10_labelE 58 = .ok (.aload_n 0, 1) := by decide +kernel
theorem dX10_labelE_59 : decode cX10_labelE 59 = .ok (.getfield 7, 3) := by decide +kernel
theorem dX10_labelE_62 : decode cX10_labelE 62 = .ok (.aload_n 0, 1) := by decide +kernel
theorem dX10_labelE_63 : decode cX10_labelE 63 = .ok (.aload_n 0, 1) := by decide +kernel
theorem dX10_labelE_64 : decode cX10_labelE 64 = .ok (.getfield 7, 3) := by decide +kernel
theorem dX10_labelE_67 : decode cX10_labelE 67 = .ok (.iload 4, 2) := by decide +kernel
theorem dX10_labelE_69 : decode cX10_labelE 69 = .ok (.iconst 1, 1) := by decide +kernel
theorem dX10_labelE_70 : decode cX10_labelE 70 = .ok (.iadd, 1) := by decide +kernel
theorem dX10_labelE_71 : decode cX10_labelE 71 = .ok (.invokevirtual 107, 3) := by decide +kernel
theorem dX10_labelE_74 : decode cX10_labelE 74 = .ok (.invokevirtual 111, 3) := by decide +kernel
theorem dX10_labelE_77 : decode cX10_labelE 77 = .ok (.ifCond .eq 7, 3) := by decide +kernel
theorem dX10_labelE_80 : decode cX10_labelE 80 = .ok (.iconst 1, 1) := by decide +kernel
theorem dX10_labelE_81 : decode cX10_labelE 81 = .ok (.goto 4, 3) := by decide +kernel
theorem dX10_labelE_84 : decode cX10_labelE 84 = .ok (.iconst 0, 1) := by decide +kernel
theorem dX10_labelE_85 : decode cX10_labelE 85 = .ok (.istore 6, 2) := by decide +kernel
theorem dX10_labelE_87 : decode cX10_labelE 87 = .ok (.iload 6, 2) := by decide +kernel
theorem dX10_labelE_89 : decode cX10_labelE 89 = .ok (.ifCond .ne 7, 3) := by decide +kernel
theorem dX10_labelE_92 : decode cX10_labelE 92 = .ok (.iload_n 2, 1) := by decide +kernel
theorem dX10_labelE_93 : decode cX10_labelE 93 = .ok (.ifCond .eq 12, 3) := by decide +kernel
theorem dX10_labelE_96 : decode cX10_labelE 96 = .ok (.aload_n 0, 1) := by decide +kernel
theorem dX10_labelE_97 : decode cX10_labelE 97 = .ok (.bipush (-14), 2) := by decide +kernel
theorem dX10_labelE_99 : decode cX10_labelE 99 = .ok (.iload 4, 2) := by decide +kernel
theorem dX10_labelE_101 : decode cX10_labelE 101 = .ok (.invokevirtual 74, 3) := by decide +kernel
theorem dX10_labelE_104 : decode cX10_labelE 104 = .ok (.pop, 1) := by decide +kernel
theorem dX10_labelE_105 : decode cX10_labelE 105 = .ok (.iload 4, 2) := by decide +kernel
theorem dX10_labelE_107 : decode cX10_labelE 107 = .ok (.iload 5, 2) := by decide +kernel
theorem dX10_labelE_109 : decode cX10_labelE 109 = .ok (.bipush 20, 2) := by decide +kernel
theorem dX10_labelE_111 : decode cX10_labelE 111 = .ok (.if_icmp .eq 17, 3) := by decide +kernel
theorem dX10_labelE_114 : decode cX10_labelE 114 = .ok (.iload 5, 2) := by decide +kernel
theorem dX10_labelE_116 : decode cX10_labelE 116 = .ok (.bipush 21, 2) := by decide +kernel
theorem dX10_labelE_118 : decode cX10_labelE 118 = .ok (.if_icmp .eq 10, 3) := by decide +kernel
theorem dX10_labelE_121 : decode cX10_labelE 121 = .ok (.iload 5, 2) := by decide +kernel
theorem dX10_labelE_123 : decode cX10_labelE 123 = .ok (.bipush 35, 2) := by decide +kernel
theorem dX10_labelE_125 : decode cX10_labelE 125 = .ok (.if_icmp .ne 7, 3) := by decide +kernel
theorem dX10_labelE_128 : decode cX10_labelE 128 = .ok (.iconst 2, 1) := by decide +kernel
theorem dX10_labelE_129 : decode cX10_labelE 129 = .ok (.goto 4, 3) := by decide +kernel
theorem dX10_labelE_132 : decode cX10_labelE 132 = .ok (.iconst 1, 1) := by decide +kernel
theorem dX10_labelE_133 : decode cX10_labelE 133 = .ok (.iadd, 1) := by decide +kernel
theorem dX10_labelE_134 : decode cX10_labelE 134 = .ok (.istore 4, 2) := by decide +kernel
theorem dX10_labelE_136 : decode cX10_labelE 136 = .ok (.goto (-123), 3) := by decide +kernel
theorem dX10_labelE_139 : decode cX10_labelE 139 = .ok (.return_, 1) := by decide +kernel
theorem dX10_labelAll_0 : decode cX10_labelAll 0 = .ok (.iload_n 1, 1) := by decide +kernel
theorem dX10_labelAll_1 : decode cX10_labelAll 1 = .ok (.istore_n 3, 1) := by decide +kernel
theorem dX10_labelAll_2 : decode cX10_labelAll 2 = .ok (.aload_n 0, 1) := by decide +kernel
theorem dX10_labelAll_3 : decode cX10_labelAll 3 = .ok (.getfield 7, 3) := by decide +kernel
theorem dX10_labelAll_6 : decode cX10_labelAll 6 = .ok (.iload_n 3, 1) := by decide +kernel
theorem dX10_labelAll_7 : decode cX10_labelAll 7 = .ok (.iaload, 1) := by decide +kernel
theorem dX10_labelAll_8 : decode cX10_labelAll 8 = .ok (.ifCond .eq 23, 3) := by decide +kernel
theorem dX10_labelAll_11 : decode cX10_labelAll 11 = .ok (.aload_n 0, 1) := by decide +kernel
theorem dX10_labelAll_12 : decode cX10_labelAll 12 = .ok (.getfield 7, 3) := by decide +kernel
theorem dX10_labelAll_15 : decode cX10_labelAll 15 = .ok (.iload_n 3, 1) := by decide +kernel
theorem dX10_labelAll_16 : decode cX10_labelAll 16 = .ok (.iaload, 1) := by decide +kernel
theorem dX10_labelAll_17 : decode cX10_labelAll 17 = .ok (.iconst 4, 1) := by decide +kernel
theorem dX10_labelAll_18 : decode cX10_labelAll 18 = .ok (.if_icmp .eq 13, 3) := by decide +kernel
theorem dX10_labelAll_21 : decode cX10_labelAll 21 = .ok (.aload_n 0, 1) := by decide +kernel
theorem dX10_labelAll_22 : decode cX10_labelAll 22 = .ok (.iload_n 3, 1) := by decide +kernel
theorem dX10_labelAll_23 : decode cX10_labelAll 23 = .ok (.iload_n 2, 1) := by decide +kernel
theorem dX10_labelAll_24 : decode cX10_labelAll 24 = .ok (.invokevirtual 115, 3) := by decide +kernel
theorem dX10_labelAll_27 : decode cX10_labelAll 27 = .ok (.istore_n 3, 1) := by decide +kernel
theorem dX10_labelAll_28 : decode cX10_labelAll 28 = .ok (.goto (-26), 3) := by decide +kernel
theorem dX10_labelAll_31 : decode cX10_labelAll 31 = .ok (.iload_n 3, 1) := by decide +kernel
theorem dX10_labelAll_32 : decode cX10_labelAll 32 = .ok (.ireturn, 1) := by decide +kernel
theorem dX10_labelS_0 : decode cX10_labelS 0 = .ok (.aload_n 0, 1) := by decide +kernel
theorem dX10_labelS_1 : decode cX10_labelS 1 = .ok (.getfield 7, 3) := by decide +kernel
theorem dX10_labelS_4 : decode cX10_labelS 4 = .ok (.iload_n 1, 1) := by decide +kernel
theorem dX10_labelS_5 : decode cX10_labelS 5 = .ok (.iaload, 1) := by decide +kernel
theorem dX10_labelS_6 : decode cX10_labelS 6 = .ok (.istore_n 3, 1) := by decide +kernel
theorem dX10_labelS_7 : decode cX10_labelS 7 = .ok (.iload_n 3, 1) := by decide +kernel
theorem dX10_labelS_8 : decode cX10_labelS 8 = .ok (.bipush 6, 2) := by decide +kernel
theorem dX10_labelS_10 : decode cX10_labelS 10 = .ok (.if_icmp .ne 14, 3) := by decide +kernel
theorem dX10_labelS_13 : decode cX10_labelS 13 = .ok (.aload_n 0, 1) := by decide +kernel
theorem dX10_labelS_14 : decode cX10_labelS 14 = .ok (.iload_n 1, 1) := by decide +kernel
theorem dX10_labelS_15 : decode cX10_labelS 15 = .ok (.iconst 2, 1) := by decide +kernel
theorem dX10_labelS_16 : decode cX10_labelS 16 = .ok (.iadd, 1) := by decide +kernel
theorem dX10_labelS_17 : decode cX10_labelS 17 = .ok (.iload_n 2, 1) := by decide +kernel
theorem dX10_labelS_18 : decode cX10_labelS 18 = .ok (.invokevirtual 119, 3) := by decide +kernel
theorem dX10_labelS_21 : decode cX10_labelS 21 = .ok (.iconst 1, 1) := by decide +kernel
theorem dX10_labelS_22 : decode cX10_labelS 22 = .ok (.iadd, 1) := by decide +kernel
theorem dX10_labelS_23 : decode cX10_labelS 23 = .ok (.ireturn, 1) := by decide +kernel
theorem dX10_labelS_24 : decode cX10_labelS 24 = .ok (.iload_n 3, 1) := by decide +kernel
theorem dX10_labelS_25 : decode cX10_labelS 25 = .ok (.iconst 3, 1) := by decide +kernel
theorem dX10_labelS_26 : decode cX10_labelS 26 = .ok (.if_icmp .ge 9, 3) := by decide +kernel
theorem dX10_labelS_29 : decode cX10_labelS 29 = .ok (.iload_n 1, 1) := by decide +kernel
theorem dX10_labelS_30 : decode cX10_labelS 30 = .ok (.iconst 2, 1) := by decide +kernel
theorem dX10_labelS_31 : decode cX10_labelS 31 = .ok (.iadd, 1) := by decide +kernel
theorem dX10_labelS_32 : decode cX10_labelS 32 = .ok (.goto 6, 3) := by decide +kernel
theorem dX10_labelS_35 : decode cX10_labelS 35 = .ok (.iload_n 1, 1) := by decide +kernel
theorem dX10_labelS_36 : decode cX10_labelS 36 = .ok (.iconst 1, 1) := by decide +kernel
theorem dX10_labelS_37 : decode cX10_labelS 37 = .ok (.iadd, 1) := by decide +kernel
theorem dX10_labelS_38 : decode cX10_labelS 38 = .ok (.istore 4, 2) := by decide +kernel
theorem dX10_labelS_40 : decode cX10_labelS 40 = .ok (.aload_n 0, 1) := by decide +kernel
theorem dX10_labelS_41 : decode cX10_labelS 41 = .ok (.aload_n 0, 1) := by decide +kernel
theorem dX10_labelS_42 : decode cX10_labelS 42 = .ok (.getfield 7, 3) := by decide +kernel
theorem dX10_labelS_45 : decode cX10_labelS 45 = .ok (.iload 4, 2) := by decide +kernel
theorem dX10_labelS_47 : decode cX10_labelS 47 = .ok (.invokevirtual 111, 3) := by decide +kernel
theorem dX10_labelS_50 : decode cX10_labelS 50 = .ok (.istore 5, 2) := by decide +kernel
theorem dX10_labelS_52 : decode cX10_labelS 52 = .ok (.aload_n 0, 1) := by decide +kernel
theorem dX10_labelS_53 : decode cX10_labelS 53 = .ok (.aload_n 0, 1) := by decide +kernel
theorem dX10_labelS_54 : decode cX10_labelS 54 = .ok (.getfield 7, 3) := by decide +kernel
theorem dX10_labelS_57 : decode cX10_labelS 57 = .ok (.iload 4, 2) := by decide +kernel
theorem dX10_labelS_59 : decode cX10_labelS 59 = .ok (.invokevirtual 107, 3) := by decide +kernel
theorem dX10_labelS_62 : decode cX10_labelS 62 = .ok (.istore 6, 2) := by decide +kernel
theorem dX10_labelS_64 : decode cX10_labelS 64 = .ok (.iload 4, 2) := by decide +kernel
theorem dX10_labelS_66 : decode cX10_labelS 66 = .ok (.istore 7, 2) := by decide +kernel
theorem dX10_labelS_68 : decode cX10_labelS 68 = .ok (.iload_n 3, 1) := by decide +kernel
theorem dX10_labelS_69 : decode cX10_labelS 69 = .ok (.iconst 2, 1) := by decide +kernel
theorem dX10_labelS_70 : decode cX10_labelS 70 = .ok (.if_icmp .ne 40, 3) := by decide +kernel
theorem dX10_labelS_73 : decode cX10_labelS 73 = .ok (.iload 5, 2) := by decide +kernel
theorem dX10_labelS_75 : decode cX10_labelS 75 = .ok (.ifCond .ne 16, 3) := by decide +kernel
theorem dX10_labelS_78 : decode cX10_labelS 78 = .ok (.aload_n 0, 1) := by decide +kernel
theorem dX10_labelS_79 : decode cX10_labelS 79 = .ok (.aload_n 0, 1) := by decide +kernel
theorem dX10_labelS_80 : decode cX10_labelS 80 = .ok (.getfield 7, 3) := by decide +kernel
theorem dX10_labelS_83 : decode cX10_labelS 83 = .ok (.iload 6, 2) := by decide +kernel
theorem dX10_labelS_85 : decode cX10_labelS 85 = .ok (.invokevirtual 111, 3) := by decide +kernel
theorem dX10_labelS_88 : decode cX10_labelS 88 = .ok (.ifCond .eq 7, 3) := by decide +kernel
theorem dX10_labelS_91 : decode cX10_labelS 91 = .ok (.iconst 1, 1) := by decide +kernel
theorem dX10_labelS_92 : decode cX10_labelS 92 = .ok (.goto 4, 3) := by decide +kernel
theorem dX10_labelS_95 : decode cX10_labelS 95 = .ok (.iconst 0, 1) := by decide +kernel
theorem dX10_labelS_96 : decode cX10_labelS 96 = .ok (.istore 5, 2) := by decide +kernel
theorem dX10_labelS_98 : decode cX10_labelS 98 = .ok (.aload_n 0, 1) := by decide +kernel
theorem dX10_labelS_99 : decode cX10_labelS 99 = .ok (.aload_n 0, 1) := by decide +kernel
theorem dX10_labelS_100 : decode cX10_labelS 100 = .ok (.getfield 7, 3) := by decide +kernel
theorem dX10_labelS_103 : decode cX10_labelS 103 = .ok (.iload 6, 2) := by decide +kernel
theorem dX10_labelS_105 : decode cX10_labelS 105 = .ok (.invokevirtual 107, 3) := by decide +kernel
theorem dX10_labelS_108 : decode cX10_labelS 108 = .ok (.istore 6, 2) := by decide +kernel
theorem dX10_labelS_110 : decode cX10_labelS 110 = .ok (.iload_n 3, 1) := by decide +kernel
theorem dX10_labelS_111 : decode cX10_labelS 111 = .ok (.iconst 1, 1) := by decide +kernel
theorem dX10_labelS_112 : decode cX10_labelS 112 = .ok (.if_icmp .ne 27, 3) := by decide +kernel
theorem dX10_labelS_115 : decode cX10_labelS 115 = .ok (.aload_n 0, 1) := by decide +kernel
theorem dX10_labelS_116 : decode cX10_labelS 116 = .ok (.getfield 13, 3) := by decide +kernel
theorem dX10_labelS_119 : decode cX10_labelS 119 = .ok (.aload_n 0, 1) := by decide +kernel
theorem dX10_labelS_120 : decode cX10_labelS 120 = .ok (.getfield 7, 3) := by decide +kernel
theorem dX10_labelS_123 : decode cX10_labelS 123 = .ok (.iload_n 1, 1) := by decide +kernel
theorem dX10_labelS_124 : decode cX10_labelS 124 = .ok (.iconst 1, 1) := by decide +kernel
theorem dX10_labelS_125 : decode cX10_labelS 125 = .ok (.iadd, 1) := by decide +kernel
theorem dX10_labelS_126 : decode cX10_labelS 126 = .ok (.iaload, 1) := by decide +kernel
theorem dX10_labelS_127 : decode cX10_labelS 127 = .ok (.baload, 1) := by decide +kernel
theorem dX10_labelS_128 : decode cX10_labelS 128 = .ok (.ifCond .ne 7, 3) := by decide +kernel
theorem dX10_labelS_131 : decode cX10_labelS 131 = .ok (.iconst 1, 1) := by decide +kernel
theorem dX10_labelS_132 : decode cX10_labelS 132 = .ok (.goto 52, 3) := by decide +kernel
theorem dX10_labelS_135 : decode cX10_labelS 135 = .ok (.iconst 0, 1) := by decide +kernel
theorem dX10_labelS_136 : decode cX10_labelS 136 = .ok (.goto 48, 3) := by decide +kernel
theorem dX10_labelS_139 : decode cX10_labelS 139 = .ok (.iload_n 3, 1) := by decide +kernel
theorem dX10_labelS_140 : decode cX10_labelS 140 = .ok (.iconst 2, 1) := by decide +kernel
theorem dX10_labelS_141 : decode cX10_labelS 141 = .ok (.if_icmp .ne 27, 3) := by decide +kernel
theorem dX10_labelS_144 : decode cX10_labelS 144 = .ok (.aload_n 0, 1) := by decide +kernel
theorem dX10_labelS_145 : decode cX10_labelS 145 = .ok (.getfield 17, 3) := by decide +kernel
theorem dX10_labelS_148 : decode cX10_labelS 148 = .ok (.aload_n 0, 1) := by decide +kernel
theorem dX10_labelS_149 : decode cX10_labelS 149 = .ok (.getfield 7, 3) := by decide +kernel
theorem dX10_labelS_152 : decode cX10_labelS 152 = .ok (.iload_n 1, 1) := by decide +kernel
theorem dX10_labelS_153 : decode cX10_labelS 153 = .ok (.iconst 1, 1) := by decide +kernel
theorem dX10_labelS_154 : decode cX10_labelS 154 = .ok (.iadd, 1) := by decide +kernel
theorem dX10_labelS_155 : decode cX10_labelS 155 = .ok (.iaload, 1) := by decide +kernel
theorem dX10_labelS_156 : decode cX10_labelS 156 = .ok (.baload, 1) := by decide +kernel
theorem dX10_labelS_157 : decode cX10_labelS 157 = .ok (.ifCond .ne 7, 3) := by decide +kernel
theorem dX10_labelS_160 : decode cX10_labelS 160 = .ok (.iconst 1, 1) := by decide +kernel
theorem dX10_labelS_161 : decode cX10_labelS 161 = .ok (.goto 23, 3) := by decide +kernel
theorem dX10_labelS_164 : decode cX10_labelS 164 = .ok (.iconst 0, 1) := by decide +kernel
theorem dX10_labelS_165 : decode cX10_labelS 165 = .ok (.goto 19, 3) := by decide +kernel
theorem dX10_labelS_168 : decode cX10_labelS 168 = .ok (.iload_n 3, 1) := by decide +kernel
theorem dX10_labelS_169 : decode cX10_labelS 169 = .ok (.iconst 5, 1) := by decide +kernel
theorem dX10_labelS_170 : decode cX10_labelS 170 = .ok (.if_icmp .eq 9, 3) := by decide +kernel
theorem dX10_labelS_173 : decode cX10_labelS 173 = .ok (.iload_n 3, 1) := by decide +kernel
theorem dX10_labelS_174 : decode cX10_labelS 174 = .ok (.bipush 7, 2) := by decide +kernel
theorem dX10_labelS_176 : decode cX10_labelS 176 = .ok (.if_icmp .ne 7, 3) := by decide +kernel
theorem dX10_labelS_179 : decode cX10_labelS 179 = .ok (.iconst 1, 1) := by decide +kernel
theorem dX10_labelS_180 : decode cX10_labelS 180 = .ok (.goto 4, 3) := by decide +kernel
theorem dX10_labelS_183 : decode cX10_labelS 183 = .ok (.iconst 0, 1) := by decide +kernel
theorem dX10_labelS_184 : decode cX10_labelS 184 = .ok (.istore 8, 2) := by decide +kernel
theorem dX10_labelS_186 : decode cX10_labelS 186 = .ok (.iload 8, 2) := by decide +kernel
theorem dX10_labelS_188 : decode cX10_labelS 188 = .ok (.ifCond .eq 20, 3) := by decide +kernel
theorem dX10_labelS_191 : decode cX10_labelS 191 = .ok (.iload 5, 2) := by decide +kernel
theorem dX10_labelS_193 : decode cX10_labelS 193 = .ok (.ifCond .ne 7, 3) := by decide +kernel
theorem dX10_labelS_196 : decode cX10_labelS 196 = .ok (.iload_n 2, 1) := by decide +kernel
theorem dX10_labelS_197 : decode cX10_labelS 197 = .ok (.ifCond .eq 11, 3) := by decide +kernel
theorem dX10_labelS_200 : decode cX10_labelS 200 = .ok (.aload_n 0, 1) := by decide +kernel
theorem dX10_labelS_201 : decode cX10_labelS 201 = .ok (.bipush (-14), 2) := by decide +kernel
theorem dX10_labelS_203 : decode cX10_labelS 203 = .ok (.iload_n 1, 1) := by decide +kernel
theorem dX10_labelS_204 : decode cX10_labelS 204 = .ok (.invokevirtual 74, 3) := by decide +kernel
theorem dX10_labelS_207 : decode cX10_labelS 207 = .ok (.pop, 1) := by decide +kernel
theorem dX10_labelS_208 : decode cX10_labelS 208 = .ok (.iload 7, 2) := by decide +kernel
theorem dX10_labelS_210 : decode cX10_labelS 210 = .ok (.iload 6, 2) := by decide +kernel
theorem dX10_labelS_212 : decode cX10_labelS 212 = .ok (.if_icmp .ge 25, 3) := by decide +kernel
theorem dX10_labelS_215 : decode cX10_labelS 215 = .ok (.aload_n 0, 1) := by decide +kernel
theorem dX10_labelS_216 : decode cX10_labelS 216 = .ok (.iload 7, 2) := by decide +kernel
theorem dX10_labelS_218 : decode cX10_labelS 218 = .ok (.iload_n 2, 1) := by decide +kernel
theorem dX10_labelS_219 : decode cX10_labelS 219 = .ok (.invokevirtual 122, 3) := by decide +kernel
theorem dX10_labelS_222 : decode cX10_labelS 222 = .ok (.aload_n 0, 1) := by decide +kernel
theorem dX10_labelS_223 : decode cX10_labelS 223 = .ok (.aload_n 0, 1) := by decide +kernel
theorem dX10_labelS_224 : decode cX10_labelS 224 = .ok (.getfield 7, 3) := by decide +kernel
theorem dX10_labelS_227 : decode cX10_labelS 227 = .ok (.iload 7, 2) := by decide +kernel
theorem dX10_labelS_229 : decode cX10_labelS 229 = .ok (.invokevirtual 107, 3) := by decide +kernel
theorem dX10_labelS_232 : decode cX10_labelS 232 = .ok (.istore 7, 2) := by decide +kernel
theorem dX10_labelS_234 : decode cX10_labelS 234 = .ok (.goto (-26), 3) := by decide +kernel
theorem dX10_labelS_237 : decode cX10_labelS 237 = .ok (.iload_n 3, 1) := by decide +kernel
theorem dX10_labelS_238 : decode cX10_labelS 238 = .ok (.iconst 3, 1) := by decide +kernel
theorem dX10_labelS_239 : decode cX10_labelS 239 = .ok (.if_icmp .ne 65, 3) := by decide +kernel
theorem dX10_labelS_242 : decode cX10_labelS 242 = .ok (.aload_n 0, 1) := by decide +kernel
theorem dX10_labelS_243 : decode cX10_labelS 243 = .ok (.iload 6, 2) := by decide +kernel
theorem dX10_labelS_245 : decode cX10_labelS 245 = .ok (.iload_n 2, 1) := by decide +kernel
theorem dX10_labelS_246 : decode cX10_labelS 246 = .ok (.ifCond .ne 8, 3) := by decide +kernel
theorem dX10_labelS_249 : decode cX10_labelS 249 = .ok (.iload 5, 2) := by decide +kernel
theorem dX10_labelS_251 : decode cX10_labelS 251 = .ok (.ifCond .eq 7, 3) := by decide +kernel
theorem dX10_labelS_254 : decode cX10_labelS 254 = .ok (.iconst 1, 1) := by decide +kernel
theorem dX10_labelS_255 : decode cX10_labelS 255 = .ok (.goto 4, 3) := by decide +kernel
theorem dX10_labelS_258 : decode cX10_labelS 258 = .ok (.iconst 0, 1) := by decide +kernel
theorem dX10_labelS_259 : decode cX10_labelS 259 = .ok (.invokevirtual 119, 3) := by decide +kernel
theorem dX10_labelS_262 : decode cX10_labelS 262 = .ok (.istore 9, 2) := by decide +kernel
theorem dX10_labelS_264 : decode cX10_labelS 264 = .ok (.aload_n 0, 1) := by decide +kernel
theorem dX10_labelS_265 : decode cX10_labelS 265 = .ok (.getfield 7, 3) := by decide +kernel
theorem dX10_labelS_268 : decode cX10_labelS 268 = .ok (.iload 9, 2) := by decide +kernel
theorem dX10_labelS_270 : decode cX10_labelS 270 = .ok (.iaload, 1) := by decide +kernel
theorem dX10_labelS_271 : decode cX10_labelS 271 = .ok (.iconst 4, 1) := by decide +kernel
theorem dX10_labelS_272 : decode cX10_labelS 272 = .ok (.if_icmp .ne 27, 3) := by decide +kernel
theorem dX10_labelS_275 : decode cX10_labelS 275 = .ok (.aload_n 0, 1) := by decide +kernel
theorem dX10_labelS_276 : decode cX10_labelS 276 = .ok (.iload 9, 2) := by decide +kernel
theorem dX10_labelS_278 : decode cX10_labelS 278 = .ok (.iconst 1, 1) := by decide +kernel
theorem dX10_labelS_279 : decode cX10_labelS 279 = .ok (.iadd, 1) := by decide +kernel
theorem dX10_labelS_280 : decode cX10_labelS 280 = .ok (.iload_n 2, 1) := by decide +kernel
theorem dX10_labelS_281 : decode cX10_labelS 281 = .ok (.ifCond .ne 8, 3) := by decide +kernel
theorem dX10_labelS_284 : decode cX10_labelS 284 = .ok (.iload 5, 2) := by decide +kernel
theorem dX10_labelS_286 : decode cX10_labelS 286 = .ok (.ifCond .eq 7, 3) := by decide +kernel
theorem dX10_labelS_289 : decode cX10_labelS 289 = .ok (.iconst 1, 1) := by decide +kernel
theorem dX10_labelS_290 : decode cX10_labelS 290 = .ok (.goto 4, 3) := by decide +kernel
theorem dX10_labelS_293 : decode cX10_labelS 293 = .ok (.iconst 0, 1) := by decide +kernel
theorem dX10_labelS_294 : decode cX10_labelS 294 = .ok (.invokevirtual 119, 3) := by decide +kernel
theorem dX10_labelS_297 : decode cX10_labelS 297 = .ok (.istore 9, 2) := by decide +kernel
theorem dX10_labelS_299 : decode cX10_labelS 299 = .ok (.iload 9, 2) := by decide +kernel
theorem dX10_labelS_301 : decode cX10_labelS 301 = .ok (.iconst 1, 1) := by decide +kernel
theorem dX10_labelS_302 : decode cX10_labelS 302 = .ok (.iadd, 1) := by decide +kernel
theorem dX10_labelS_303 : decode cX10_labelS 303 = .ok (.ireturn, 1) := by decide +kernel
theorem dX10_labelS_304 : decode cX10_labelS 304 = .ok (.iload_n 3, 1) := by decide +kernel
theorem dX10_labelS_305 : decode cX10_labelS 305 = .ok (.iconst 5, 1) := by decide +kernel
theorem dX10_labelS_306 : decode cX10_labelS 306 = .ok (.if_icmp .ne 15, 3) := by decide +kernel
theorem dX10_labelS_309 : decode cX10_labelS 309 = .ok (.aload_n 0, 1) := by decide +kernel
theorem dX10_labelS_310 : decode cX10_labelS 310 = .ok (.iload 6, 2) := by decide +kernel
theorem dX10_labelS_312 : decode cX10_labelS 312 = .ok (.iload_n 2, 1) := by decide +kernel
theorem dX10_labelS_313 : decode cX10_labelS 313 = .ok (.invokevirtual 119, 3) := by decide +kernel
theorem dX10_labelS_316 : decode cX10_labelS 316 = .ok (.iconst 1, 1) := by decide +kernel
theorem dX10_labelS_317 : decode cX10_labelS 317 = .ok (.iadd, 1) := by decide +kernel
theorem dX10_labelS_318 : decode cX10_labelS 318 = .ok (.goto 5, 3) := by decide +kernel
theorem dX10_labelS_321 : decode cX10_labelS 321 = .ok (.iload 6, 2) := by decide +kernel
theorem dX10_labelS_323 : decode cX10_labelS 323 = .ok (.ireturn, 1) := by decide +kernel
theorem dX10_word_0 : decode cX10_word 0 = .ok (.aload_n 0, 1) := by decide +kernel
theorem dX10_word_1 : decode cX10_word 1 = .ok (.getfield 32, 3) := by decide +kernel
theorem dX10_word_4 : decode cX10_word 4 = .ok (.aload_n 0, 1) := by decide +kernel
theorem dX10_word_5 : decode cX10_word 5 = .ok (.getfield 125, 3) := by decide +kernel
theorem dX10_word_8 : decode cX10_word 8 = .ok (.iload_n 1, 1) := by decide +kernel
theorem dX10_word_9 : decode cX10_word 9 = .ok (.iastore, 1) := by decide +kernel
theorem dX10_word_10 : decode cX10_word 10 = .ok (.aload_n 0, 1) := by decide +kernel
theorem dX10_word_11 : decode cX10_word 11 = .ok (.dup, 1) := by decide +kernel
theorem dX10_word_12 : decode cX10_word 12 = .ok (.getfield 125, 3) := by decide +kernel
theorem dX10_word_15 : decode cX10_word 15 = .ok (.iconst 1, 1) := by decide +kernel
theorem dX10_word_16 : decode cX10_word 16 = .ok (.iadd, 1) := by decide +kernel
theorem dX10_word_17 : decode cX10_word 17 = .ok (.putfield 125, 3) := by decide +kernel
theorem dX10_word_20 : decode cX10_word 20 = .ok (.return_, 1) := by decide +kernel
theorem dX10_codeE_0 : decode cX10_codeE 0 = .ok (.aload_n 0, 1) := by decide +kernel
theorem dX10_codeE_1 : decode cX10_codeE 1 = .ok (.getfield 29, 3) := by decide +kernel
theorem dX10_codeE_4 : decode cX10_codeE 4 = .ok (.iload_n 1, 1) := by decide +kernel
theorem dX10_codeE_5 : decode cX10_codeE 5 = .ok (.iaload, 1) := by decide +kernel
theorem dX10_codeE_6 : decode cX10_codeE 6 = .ok (.istore_n 2, 1) := by decide +kernel
theorem dX10_codeE_7 : decode cX10_codeE 7 = .ok (.iload_n 2, 1) := by decide +kernel
theorem dX10_codeE_8 : decode cX10_codeE 8 = .ok (.bipush 20, 2) := by decide +kernel
theorem dX10_codeE_10 : decode cX10_codeE 10 = .ok (.if_icmp .eq 9, 3) := by decide +kernel
theorem dX10_codeE_13 : decode cX10_codeE 13 = .ok (.iload_n 2, 1) := by decide +kernel
theorem dX10_codeE_14 : decode cX10_codeE 14 = .ok (.bipush 21, 2) := by decide +kernel
theorem dX10_codeE_16 : decode cX10_codeE 16 = .ok (.if_icmp .ne 27, 3) := by decide +kernel
theorem dX10_codeE_19 : decode cX10_codeE 19 = .ok (.aload_n 0, 1) := by decide +kernel
theorem dX10_codeE_20 : decode cX10_codeE 20 = .ok (.iload_n 2, 1) := by decide +kernel
theorem dX10_codeE_21 : decode cX10_codeE 21 = .ok (.bipush 19, 2) := by decide +kernel
theorem dX10_codeE_23 : decode cX10_codeE 23 = .ok (.isub, 1) := by decide +kernel
theorem dX10_codeE_24 : decode cX10_codeE 24 = .ok (.invokevirtual 128, 3) := by decide +kernel
theorem dX10_codeE_27 : decode cX10_codeE 27 = .ok (.aload_n 0, 1) := by decide +kernel
theorem dX10_codeE_28 : decode cX10_codeE 28 = .ok (.aload_n 0, 1) := by decide +kernel
theorem dX10_codeE_29 : decode cX10_codeE 29 = .ok (.getfield 29, 3) := by decide +kernel
theorem dX10_codeE_32 : decode cX10_codeE 32 = .ok (.iload_n 1, 1) := by decide +kernel
theorem dX10_codeE_33 : decode cX10_codeE 33 = .ok (.iconst 1, 1) := by decide +kernel
theorem dX10_codeE_34 : decode cX10_codeE 34 = .ok (.iadd, 1) := by decide +kernel
theorem dX10_codeE_35 : decode cX10_codeE 35 = .ok (.iaload, 1) := by decide +kernel
theorem dX10_codeE_36 : decode cX10_codeE 36 = .ok (.invokevirtual 128, 3) := by decide +kernel
theorem dX10_codeE_39 : decode cX10_codeE 39 = .ok (.iload_n 1, 1) := by decide +kernel
theorem dX10_codeE_40 : decode cX10_codeE 40 = .ok (.iconst 2, 1) := by decide +kernel
theorem dX10_codeE_41 : decode cX10_codeE 41 = .ok (.iadd, 1) := by decide +kernel
theorem dX10_codeE_42 : decode cX10_codeE 42 = .ok (.ireturn, 1) := by decide +kernel
theorem dX10_codeE_43 : decode cX10_codeE 43 = .ok (.iload_n 2, 1) := by decide +kernel
theorem dX10_codeE_44 : decode cX10_codeE 44 = .ok (.bipush 35, 2) := by decide +kernel
theorem dX10_codeE_46 : decode cX10_codeE 46 = .ok (.if_icmp .ne 50, 3) := by decide +kernel
theorem dX10_codeE_49 : decode cX10_codeE 49 = .ok (.aload_n 0, 1) := by decide +kernel
theorem dX10_codeE_50 : decode cX10_codeE 50 = .ok (.iload_n 1, 1) := by decide +kernel
theorem dX10_codeE_51 : decode cX10_codeE 51 = .ok (.iconst 2, 1) := by decide +kernel
theorem dX10_codeE_52 : decode cX10_codeE 52 = .ok (.iadd, 1) := by decide +kernel
theorem dX10_codeE_53 : decode cX10_codeE 53 = .ok (.invokevirtual 131, 3) := by decide +kernel
theorem dX10_codeE_56 : decode cX10_codeE 56 = .ok (.istore_n 3, 1) := by decide +kernel
theorem dX10_codeE_57 : decode cX10_codeE 57 = .ok (.aload_n 0, 1) := by decide +kernel
theorem dX10_codeE_58 : decode cX10_codeE 58 = .ok (.aload_n 0, 1) := by decide +kernel
theorem dX10_codeE_59 : decode cX10_codeE 59 = .ok (.aload_n 0, 1) := by decide +kernel
theorem dX10_codeE_60 : decode cX10_codeE 60 = .ok (.getfield 29, 3) := by decide +kernel
theorem dX10_codeE_63 : decode cX10_codeE 63 = .ok (.iload_n 1, 1) := by decide +kernel
theorem dX10_codeE_64 : decode cX10_codeE 64 = .ok (.iconst 2, 1) := by decide +kernel
theorem dX10_codeE_65 : decode cX10_codeE 65 = .ok (.iadd, 1) := by decide +kernel
theorem dX10_codeE_66 : decode cX10_codeE 66 = .ok (.invokevirtual 111, 3) := by decide +kernel
theorem dX10_codeE_69 : decode cX10_codeE 69 = .ok (.ifCond .eq 8, 3) := by decide +kernel
theorem dX10_codeE_72 : decode cX10_codeE 72 = .ok (.bipush 27, 2) := by decide +kernel
theorem dX10_codeE_74 : decode cX10_codeE 74 = .ok (.goto 5, 3) := by decide +kernel
theorem dX10_codeE_77 : decode cX10_codeE 77 = .ok (.bipush 21, 2) := by decide +kernel
theorem dX10_codeE_79 : decode cX10_codeE 79 = .ok (.invokevirtual 128, 3) := by decide +kernel
theorem dX10_codeE_82 : decode cX10_codeE 82 = .ok (.aload_n 0, 1) := by decide +kernel
theorem dX10_codeE_83 : decode cX10_codeE 83 = .ok (.aload_n 0, 1) := by decide +kernel
theorem dX10_codeE_84 : decode cX10_codeE 84 = .ok (.getfield 29, 3) := by decide +kernel
theorem dX10_codeE_87 : decode cX10_codeE 87 = .ok (.iload_n 1, 1) := by decide +kernel
theorem dX10_codeE_88 : decode cX10_codeE 88 = .ok (.iconst 1, 1) := by decide +kernel
theorem dX10_codeE_89 : decode cX10_codeE 89 = .ok (.iadd, 1) := by decide +kernel
theorem dX10_codeE_90 : decode cX10_codeE 90 = .ok (.iaload, 1) := by decide +kernel
theorem dX10_codeE_91 : decode cX10_codeE 91 = .ok (.invokevirtual 128, 3) := by decide +kernel
theorem dX10_codeE_94 : decode cX10_codeE 94 = .ok (.iload_n 3, 1) := by decide +kernel
theorem dX10_codeE_95 : decode cX10_codeE 95 = .ok (.ireturn, 1) := by decide +kernel
theorem dX10_codeE_96 : decode cX10_codeE 96 = .ok (.iload_n 1, 1) := by decide +kernel
theorem dX10_codeE_97 : decode cX10_codeE 97 = .ok (.iconst 1, 1) := by decide +kernel
theorem dX10_codeE_98 : decode cX10_codeE 98 = .ok (.iadd, 1) := by decide +kernel
theorem dX10_codeE_99 : decode cX10_codeE 99 = .ok (.istore_n 3, 1) := by decide +kernel
theorem dX10_codeE_100 : decode cX10_codeE 100 = .ok (.iconst 0, 1) := by decide +kernel
theorem dX10_codeE_101 : decode cX10_codeE 101 = .ok (.istore 4, 2) := by decide +kernel
theorem dX10_codeE_103 : decode cX10_codeE 103 = .ok (.iload 4, 2) := by decide +kernel
theorem dX10_codeE_105 : decode cX10_codeE 105 = .ok (.iload_n 2, 1) := by decide +kernel
theorem dX10_codeE_106 : decode cX10_codeE 106 = .ok (.invokestatic 85, 3) := by decide +kernel
theorem dX10_codeE_109 : decode cX10_codeE 109 = .ok (.if_icmp .ge 15, 3) := by decide +kernel
theorem dX10_codeE_112 : decode cX10_codeE 112 = .ok (.aload_n 0, 1) := by decide +kernel
theorem dX10_codeE_113 : decode cX10_codeE 113 = .ok (.iload_n 3, 1) := by decide +kernel
theorem dX10_codeE_114 : decode cX10_codeE 114 = .ok (.invokevirtual 131, 3) := by decide +kernel
theorem dX10_codeE_117 : decode cX10_codeE 117 = .ok (.istore_n 3, 1) := by decide +kernel
theorem dX10_codeE_118 : decode cX10_codeE 118 = .ok (.iinc 4 1, 3) := by decide +kernel
theorem dX10_codeE_121 : decode cX10_codeE 121 = .ok (.goto (-18), 3) := by decide +kernel
theorem dX10_codeE_124 : decode cX10_codeE 124 = .ok (.aload_n 0, 1) := by decide +kernel
theorem dX10_codeE_125 : decode cX10_codeE 125 = .ok (.iload_n 2, 1) := by decide +kernel
theorem dX10_codeE_126 : decode cX10_codeE 126 = .ok (.bipush 36, 2) := by decide +kernel
theorem dX10_codeE_128 : decode cX10_codeE 128 = .ok (.if_icmp .ne 8, 3) := by decide +kernel
theorem dX10_codeE_131 : decode cX10_codeE 131 = .ok (.bipush 17, 2) := by decide +kernel
theorem dX10_codeE_133 : decode cX10_codeE 133 = .ok (.goto 7, 3) := by decide +kernel
theorem dX10_codeE_136 : decode cX10_codeE 136 = .ok (.iload_n 2, 1) := by decide +kernel
theorem dX10_codeE_137 : decode cX10_codeE 137 = .ok (.bipush 18, 2) := by decide +kernel
theorem dX10_codeE_139 : decode cX10_codeE 139 = .ok (.isub, 1) := by decide +kernel
theorem dX10_codeE_140 : decode cX10_codeE 140 = .ok (.invokevirtual 128, 3) := by decide +kernel
theorem dX10_codeE_143 : decode cX10_codeE 143 = .ok (.iload_n 3, 1) := by decide +kernel
theorem dX10_codeE_144 : decode cX10_codeE 144 = .ok (.ireturn, 1) := by decide +kernel
theorem dX10_codeAll_0 : decode cX10_codeAll 0 = .ok (.iload_n 1, 1) := by decide +kernel
theorem dX10_codeAll_1 : decode cX10_codeAll 1 = .ok (.istore 4, 2) := by decide +kernel
theorem dX10_codeAll_3 : decode cX10_codeAll 3 = .ok (.aload_n 0, 1) := by decide +kernel
theorem dX10_codeAll_4 : decode cX10_codeAll 4 = .ok (.getfield 29, 3) := by decide +kernel
theorem dX10_codeAll_7 : decode cX10_codeAll 7 = .ok (.iload 4, 2) := by decide +kernel
theorem dX10_codeAll_9 : decode cX10_codeAll 9 = .ok (.iaload, 1) := by decide +kernel
theorem dX10_codeAll_10 : decode cX10_codeAll 10 = .ok (.ifCond .eq 27, 3) := by decide +kernel
theorem dX10_codeAll_13 : decode cX10_codeAll 13 = .ok (.aload_n 0, 1) := by decide +kernel
theorem dX10_codeAll_14 : decode cX10_codeAll 14 = .ok (.getfield 29, 3) := by decide +kernel
theorem dX10_codeAll_17 : decode cX10_codeAll 17 = .ok (.iload 4, 2) := by decide +kernel
theorem dX10_codeAll_19 : decode cX10_codeAll 19 = .ok (.iaload, 1) := by decide +kernel
theorem dX10_codeAll_20 : decode cX10_codeAll 20 = .ok (.iconst 4, 1) := by decide +kernel
theorem dX10_codeAll_21 : decode cX10_codeAll 21 = .ok (.if_icmp .eq 16, 3) := by decide +kernel
theorem dX10_codeAll_24 : decode cX10_codeAll 24 = .ok (.aload_n 0, 1) := by decide +kernel
theorem dX10_codeAll_25 : decode cX10_codeAll 25 = .ok (.iload 4, 2) := by decide +kernel
theorem dX10_codeAll_27 : decode cX10_codeAll 27 = .ok (.iload_n 2, 1) := by decide +kernel
theorem dX10_codeAll_28 : decode cX10_codeAll 28 = .ok (.iload_n 3, 1) := by decide +kernel
theorem dX10_codeAll_29 : decode cX10_codeAll 29 = .ok (.invokevirtual 134, 3) := by decide +kernel
theorem dX10_codeAll_32 : decode cX10_codeAll 32 = .ok (.istore 4, 2) := by decide +kernel
theorem dX10_codeAll_34 : decode cX10_codeAll 34 = .ok (.goto (-31), 3) := by decide +kernel
theorem dX10_codeAll_37 : decode cX10_codeAll 37 = .ok (.iload 4, 2) := by decide +kernel
theorem dX10_codeAll_39 : decode cX10_codeAll 39 = .ok (.ireturn, 1) := by decide +kernel
theorem dX10_codeS_0 : decode cX10_codeS 0 = .ok (.aload_n 0, 1) := by decide +kernel
theorem dX10_codeS_1 : decode cX10_codeS 1 = .ok (.getfield 29, 3) := by decide +kernel
theorem dX10_codeS_4 : decode cX10_codeS 4 = .ok (.iload_n 1, 1) := by decide +kernel
theorem dX10_codeS_5 : decode cX10_codeS 5 = .ok (.iaload, 1) := by decide +kernel
theorem dX10_codeS_6 : decode cX10_codeS 6 = .ok (.istore 4, 2) := by decide +kernel
theorem dX10_codeS_8 : decode cX10_codeS 8 = .ok (.aload_n 0, 1) := by decide +kernel
theorem dX10_codeS_9 : decode cX10_codeS 9 = .ok (.getfield 29, 3) := by decide +kernel
theorem dX10_codeS_12 : decode cX10_codeS 12 = .ok (.iload_n 1, 1) := by decide +kernel
theorem dX10_codeS_13 : decode cX10_codeS 13 = .ok (.iconst 1, 1) := by decide +kernel
theorem dX10_codeS_14 : decode cX10_codeS 14 = .ok (.iadd, 1) := by decide +kernel
theorem dX10_codeS_15 : decode cX10_codeS 15 = .ok (.iaload, 1) := by decide +kernel
theorem dX10_codeS_16 : decode cX10_codeS 16 = .ok (.istore 5, 2) := by decide +kernel
theorem dX10_codeS_18 : decode cX10_codeS 18 = .ok (.iload 4, 2) := by decide +kernel
theorem dX10_codeS_20 : decode cX10_codeS 20 = .ok (.iconst 1, 1) := by decide +kernel
theorem dX10_codeS_21 : decode cX10_codeS 21 = .ok (.if_icmp .ne 44, 3) := by decide +kernel
theorem dX10_codeS_24 : decode cX10_codeS 24 = .ok (.aload_n 0, 1) := by decide +kernel
theorem dX10_codeS_25 : decode cX10_codeS 25 = .ok (.iload_n 1, 1) := by decide +kernel
theorem dX10_codeS_26 : decode cX10_codeS 26 = .ok (.iconst 2, 1) := by decide +kernel
theorem dX10_codeS_27 : decode cX10_codeS 27 = .ok (.iadd, 1) := by decide +kernel
theorem dX10_codeS_28 : decode cX10_codeS 28 = .ok (.invokevirtual 131, 3) := by decide +kernel
theorem dX10_codeS_31 : decode cX10_codeS 31 = .ok (.istore 6, 2) := by decide +kernel
theorem dX10_codeS_33 : decode cX10_codeS 33 = .ok (.aload_n 0, 1) := by decide +kernel
theorem dX10_codeS_34 : decode cX10_codeS 34 = .ok (.iload_n 2, 1) := by decide +kernel
theorem dX10_codeS_35 : decode cX10_codeS 35 = .ok (.ifCond .le 8, 3) := by decide +kernel
theorem dX10_codeS_38 : decode cX10_codeS 38 = .ok (.bipush 25, 2) := by decide +kernel
theorem dX10_codeS_40 : decode cX10_codeS 40 = .ok (.goto 4, 3) := by decide +kernel
theorem dX10_codeS_43 : decode cX10_codeS 43 = .ok (.iconst 3, 1) := by decide +kernel
theorem dX10_codeS_44 : decode cX10_codeS 44 = .ok (.invokevirtual 128, 3) := by decide +kernel
theorem dX10_codeS_47 : decode cX10_codeS 47 = .ok (.iload_n 2, 1) := by decide +kernel
theorem dX10_codeS_48 : decode cX10_codeS 48 = .ok (.ifCond .le 8, 3) := by decide +kernel
theorem dX10_codeS_51 : decode cX10_codeS 51 = .ok (.aload_n 0, 1) := by decide +kernel
theorem dX10_codeS_52 : decode cX10_codeS 52 = .ok (.iload_n 2, 1) := by decide +kernel
theorem dX10_codeS_53 : decode cX10_codeS 53 = .ok (.invokevirtual 128, 3) := by decide +kernel
theorem dX10_codeS_56 : decode cX10_codeS 56 = .ok (.aload_n 0, 1) := by decide +kernel
theorem dX10_codeS_57 : decode cX10_codeS 57 = .ok (.iload 5, 2) := by decide +kernel
theorem dX10_codeS_59 : decode cX10_codeS 59 = .ok (.invokevirtual 128, 3) := by decide +kernel
theorem dX10_codeS_62 : decode cX10_codeS 62 = .ok (.iload 6, 2) := by decide +kernel
theorem dX10_codeS_64 : decode cX10_codeS 64 = .ok (.ireturn, 1) := by decide +kernel
theorem dX10_codeS_65 : decode cX10_codeS 65 = .ok (.iload 4, 2) := by decide +kernel
theorem dX10_codeS_67 : decode cX10_codeS 67 = .ok (.iconst 2, 1) := by decide +kernel
theorem dX10_codeS_68 : decode cX10_codeS 68 = .ok (.if_icmp .ne 77, 3) := by decide +kernel
theorem dX10_codeS_71 : decode cX10_codeS 71 = .ok (.aload_n 0, 1) := by decide +kernel
theorem dX10_codeS_72 : decode cX10_codeS 72 = .ok (.aload_n 0, 1) := by decide +kernel
theorem dX10_codeS_73 : decode cX10_codeS 73 = .ok (.iload_n 1, 1) := by decide +kernel
theorem dX10_codeS_74 : decode cX10_codeS 74 = .ok (.iconst 2, 1) := by decide +kernel
theorem dX10_codeS_75 : decode cX10_codeS 75 = .ok (.iadd, 1) := by decide +kernel
theorem dX10_codeS_76 : decode cX10_codeS 76 = .ok (.invokevirtual 131, 3) := by decide +kernel
theorem dX10_codeS_79 : decode cX10_codeS 79 = .ok (.invokevirtual 131, 3) := by decide +kernel
theorem dX10_codeS_82 : decode cX10_codeS 82 = .ok (.istore 6, 2) := by decide +kernel
theorem dX10_codeS_84 : decode cX10_codeS 84 = .ok (.aload_n 0, 1) := by decide +kernel
theorem dX10_codeS_85 : decode cX10_codeS 85 = .ok (.aload_n 0, 1) := by decide +kernel
theorem dX10_codeS_86 : decode cX10_codeS 86 = .ok (.getfield 29, 3) := by decide +kernel
theorem dX10_codeS_89 : decode cX10_codeS 89 = .ok (.iload_n 1, 1) := by decide +kernel
theorem dX10_codeS_90 : decode cX10_codeS 90 = .ok (.iconst 2, 1) := by decide +kernel
theorem dX10_codeS_91 : decode cX10_codeS 91 = .ok (.iadd, 1) := by decide +kernel
theorem dX10_codeS_92 : decode cX10_codeS 92 = .ok (.invokevirtual 111, 3) := by decide +kernel
theorem dX10_codeS_95 : decode cX10_codeS 95 = .ok (.istore 7, 2) := by decide +kernel
theorem dX10_codeS_97 : decode cX10_codeS 97 = .ok (.aload_n 0, 1) := by decide +kernel
theorem dX10_codeS_98 : decode cX10_codeS 98 = .ok (.iload 7, 2) := by decide +kernel
theorem dX10_codeS_100 : decode cX10_codeS 100 = .ok (.ifCond .eq 8, 3) := by decide +kernel
theorem dX10_codeS_103 : decode cX10_codeS 103 = .ok (.bipush 28, 2) := by decide +kernel
theorem dX10_codeS_105 : decode cX10_codeS 105 = .ok (.goto 14, 3) := by decide +kernel
theorem dX10_codeS_108 : decode cX10_codeS 108 = .ok (.iload_n 2, 1) := by decide +kernel
theorem dX10_codeS_109 : decode cX10_codeS 109 = .ok (.ifCond .le 8, 3) := by decide +kernel
theorem dX10_codeS_112 : decode cX10_codeS 112 = .ok (.bipush 26, 2) := by decide +kernel
theorem dX10_codeS_114 : decode cX10_codeS 114 = .ok (.goto 5, 3) := by decide +kernel
theorem dX10_codeS_117 : decode cX10_codeS 117 = .ok (.bipush 22, 2) := by decide +kernel
theorem dX10_codeS_119 : decode cX10_codeS 119 = .ok (.invokevirtual 128, 3) := by decide +kernel
theorem dX10_codeS_122 : decode cX10_codeS 122 = .ok (.iload 7, 2) := by decide +kernel
theorem dX10_codeS_124 : decode cX10_codeS 124 = .ok (.ifCond .ne 7, 3) := by decide +kernel
theorem dX10_codeS_127 : decode cX10_codeS 127 = .ok (.iload_n 2, 1) := by decide +kernel
theorem dX10_codeS_128 : decode cX10_codeS 128 = .ok (.ifCond .le 8, 3) := by decide +kernel
theorem dX10_codeS_131 : decode cX10_codeS 131 = .ok (.aload_n 0, 1) := by decide +kernel
theorem dX10_codeS_132 : decode cX10_codeS 132 = .ok (.iload_n 2, 1) := by decide +kernel
theorem dX10_codeS_133 : decode cX10_codeS 133 = .ok (.invokevirtual 128, 3) := by decide +kernel
theorem dX10_codeS_136 : decode cX10_codeS 136 = .ok (.aload_n 0, 1) := by decide +kernel
theorem dX10_codeS_137 : decode cX10_codeS 137 = .ok (.iload 5, 2) := by decide +kernel
theorem dX10_codeS_139 : decode cX10_codeS 139 = .ok (.invokevirtual 128, 3) := by decide +kernel
theorem dX10_codeS_142 : decode cX10_codeS 142 = .ok (.iload 6, 2) := by decide +kernel
theorem dX10_codeS_144 : decode cX10_codeS 144 = .ok (.ireturn, 1) := by decide +kernel
theorem dX10_codeS_145 : decode cX10_codeS 145 = .ok (.iload 4, 2) := by decide +kernel
theorem dX10_codeS_147 : decode cX10_codeS 147 = .ok (.bipush 7, 2) := by decide +kernel
theorem dX10_codeS_149 : decode cX10_codeS 149 = .ok (.if_icmp .ne 21, 3) := by decide +kernel
theorem dX10_codeS_152 : decode cX10_codeS 152 = .ok (.aload_n 0, 1) := by decide +kernel
theorem dX10_codeS_153 : decode cX10_codeS 153 = .ok (.iload_n 1, 1) := by decide +kernel
theorem dX10_codeS_154 : decode cX10_codeS 154 = .ok (.iconst 1, 1) := by decide +kernel
theorem dX10_codeS_155 : decode cX10_codeS 155 = .ok (.iadd, 1) := by decide +kernel
theorem dX10_codeS_156 : decode cX10_codeS 156 = .ok (.invokevirtual 131, 3) := by decide +kernel
theorem dX10_codeS_159 : decode cX10_codeS 159 = .ok (.istore 6, 2) := by decide +kernel
theorem dX10_codeS_161 : decode cX10_codeS 161 = .ok (.aload_n 0, 1) := by decide +kernel
theorem dX10_codeS_162 : decode cX10_codeS 162 = .ok (.bipush 20, 2) := by decide +kernel
theorem dX10_codeS_164 : decode cX10_codeS 164 = .ok (.invokevirtual 128, 3) := by decide +kernel
theorem dX10_codeS_167 : decode cX10_codeS 167 = .ok (.iload 6, 2) := by decide +kernel
theorem dX10_codeS_169 : decode cX10_codeS 169 = .ok (.ireturn, 1) := by decide +kernel
theorem dX10_codeS_170 : decode cX10_codeS 170 = .ok (.iload 4, 2) := by decide +kernel
theorem dX10_codeS_172 : decode cX10_codeS 172 = .ok (.iconst 3, 1) := by decide +kernel
theorem dX10_codeS_173 : decode cX10_codeS 173 = .ok (.if_icmp .ne 11, 3) := by decide +kernel
theorem dX10_codeS_176 : decode cX10_codeS 176 = .ok (.aload_n 0, 1) := by decide +kernel
theorem dX10_codeS_177 : decode cX10_codeS 177 = .ok (.iload_n 1, 1) := by decide +kernel
theorem dX10_codeS_178 : decode cX10_codeS 178 = .ok (.iload_n 2, 1) := by decide +kernel
theorem dX10_codeS_179 : decode cX10_codeS 179 = .ok (.iload_n 3, 1) := by decide +kernel
theorem dX10_codeS_180 : decode cX10_codeS 180 = .ok (.invokevirtual 138, 3) := by decide +kernel
theorem dX10_codeS_183 : decode cX10_codeS 183 = .ok (.ireturn, 1) := by decide +kernel
theorem dX10_codeS_184 : decode cX10_codeS 184 = .ok (.aload_n 0, 1) := by decide +kernel
theorem dX10_codeS_185 : decode cX10_codeS 185 = .ok (.getfield 125, 3) := by decide +kernel
theorem dX10_codeS_188 : decode cX10_codeS 188 = .ok (.istore 6, 2) := by decide +kernel
theorem dX10_codeS_190 : decode cX10_codeS 190 = .ok (.iload 4, 2) := by decide +kernel
theorem dX10_codeS_192 : decode cX10_codeS 192 = .ok (.iconst 5, 1) := by decide +kernel
theorem dX10_codeS_193 : decode cX10_codeS 193 = .ok (.if_icmp .ne 15, 3) := by decide +kernel
theorem dX10_codeS_196 : decode cX10_codeS 196 = .ok (.aload_n 0, 1) := by decide +kernel
theorem dX10_codeS_197 : decode cX10_codeS 197 = .ok (.iload_n 1, 1) := by decide +kernel
theorem dX10_codeS_198 : decode cX10_codeS 198 = .ok (.iconst 1, 1) := by decide +kernel
theorem dX10_codeS_199 : decode cX10_codeS 199 = .ok (.iadd, 1) := by decide +kernel
theorem dX10_codeS_200 : decode cX10_codeS 200 = .ok (.invokevirtual 131, 3) := by decide +kernel
theorem dX10_codeS_203 : decode cX10_codeS 203 = .ok (.istore 7, 2) := by decide +kernel
theorem dX10_codeS_205 : decode cX10_codeS 205 = .ok (.goto 53, 3) := by decide +kernel
theorem dX10_codeS_208 : decode cX10_codeS 208 = .ok (.aload_n 0, 1) := by decide +kernel
theorem dX10_codeS_209 : decode cX10_codeS 209 = .ok (.bipush 29, 2) := by decide +kernel
theorem dX10_codeS_211 : decode cX10_codeS 211 = .ok (.invokevirtual 128, 3) := by decide +kernel
theorem dX10_codeS_214 : decode cX10_codeS 214 = .ok (.aload_n 0, 1) := by decide +kernel
theorem dX10_codeS_215 : decode cX10_codeS 215 = .ok (.iload_n 3, 1) := by decide +kernel
theorem dX10_codeS_216 : decode cX10_codeS 216 = .ok (.invokevirtual 128, 3) := by decide +kernel
theorem dX10_codeS_219 : decode cX10_codeS 219 = .ok (.aload_n 0, 1) := by decide +kernel
theorem dX10_codeS_220 : decode cX10_codeS 220 = .ok (.getfield 125, 3) := by decide +kernel
theorem dX10_codeS_223 : decode cX10_codeS 223 = .ok (.istore 6, 2) := by decide +kernel
theorem dX10_codeS_225 : decode cX10_codeS 225 = .ok (.aload_n 0, 1) := by decide +kernel
theorem dX10_codeS_226 : decode cX10_codeS 226 = .ok (.bipush 30, 2) := by decide +kernel
theorem dX10_codeS_228 : decode cX10_codeS 228 = .ok (.invokevirtual 128, 3) := by decide +kernel
theorem dX10_codeS_231 : decode cX10_codeS 231 = .ok (.aload_n 0, 1) := by decide +kernel
theorem dX10_codeS_232 : decode cX10_codeS 232 = .ok (.iload_n 3, 1) := by decide +kernel
theorem dX10_codeS_233 : decode cX10_codeS 233 = .ok (.invokevirtual 128, 3) := by decide +kernel
theorem dX10_codeS_236 : decode cX10_codeS 236 = .ok (.aload_n 0, 1) := by decide +kernel
theorem dX10_codeS_237 : decode cX10_codeS 237 = .ok (.iconst 1, 1) := by decide +kernel
theorem dX10_codeS_238 : decode cX10_codeS 238 = .ok (.invokevirtual 128, 3) := by decide +kernel
theorem dX10_codeS_241 : decode cX10_codeS 241 = .ok (.aload_n 0, 1) := by decide +kernel
theorem dX10_codeS_242 : decode cX10_codeS 242 = .ok (.iload 5, 2) := by decide +kernel
theorem dX10_codeS_244 : decode cX10_codeS 244 = .ok (.invokevirtual 128, 3) := by decide +kernel
theorem dX10_codeS_247 : decode cX10_codeS 247 = .ok (.aload_n 0, 1) := by decide +kernel
theorem dX10_codeS_248 : decode cX10_codeS 248 = .ok (.bipush 12, 2) := by decide +kernel
theorem dX10_codeS_250 : decode cX10_codeS 250 = .ok (.invokevirtual 128, 3) := by decide +kernel
theorem dX10_codeS_253 : decode cX10_codeS 253 = .ok (.iload_n 1, 1) := by decide +kernel
theorem dX10_codeS_254 : decode cX10_codeS 254 = .ok (.iconst 2, 1) := by decide +kernel
theorem dX10_codeS_255 : decode cX10_codeS 255 = .ok (.iadd, 1) := by decide +kernel
theorem dX10_codeS_256 : decode cX10_codeS 256 = .ok (.istore 7, 2) := by decide +kernel
theorem dX10_codeS_258 : decode cX10_codeS 258 = .ok (.aload_n 0, 1) := by decide +kernel
theorem dX10_codeS_259 : decode cX10_codeS 259 = .ok (.bipush 19, 2) := by decide +kernel
theorem dX10_codeS_261 : decode cX10_codeS 261 = .ok (.invokevirtual 128, 3) := by decide +kernel
theorem dX10_codeS_264 : decode cX10_codeS 264 = .ok (.aload_n 0, 1) := by decide +kernel
theorem dX10_codeS_265 : decode cX10_codeS 265 = .ok (.getfield 125, 3) := by decide +kernel
theorem dX10_codeS_268 : decode cX10_codeS 268 = .ok (.istore 8, 2) := by decide +kernel
theorem dX10_codeS_270 : decode cX10_codeS 270 = .ok (.aload_n 0, 1) := by decide +kernel
theorem dX10_codeS_271 : decode cX10_codeS 271 = .ok (.iconst 0, 1) := by decide +kernel
theorem dX10_codeS_272 : decode cX10_codeS 272 = .ok (.invokevirtual 128, 3) := by decide +kernel
theorem dX10_codeS_275 : decode cX10_codeS 275 = .ok (.aload_n 0, 1) := by decide +kernel
theorem dX10_codeS_276 : decode cX10_codeS 276 = .ok (.iload 7, 2) := by decide +kernel
theorem dX10_codeS_278 : decode cX10_codeS 278 = .ok (.iload_n 2, 1) := by decide +kernel
theorem dX10_codeS_279 : decode cX10_codeS 279 = .ok (.iload 4, 2) := by decide +kernel
theorem dX10_codeS_281 : decode cX10_codeS 281 = .ok (.bipush 6, 2) := by decide +kernel
theorem dX10_codeS_283 : decode cX10_codeS 283 = .ok (.if_icmp .ne 9, 3) := by decide +kernel
theorem dX10_codeS_286 : decode cX10_codeS 286 = .ok (.iload_n 3, 1) := by decide +kernel
theorem dX10_codeS_287 : decode cX10_codeS 287 = .ok (.iconst 1, 1) := by decide +kernel
theorem dX10_codeS_288 : decode cX10_codeS 288 = .ok (.iadd, 1) := by decide +kernel
theorem dX10_codeS_289 : decode cX10_codeS 289 = .ok (.goto 4, 3) := by decide +kernel
theorem dX10_codeS_292 : decode cX10_codeS 292 = .ok (.iload_n 3, 1) := by decide +kernel
theorem dX10_codeS_293 : decode cX10_codeS 293 = .ok (.invokevirtual 141, 3) := by decide +kernel
theorem dX10_codeS_296 : decode cX10_codeS 296 = .ok (.istore 7, 2) := by decide +kernel
theorem dX10_codeS_298 : decode cX10_codeS 298 = .ok (.iload 4, 2) := by decide +kernel
theorem dX10_codeS_300 : decode cX10_codeS 300 = .ok (.bipush 6, 2) := by decide +kernel
theorem dX10_codeS_302 : decode cX10_codeS 302 = .ok (.if_icmp .ne 14, 3) := by decide +kernel
theorem dX10_codeS_305 : decode cX10_codeS 305 = .ok (.aload_n 0, 1) := by decide +kernel
theorem dX10_codeS_306 : decode cX10_codeS 306 = .ok (.bipush 31, 2) := by decide +kernel
theorem dX10_codeS_308 : decode cX10_codeS 308 = .ok (.invokevirtual 128, 3) := by decide +kernel
theorem dX10_codeS_311 : decode cX10_codeS 311 = .ok (.aload_n 0, 1) := by decide +kernel
theorem dX10_codeS_312 : decode cX10_codeS 312 = .ok (.iload_n 3, 1) := by decide +kernel
theorem dX10_codeS_313 : decode cX10_codeS 313 = .ok (.invokevirtual 128, 3) := by decide +kernel
theorem dX10_codeS_316 : decode cX10_codeS 316 = .ok (.aload_n 0, 1) := by decide +kernel
theorem dX10_codeS_317 : decode cX10_codeS 317 = .ok (.bipush 18, 2) := by decide +kernel
theorem dX10_codeS_319 : decode cX10_codeS 319 = .ok (.invokevirtual 128, 3) := by decide +kernel
theorem dX10_codeS_322 : decode cX10_codeS 322 = .ok (.aload_n 0, 1) := by decide +kernel
theorem dX10_codeS_323 : decode cX10_codeS 323 = .ok (.iload 6, 2) := by decide +kernel
theorem dX10_codeS_325 : decode cX10_codeS 325 = .ok (.invokevirtual 128, 3) := by decide +kernel
theorem dX10_codeS_328 : decode cX10_codeS 328 = .ok (.aload_n 0, 1) := by decide +kernel
theorem dX10_codeS_329 : decode cX10_codeS 329 = .ok (.getfield 32, 3) := by decide +kernel
theorem dX10_codeS_332 : decode cX10_codeS 332 = .ok (.iload 8, 2) := by decide +kernel
theorem dX10_codeS_334 : decode cX10_codeS 334 = .ok (.aload_n 0, 1) := by decide +kernel
theorem dX10_codeS_335 : decode cX10_codeS 335 = .ok (.getfield 125, 3) := by decide +kernel
theorem dX10_codeS_338 : decode cX10_codeS 338 = .ok (.iastore, 1) := by decide +kernel
theorem dX10_codeS_339 : decode cX10_codeS 339 = .ok (.iload 7, 2) := by decide +kernel
theorem dX10_codeS_341 : decode cX10_codeS 341 = .ok (.iconst 1, 1) := by decide +kernel
theorem dX10_codeS_342 : decode cX10_codeS 342 = .ok (.iadd, 1) := by decide +kernel
theorem dX10_codeS_343 : decode cX10_codeS 343 = .ok (.ireturn, 1) := by decide +kernel
theorem dX10_codeIf_0 : decode cX10_codeIf 0 = .ok (.aload_n 0, 1) := by decide +kernel
theorem dX10_codeIf_1 : decode cX10_codeIf 1 = .ok (.iload_n 1, 1) := by decide +kernel
theorem dX10_codeIf_2 : decode cX10_codeIf 2 = .ok (.iconst 1, 1) := by decide +kernel
theorem dX10_codeIf_3 : decode cX10_codeIf 3 = .ok (.iadd, 1) := by decide +kernel
theorem dX10_codeIf_4 : decode cX10_codeIf 4 = .ok (.invokevirtual 131, 3) := by decide +kernel
theorem dX10_codeIf_7 : decode cX10_codeIf 7 = .ok (.istore 4, 2) := by decide +kernel
theorem dX10_codeIf_9 : decode cX10_codeIf 9 = .ok (.aload_n 0, 1) := by decide +kernel
theorem dX10_codeIf_10 : decode cX10_codeIf 10 = .ok (.aload_n 0, 1) := by decide +kernel
theorem dX10_codeIf_11 : decode cX10_codeIf 11 = .ok (.getfield 29, 3) := by decide +kernel
theorem dX10_codeIf_14 : decode cX10_codeIf 14 = .ok (.iload_n 1, 1) := by decide +kernel
theorem dX10_codeIf_15 : decode cX10_codeIf 15 = .ok (.iconst 1, 1) := by decide +kernel
theorem dX10_codeIf_16 : decode cX10_codeIf 16 = .ok (.iadd, 1) := by decide +kernel
theorem dX10_codeIf_17 : decode cX10_codeIf 17 = .ok (.invokevirtual 111, 3) := by decide +kernel
theorem dX10_codeIf_20 : decode cX10_codeIf 20 = .ok (.ifCond .eq 71, 3) := by decide +kernel
theorem dX10_codeIf_23 : decode cX10_codeIf 23 = .ok (.aload_n 0, 1) := by decide +kernel
theorem dX10_codeIf_24 : decode cX10_codeIf 24 = .ok (.bipush 23, 2) := by decide +kernel
theorem dX10_codeIf_26 : decode cX10_codeIf 26 = .ok (.invokevirtual 128, 3) := by decide +kernel
theorem dX10_codeIf_29 : decode cX10_codeIf 29 = .ok (.aload_n 0, 1) := by decide +kernel
theorem dX10_codeIf_30 : decode cX10_codeIf 30 = .ok (.iload_n 2, 1) := by decide +kernel
theorem dX10_codeIf_31 : decode cX10_codeIf 31 = .ok (.iconst 1, 1) := by decide +kernel
theorem dX10_codeIf_32 : decode cX10_codeIf 32 = .ok (.iadd, 1) := by decide +kernel
theorem dX10_codeIf_33 : decode cX10_codeIf 33 = .ok (.invokevirtual 128, 3) := by decide +kernel
theorem dX10_codeIf_36 : decode cX10_codeIf 36 = .ok (.aload_n 0, 1) := by decide +kernel
theorem dX10_codeIf_37 : decode cX10_codeIf 37 = .ok (.iload 4, 2) := by decide +kernel
theorem dX10_codeIf_39 : decode cX10_codeIf 39 = .ok (.iload_n 2, 1) := by decide +kernel
theorem dX10_codeIf_40 : decode cX10_codeIf 40 = .ok (.iconst 1, 1) := by decide +kernel
theorem dX10_codeIf_41 : decode cX10_codeIf 41 = .ok (.iadd, 1) := by decide +kernel
theorem dX10_codeIf_42 : decode cX10_codeIf 42 = .ok (.iload_n 3, 1) := by decide +kernel
theorem dX10_codeIf_43 : decode cX10_codeIf 43 = .ok (.invokevirtual 141, 3) := by decide +kernel
theorem dX10_codeIf_46 : decode cX10_codeIf 46 = .ok (.istore 4, 2) := by decide +kernel
theorem dX10_codeIf_48 : decode cX10_codeIf 48 = .ok (.aload_n 0, 1) := by decide +kernel
theorem dX10_codeIf_49 : decode cX10_codeIf 49 = .ok (.getfield 29, 3) := by decide +kernel
theorem dX10_codeIf_52 : decode cX10_codeIf 52 = .ok (.iload 4, 2) := by decide +kernel
theorem dX10_codeIf_54 : decode cX10_codeIf 54 = .ok (.iaload, 1) := by decide +kernel
theorem dX10_codeIf_55 : decode cX10_codeIf 55 = .ok (.iconst 4, 1) := by decide +kernel
theorem dX10_codeIf_56 : decode cX10_codeIf 56 = .ok (.if_icmp .ne 30, 3) := by decide +kernel
theorem dX10_codeIf_59 : decode cX10_codeIf 59 = .ok (.aload_n 0, 1) := by decide +kernel
theorem dX10_codeIf_60 : decode cX10_codeIf 60 = .ok (.bipush 24, 2) := by decide +kernel
theorem dX10_codeIf_62 : decode cX10_codeIf 62 = .ok (.invokevirtual 128, 3) := by decide +kernel
theorem dX10_codeIf_65 : decode cX10_codeIf 65 = .ok (.aload_n 0, 1) := by decide +kernel
theorem dX10_codeIf_66 : decode cX10_codeIf 66 = .ok (.iload_n 2, 1) := by decide +kernel
theorem dX10_codeIf_67 : decode cX10_codeIf 67 = .ok (.iconst 1, 1) := by decide +kernel
theorem dX10_codeIf_68 : decode cX10_codeIf 68 = .ok (.iadd, 1) := by decide +kernel
theorem dX10_codeIf_69 : decode cX10_codeIf 69 = .ok (.invokevirtual 128, 3) := by decide +kernel
theorem dX10_codeIf_72 : decode cX10_codeIf 72 = .ok (.aload_n 0, 1) := by decide +kernel
theorem dX10_codeIf_73 : decode cX10_codeIf 73 = .ok (.iload 4, 2) := by decide +kernel
theorem dX10_codeIf_75 : decode cX10_codeIf 75 = .ok (.iconst 1, 1) := by decide +kernel
theorem dX10_codeIf_76 : decode cX10_codeIf 76 = .ok (.iadd, 1) := by decide +kernel
theorem dX10_codeIf_77 : decode cX10_codeIf 77 = .ok (.iload_n 2, 1) := by decide +kernel
theorem dX10_codeIf_78 : decode cX10_codeIf 78 = .ok (.iconst 1, 1) := by decide +kernel
theorem dX10_codeIf_79 : decode cX10_codeIf 79 = .ok (.iadd, 1) := by decide +kernel
theorem dX10_codeIf_80 : decode cX10_codeIf 80 = .ok (.iload_n 3, 1) := by decide +kernel
theorem dX10_codeIf_81 : decode cX10_codeIf 81 = .ok (.invokevirtual 141, 3) := by decide +kernel
theorem dX10_codeIf_84 : decode cX10_codeIf 84 = .ok (.istore 4, 2) := by decide +kernel
theorem dX10_codeIf_86 : decode cX10_codeIf 86 = .ok (.iload 4, 2) := by decide +kernel
theorem dX10_codeIf_88 : decode cX10_codeIf 88 = .ok (.iconst 1, 1) := by decide +kernel
theorem dX10_codeIf_89 : decode cX10_codeIf 89 = .ok (.iadd, 1) := by decide +kernel
theorem dX10_codeIf_90 : decode cX10_codeIf 90 = .ok (.ireturn, 1) := by decide +kernel
theorem dX10_codeIf_91 : decode cX10_codeIf 91 = .ok (.aload_n 0, 1) := by decide +kernel
theorem dX10_codeIf_92 : decode cX10_codeIf 92 = .ok (.bipush 19, 2) := by decide +kernel
theorem dX10_codeIf_94 : decode cX10_codeIf 94 = .ok (.invokevirtual 128, 3) := by decide +kernel
theorem dX10_codeIf_97 : decode cX10_codeIf 97 = .ok (.aload_n 0, 1) := by decide +kernel
theorem dX10_codeIf_98 : decode cX10_codeIf 98 = .ok (.getfield 125, 3) := by decide +kernel
theorem dX10_codeIf_101 : decode cX10_codeIf 101 = .ok (.istore 5, 2) := by decide +kernel
theorem dX10_codeIf_103 : decode cX10_codeIf 103 = .ok (.aload_n 0, 1) := by decide +kernel
theorem dX10_codeIf_104 : decode cX10_codeIf 104 = .ok (.iconst 0, 1) := by decide +kernel
theorem dX10_codeIf_105 : decode cX10_codeIf 105 = .ok (.invokevirtual 128, 3) := by decide +kernel
theorem dX10_codeIf_108 : decode cX10_codeIf 108 = .ok (.aload_n 0, 1) := by decide +kernel
theorem dX10_codeIf_109 : decode cX10_codeIf 109 = .ok (.iload 4, 2) := by decide +kernel
theorem dX10_codeIf_111 : decode cX10_codeIf 111 = .ok (.iload_n 2, 1) := by decide +kernel
theorem dX10_codeIf_112 : decode cX10_codeIf 112 = .ok (.iload_n 3, 1) := by decide +kernel
theorem dX10_codeIf_113 : decode cX10_codeIf 113 = .ok (.invokevirtual 141, 3) := by decide +kernel
theorem dX10_codeIf_116 : decode cX10_codeIf 116 = .ok (.istore 4, 2) := by decide +kernel
theorem dX10_codeIf_118 : decode cX10_codeIf 118 = .ok (.aload_n 0, 1) := by decide +kernel
theorem dX10_codeIf_119 : decode cX10_codeIf 119 = .ok (.getfield 29, 3) := by decide +kernel
theorem dX10_codeIf_122 : decode cX10_codeIf 122 = .ok (.iload 4, 2) := by decide +kernel
theorem dX10_codeIf_124 : decode cX10_codeIf 124 = .ok (.iaload, 1) := by decide +kernel
theorem dX10_codeIf_125 : decode cX10_codeIf 125 = .ok (.iconst 4, 1) := by decide +kernel
theorem dX10_codeIf_126 : decode cX10_codeIf 126 = .ok (.if_icmp .ne 57, 3) := by decide +kernel
theorem dX10_codeIf_129 : decode cX10_codeIf 129 = .ok (.aload_n 0, 1) := by decide +kernel
theorem dX10_codeIf_130 : decode cX10_codeIf 130 = .ok (.bipush 18, 2) := by decide +kernel
theorem dX10_codeIf_132 : decode cX10_codeIf 132 = .ok (.invokevirtual 128, 3) := by decide +kernel
theorem dX10_codeIf_135 : decode cX10_codeIf 135 = .ok (.aload_n 0, 1) := by decide +kernel
theorem dX10_codeIf_136 : decode cX10_codeIf 136 = .ok (.getfield 125, 3) := by decide +kernel
theorem dX10_codeIf_139 : decode cX10_codeIf 139 = .ok (.istore 6, 2) := by decide +kernel
theorem dX10_codeIf_141 : decode cX10_codeIf 141 = .ok (.aload_n 0, 1) := by decide +kernel
theorem dX10_codeIf_142 : decode cX10_codeIf 142 = .ok (.iconst 0, 1) := by decide +kernel
theorem dX10_codeIf_143 : decode cX10_codeIf 143 = .ok (.invokevirtual 128, 3) := by decide +kernel
theorem dX10_codeIf_146 : decode cX10_codeIf 146 = .ok (.aload_n 0, 1) := by decide +kernel
theorem dX10_codeIf_147 : decode cX10_codeIf 147 = .ok (.getfield 32, 3) := by decide +kernel
theorem dX10_codeIf_150 : decode cX10_codeIf 150 = .ok (.iload 5, 2) := by decide +kernel
theorem dX10_codeIf_152 : decode cX10_codeIf 152 = .ok (.aload_n 0, 1) := by decide +kernel
theorem dX10_codeIf_153 : decode cX10_codeIf 153 = .ok (.getfield 125, 3) := by decide +kernel
theorem dX10_codeIf_156 : decode cX10_codeIf 156 = .ok (.iastore, 1) := by decide +kernel
theorem dX10_codeIf_157 : decode cX10_codeIf 157 = .ok (.aload_n 0, 1) := by decide +kernel
theorem dX10_codeIf_158 : decode cX10_codeIf 158 = .ok (.iload 4, 2) := by decide +kernel
theorem dX10_codeIf_160 : decode cX10_codeIf 160 = .ok (.iconst 1, 1) := by decide +kernel
theorem dX10_codeIf_161 : decode cX10_codeIf 161 = .ok (.iadd, 1) := by decide +kernel
theorem dX10_codeIf_162 : decode cX10_codeIf 162 = .ok (.iload_n 2, 1) := by decide +kernel
theorem dX10_codeIf_163 : decode cX10_codeIf 163 = .ok (.iload_n 3, 1) := by decide +kernel
theorem dX10_codeIf_164 : decode cX10_codeIf 164 = .ok (.invokevirtual 141, 3) := by decide +kernel
theorem dX10_codeIf_167 : decode cX10_codeIf 167 = .ok (.istore 4, 2) := by decide +kernel
theorem dX10_codeIf_169 : decode cX10_codeIf 169 = .ok (.aload_n 0, 1) := by decide +kernel
theorem dX10_codeIf_170 : decode cX10_codeIf 170 = .ok (.getfield 32, 3) := by decide +kernel
theorem dX10_codeIf_173 : decode cX10_codeIf 173 = .ok (.iload 6, 2) := by decide +kernel
theorem dX10_codeIf_175 : decode cX10_codeIf 175 = .ok (.aload_n 0, 1) := by decide +kernel
theorem dX10_codeIf_176 : decode cX10_codeIf 176 = .ok (.getfield 125, 3) := by decide +kernel
theorem dX10_codeIf_179 : decode cX10_codeIf 179 = .ok (.iastore, 1) := by decide +kernel
theorem dX10_codeIf_180 : decode cX10_codeIf 180 = .ok (.goto 14, 3) := by decide +kernel
theorem dX10_codeIf_183 : decode cX10_codeIf 183 = .ok (.aload_n 0, 1) := by decide +kernel
theorem dX10_codeIf_184 : decode cX10_codeIf 184 = .ok (.getfield 32, 3) := by decide +kernel
theorem dX10_codeIf_187 : decode cX10_codeIf 187 = .ok (.iload 5, 2) := by decide +kernel
theorem dX10_codeIf_189 : decode cX10_codeIf 189 = .ok (.aload_n 0, 1) := by decide +kernel
theorem dX10_codeIf_190 : decode cX10_codeIf 190 = .ok (.getfield 125, 3) := by decide +kernel
theorem dX10_codeIf_193 : decode cX10_codeIf 193 = .ok (.iastore, 1) := by decide +kernel
theorem dX10_codeIf_194 : decode cX10_codeIf 194 = .ok (.iload 4, 2) := by decide +kernel
theorem dX10_codeIf_196 : decode cX10_codeIf 196 = .ok (.iconst 1, 1) := by decide +kernel
theorem dX10_codeIf_197 : decode cX10_codeIf 197 = .ok (.iadd, 1) := by decide +kernel
theorem dX10_codeIf_198 : decode cX10_codeIf 198 = .ok (.ireturn, 1) := by decide +kernel
theorem dX10_check_0 : decode cX10_check 0 = .ok (.aload_n 0, 1) := by decide +kernel
theorem dX10_check_1 : decode cX10_check 1 = .ok (.iconst 0, 1) := by decide +kernel
theorem dX10_check_2 : decode cX10_check 2 = .ok (.putfield 71, 3) := by decide +kernel
theorem dX10_check_5 : decode cX10_check 5 = .ok (.aload_n 0, 1) := by decide +kernel
theorem dX10_check_6 : decode cX10_check 6 = .ok (.iconst 0, 1) := by decide +kernel
theorem dX10_check_7 : decode cX10_check 7 = .ok (.putfield 65, 3) := by decide +kernel
theorem dX10_check_10 : decode cX10_check 10 = .ok (.aload_n 0, 1) := by decide +kernel
theorem dX10_check_11 : decode cX10_check 11 = .ok (.iconst (-1), 1) := by decide +kernel
theorem dX10_check_12 : decode cX10_check 12 = .ok (.putfield 68, 3) := by decide +kernel
theorem dX10_check_15 : decode cX10_check 15 = .ok (.aload_n 0, 1) := by decide +kernel
theorem dX10_check_16 : decode cX10_check 16 = .ok (.iconst 1, 1) := by decide +kernel
theorem dX10_check_17 : decode cX10_check 17 = .ok (.iconst 0, 1) := by decide +kernel
theorem dX10_check_18 : decode cX10_check 18 = .ok (.invokevirtual 100, 3) := by decide +kernel
theorem dX10_check_21 : decode cX10_check 21 = .ok (.aload_n 0, 1) := by decide +kernel
theorem dX10_check_22 : decode cX10_check 22 = .ok (.getfield 65, 3) := by decide +kernel
theorem dX10_check_25 : decode cX10_check 25 = .ok (.ifCond .ne 35, 3) := by decide +kernel
theorem dX10_check_28 : decode cX10_check 28 = .ok (.aload_n 0, 1) := by decide +kernel
theorem dX10_check_29 : decode cX10_check 29 = .ok (.dup, 1) := by decide +kernel
theorem dX10_check_30 : decode cX10_check 30 = .ok (.getfield 71, 3) := by decide +kernel
theorem dX10_check_33 : decode cX10_check 33 = .ok (.iconst 1, 1) := by decide +kernel
theorem dX10_check_34 : decode cX10_check 34 = .ok (.iadd, 1) := by decide +kernel
theorem dX10_check_35 : decode cX10_check 35 = .ok (.putfield 71, 3) := by decide +kernel
theorem dX10_check_38 : decode cX10_check 38 = .ok (.aload_n 0, 1) := by decide +kernel
theorem dX10_check_39 : decode cX10_check 39 = .ok (.getfield 71, 3) := by decide +kernel
theorem dX10_check_42 : decode cX10_check 42 = .ok (.aload_n 0, 1) := by decide +kernel
theorem dX10_check_43 : decode cX10_check 43 = .ok (.getfield 62, 3) := by decide +kernel
theorem dX10_check_46 : decode cX10_check 46 = .ok (.if_icmp .ge 14, 3) := by decide +kernel
theorem dX10_check_49 : decode cX10_check 49 = .ok (.aload_n 0, 1) := by decide +kernel
theorem dX10_check_50 : decode cX10_check 50 = .ok (.bipush (-11), 2) := by decide +kernel
theorem dX10_check_52 : decode cX10_check 52 = .ok (.aload_n 0, 1) := by decide +kernel
theorem dX10_check_53 : decode cX10_check 53 = .ok (.getfield 71, 3) := by decide +kernel
theorem dX10_check_56 : decode cX10_check 56 = .ok (.invokevirtual 74, 3) := by decide +kernel
theorem dX10_check_59 : decode cX10_check 59 = .ok (.pop, 1) := by decide +kernel
theorem dX10_check_60 : decode cX10_check 60 = .ok (.aload_n 0, 1) := by decide +kernel
theorem dX10_check_61 : decode cX10_check 61 = .ok (.getfield 65, 3) := by decide +kernel
theorem dX10_check_64 : decode cX10_check 64 = .ok (.ifCond .ne 33, 3) := by decide +kernel
theorem dX10_check_67 : decode cX10_check 67 = .ok (.aload_n 0, 1) := by decide +kernel
theorem dX10_check_68 : decode cX10_check 68 = .ok (.iconst 0, 1) := by decide +kernel
theorem dX10_check_69 : decode cX10_check 69 = .ok (.iconst 0, 1) := by decide +kernel
theorem dX10_check_70 : decode cX10_check 70 = .ok (.invokevirtual 119, 3) := by decide +kernel
theorem dX10_check_73 : decode cX10_check 73 = .ok (.istore_n 1, 1) := by decide +kernel
theorem dX10_check_74 : decode cX10_check 74 = .ok (.aload_n 0, 1) := by decide +kernel
theorem dX10_check_75 : decode cX10_check 75 = .ok (.aload_n 0, 1) := by decide +kernel
theorem dX10_check_76 : decode cX10_check 76 = .ok (.getfield 65, 3) := by decide +kernel
theorem dX10_check_79 : decode cX10_check 79 = .ok (.ifCond .ne 11, 3) := by decide +kernel
theorem dX10_check_82 : decode cX10_check 82 = .ok (.iload_n 1, 1) := by decide +kernel
theorem dX10_check_83 : decode cX10_check 83 = .ok (.ifCond .lt 7, 3) := by decide +kernel
theorem dX10_check_86 : decode cX10_check 86 = .ok (.iconst (-1), 1) := by decide +kernel
theorem dX10_check_87 : decode cX10_check 87 = .ok (.goto 7, 3) := by decide +kernel
theorem dX10_check_90 : decode cX10_check 90 = .ok (.aload_n 0, 1) := by decide +kernel
theorem dX10_check_91 : decode cX10_check 91 = .ok (.getfield 68, 3) := by decide +kernel
theorem dX10_check_94 : decode cX10_check 94 = .ok (.putfield 68, 3) := by decide +kernel
theorem dX10_check_97 : decode cX10_check 97 = .ok (.aload_n 0, 1) := by decide +kernel
theorem dX10_check_98 : decode cX10_check 98 = .ok (.aload_n 0, 1) := by decide +kernel
theorem dX10_check_99 : decode cX10_check 99 = .ok (.getfield 68, 3) := by decide +kernel
theorem dX10_check_102 : decode cX10_check 102 = .ok (.putfield 35, 3) := by decide +kernel
theorem dX10_check_105 : decode cX10_check 105 = .ok (.aload_n 0, 1) := by decide +kernel
theorem dX10_check_106 : decode cX10_check 106 = .ok (.getfield 65, 3) := by decide +kernel
theorem dX10_check_109 : decode cX10_check 109 = .ok (.ifCond .ne 62, 3) := by decide +kernel
theorem dX10_check_112 : decode cX10_check 112 = .ok (.iconst 0, 1) := by decide +kernel
theorem dX10_check_113 : decode cX10_check 113 = .ok (.istore_n 1, 1) := by decide +kernel
theorem dX10_check_114 : decode cX10_check 114 = .ok (.iload_n 1, 1) := by decide +kernel
theorem dX10_check_115 : decode cX10_check 115 = .ok (.aload_n 0, 1) := by decide +kernel
theorem dX10_check_116 : decode cX10_check 116 = .ok (.getfield 62, 3) := by decide +kernel
theorem dX10_check_119 : decode cX10_check 119 = .ok (.if_icmp .ge 21, 3) := by decide +kernel
theorem dX10_check_122 : decode cX10_check 122 = .ok (.aload_n 0, 1) := by decide +kernel
theorem dX10_check_123 : decode cX10_check 123 = .ok (.getfield 29, 3) := by decide +kernel
theorem dX10_check_126 : decode cX10_check 126 = .ok (.iload_n 1, 1) := by decide +kernel
theorem dX10_check_127 : decode cX10_check 127 = .ok (.aload_n 0, 1) := by decide +kernel
theorem dX10_check_128 : decode cX10_check 128 = .ok (.getfield 7, 3) := by decide +kernel
theorem dX10_check_131 : decode cX10_check 131 = .ok (.iload_n 1, 1) := by decide +kernel
theorem dX10_check_132 : decode cX10_check 132 = .ok (.iaload, 1) := by decide +kernel
theorem dX10_check_133 : decode cX10_check 133 = .ok (.iastore, 1) := by decide +kernel
theorem dX10_check_134 : decode cX10_check 134 = .ok (.iinc 1 1, 3) := by decide +kernel
theorem dX10_check_137 : decode cX10_check 137 = .ok (.goto (-23), 3) := by decide +kernel
theorem dX10_check_140 : decode cX10_check 140 = .ok (.aload_n 0, 1) := by decide +kernel
theorem dX10_check_141 : decode cX10_check 141 = .ok (.iconst 0, 1) := by decide +kernel
theorem dX10_check_142 : decode cX10_check 142 = .ok (.putfield 125, 3) := by decide +kernel
theorem dX10_check_145 : decode cX10_check 145 = .ok (.aload_n 0, 1) := by decide +kernel
theorem dX10_check_146 : decode cX10_check 146 = .ok (.iconst 0, 1) := by decide +kernel
theorem dX10_check_147 : decode cX10_check 147 = .ok (.iconst 0, 1) := by decide +kernel
theorem dX10_check_148 : decode cX10_check 148 = .ok (.iconst 0, 1) := by decide +kernel
theorem dX10_check_149 : decode cX10_check 149 = .ok (.invokevirtual 141, 3) := by decide +kernel
theorem dX10_check_152 : decode cX10_check 152 = .ok (.istore_n 1, 1) := by decide +kernel
theorem dX10_check_153 : decode cX10_check 153 = .ok (.aload_n 0, 1) := by decide +kernel
theorem dX10_check_154 : decode cX10_check 154 = .ok (.iconst 0, 1) := by decide +kernel
theorem dX10_check_155 : decode cX10_check 155 = .ok (.invokevirtual 128, 3) := by decide +kernel
theorem dX10_check_158 : decode cX10_check 158 = .ok (.aload_n 0, 1) := by decide +kernel
theorem dX10_check_159 : decode cX10_check 159 = .ok (.iload_n 1, 1) := by decide +kernel
theorem dX10_check_160 : decode cX10_check 160 = .ok (.ifCond .lt 7, 3) := by decide +kernel
theorem dX10_check_163 : decode cX10_check 163 = .ok (.iconst 1, 1) := by decide +kernel
theorem dX10_check_164 : decode cX10_check 164 = .ok (.goto 4, 3) := by decide +kernel
theorem dX10_check_167 : decode cX10_check 167 = .ok (.iconst 0, 1) := by decide +kernel
theorem dX10_check_168 : decode cX10_check 168 = .ok (.putfield 58, 3) := by decide +kernel
theorem dX10_check_171 : decode cX10_check 171 = .ok (.aload_n 0, 1) := by decide +kernel
theorem dX10_check_172 : decode cX10_check 172 = .ok (.iconst 0, 1) := by decide +kernel
theorem dX10_check_173 : decode cX10_check 173 = .ok (.putfield 62, 3) := by decide +kernel
theorem dX10_check_176 : decode cX10_check 176 = .ok (.aload_n 0, 1) := by decide +kernel
theorem dX10_check_177 : decode cX10_check 177 = .ok (.getfield 65, 3) := by decide +kernel
theorem dX10_check_180 : decode cX10_check 180 = .ok (.ifCond .ne 10, 3) := by decide +kernel
theorem dX10_check_183 : decode cX10_check 183 = .ok (.aload_n 0, 1) := by decide +kernel
theorem dX10_check_184 : decode cX10_check 184 = .ok (.getfield 125, 3) := by decide +kernel
theorem dX10_check_187 : decode cX10_check 187 = .ok (.goto 7, 3) := by decide +kernel
theorem dX10_check_190 : decode cX10_check 190 = .ok (.aload_n 0, 1) := by decide +kernel
theorem dX10_check_191 : decode cX10_check 191 = .ok (.getfield 65, 3) := by decide +kernel
theorem dX10_check_194 : decode cX10_check 194 = .ok (.ireturn, 1) := by decide +kernel
theorem dX10_place_0 : decode cX10_place 0 = .ok (.aload_n 0, 1) := by decide +kernel
theorem dX10_place_1 : decode cX10_place 1 = .ok (.getfield 35, 3) := by decide +kernel
theorem dX10_place_4 : decode cX10_place 4 = .ok (.ireturn, 1) := by decide +kernel
theorem dX10_code_0 : decode cX10_code 0 = .ok (.aload_n 0, 1) := by decide +kernel
theorem dX10_code_1 : decode cX10_code 1 = .ok (.getfield 58, 3) := by decide +kernel
theorem dX10_code_4 : decode cX10_code 4 = .ok (.ifCond .eq 26, 3) := by decide +kernel
theorem dX10_code_7 : decode cX10_code 7 = .ok (.iload_n 1, 1) := by decide +kernel
theorem dX10_code_8 : decode cX10_code 8 = .ok (.iconst 0, 1) := by decide +kernel
theorem dX10_code_9 : decode cX10_code 9 = .ok (.aload_n 0, 1) := by decide +kernel
theorem dX10_code_10 : decode cX10_code 10 = .ok (.getfield 125, 3) := by decide +kernel
theorem dX10_code_13 : decode cX10_code 13 = .ok (.iconst 1, 1) := by decide +kernel
theorem dX10_code_14 : decode cX10_code 14 = .ok (.isub, 1) := by decide +kernel
theorem dX10_code_15 : decode cX10_code 15 = .ok (.invokestatic 54, 3) := by decide +kernel
theorem dX10_code_18 : decode cX10_code 18 = .ok (.ifCond .eq 12, 3) := by decide +kernel
theorem dX10_code_21 : decode cX10_code 21 = .ok (.aload_n 0, 1) := by decide +kernel
theorem dX10_code_22 : decode cX10_code 22 = .ok (.getfield 32, 3) := by decide +kernel
theorem dX10_code_25 : decode cX10_code 25 = .ok (.iload_n 1, 1) := by decide +kernel
theorem dX10_code_26 : decode cX10_code 26 = .ok (.iaload, 1) := by decide +kernel
theorem dX10_code_27 : decode cX10_code 27 = .ok (.goto 4, 3) := by decide +kernel
theorem dX10_code_30 : decode cX10_code 30 = .ok (.iconst 0, 1) := by decide +kernel
theorem dX10_code_31 : decode cX10_code 31 = .ok (.ireturn, 1) := by decide +kernel
theorem dX10_set_0 : decode cX10_set 0 = .ok (.iload_n 1, 1) := by decide +kernel
theorem dX10_set_1 : decode cX10_set 1 = .ok (.iconst 0, 1) := by decide +kernel
theorem dX10_set_2 : decode cX10_set 2 = .ok (.bipush 9, 2) := by decide +kernel
theorem dX10_set_4 : decode cX10_set 4 = .ok (.invokestatic 54, 3) := by decide +kernel
theorem dX10_set_7 : decode cX10_set 7 = .ok (.ifCond .ne 6, 3) := by decide +kernel
theorem dX10_set_10 : decode cX10_set 10 = .ok (.bipush (-2), 2) := by decide +kernel
theorem dX10_set_12 : decode cX10_set 12 = .ok (.ireturn, 1) := by decide +kernel
theorem dX10_set_13 : decode cX10_set 13 = .ok (.aload_n 0, 1) := by decide +kernel
theorem dX10_set_14 : decode cX10_set 14 = .ok (.getfield 20, 3) := by decide +kernel
theorem dX10_set_17 : decode cX10_set 17 = .ok (.iload_n 1, 1) := by decide +kernel
theorem dX10_set_18 : decode cX10_set 18 = .ok (.iaload, 1) := by decide +kernel
theorem dX10_set_19 : decode cX10_set 19 = .ok (.istore_n 3, 1) := by decide +kernel
theorem dX10_set_20 : decode cX10_set 20 = .ok (.aload_n 0, 1) := by decide +kernel
theorem dX10_set_21 : decode cX10_set 21 = .ok (.getfield 20, 3) := by decide +kernel
theorem dX10_set_24 : decode cX10_set 24 = .ok (.iload_n 1, 1) := by decide +kernel
theorem dX10_set_25 : decode cX10_set 25 = .ok (.iload_n 2, 1) := by decide +kernel
theorem dX10_set_26 : decode cX10_set 26 = .ok (.iastore, 1) := by decide +kernel
theorem dX10_set_27 : decode cX10_set 27 = .ok (.iload_n 3, 1) := by decide +kernel
theorem dX10_set_28 : decode cX10_set 28 = .ok (.ireturn, 1) := by decide +kernel
theorem dX10_put_0 : decode cX10_put 0 = .ok (.iload_n 1, 1) := by decide +kernel
theorem dX10_put_1 : decode cX10_put 1 = .ok (.iconst 0, 1) := by decide +kernel
theorem dX10_put_2 : decode cX10_put 2 = .ok (.iconst 3, 1) := by decide +kernel
theorem dX10_put_3 : decode cX10_put 3 = .ok (.invokestatic 54, 3) := by decide +kernel
theorem dX10_put_6 : decode cX10_put 6 = .ok (.ifCond .eq 19, 3) := by decide +kernel
theorem dX10_put_9 : decode cX10_put 9 = .ok (.iload_n 2, 1) := by decide +kernel
theorem dX10_put_10 : decode cX10_put 10 = .ok (.iconst 0, 1) := by decide +kernel
theorem dX10_put_11 : decode cX10_put 11 = .ok (.aload_n 0, 1) := by decide +kernel
theorem dX10_put_12 : decode cX10_put 12 = .ok (.getfield 26, 3) := by decide +kernel
theorem dX10_put_15 : decode cX10_put 15 = .ok (.iload_n 1, 1) := by decide +kernel
theorem dX10_put_16 : decode cX10_put 16 = .ok (.iaload, 1) := by decide +kernel
theorem dX10_put_17 : decode cX10_put 17 = .ok (.iconst 1, 1) := by decide +kernel
theorem dX10_put_18 : decode cX10_put 18 = .ok (.isub, 1) := by decide +kernel
theorem dX10_put_19 : decode cX10_put 19 = .ok (.invokestatic 54, 3) := by decide +kernel
theorem dX10_put_22 : decode cX10_put 22 = .ok (.ifCond .ne 6, 3) := by decide +kernel
theorem dX10_put_25 : decode cX10_put 25 = .ok (.bipush (-2), 2) := by decide +kernel
theorem dX10_put_27 : decode cX10_put 27 = .ok (.ireturn, 1) := by decide +kernel
theorem dX10_put_28 : decode cX10_put 28 = .ok (.aload_n 0, 1) := by decide +kernel
theorem dX10_put_29 : decode cX10_put 29 = .ok (.getfield 23, 3) := by decide +kernel
theorem dX10_put_32 : decode cX10_put 32 = .ok (.bipush 16, 2) := by decide +kernel
theorem dX10_put_34 : decode cX10_put 34 = .ok (.iload_n 1, 1) := by decide +kernel
theorem dX10_put_35 : decode cX10_put 35 = .ok (.imul, 1) := by decide +kernel
theorem dX10_put_36 : decode cX10_put 36 = .ok (.iload_n 2, 1) := by decide +kernel
theorem dX10_put_37 : decode cX10_put 37 = .ok (.iadd, 1) := by decide +kernel
theorem dX10_put_38 : decode cX10_put 38 = .ok (.iaload, 1) := by decide +kernel
theorem dX10_put_39 : decode cX10_put 39 = .ok (.istore 4, 2) := by decide +kernel
theorem dX10_put_41 : decode cX10_put 41 = .ok (.aload_n 0, 1) := by decide +kernel
theorem dX10_put_42 : decode cX10_put 42 = .ok (.getfield 23, 3) := by decide +kernel
theorem dX10_put_45 : decode cX10_put 45 = .ok (.bipush 16, 2) := by decide +kernel
theorem dX10_put_47 : decode cX10_put 47 = .ok (.iload_n 1, 1) := by decide +kernel
theorem dX10_put_48 : decode cX10_put 48 = .ok (.imul, 1) := by decide +kernel
theorem dX10_put_49 : decode cX10_put 49 = .ok (.iload_n 2, 1) := by decide +kernel
theorem dX10_put_50 : decode cX10_put 50 = .ok (.iadd, 1) := by decide +kernel
theorem dX10_put_51 : decode cX10_put 51 = .ok (.iload_n 3, 1) := by decide +kernel
theorem dX10_put_52 : decode cX10_put 52 = .ok (.iastore, 1) := by decide +kernel
theorem dX10_put_53 : decode cX10_put 53 = .ok (.iload 4, 2) := by decide +kernel
theorem dX10_put_55 : decode cX10_put 55 = .ok (.ireturn, 1) := by decide +kernel
theorem dX10_get_0 : decode cX10_get 0 = .ok (.iload_n 1, 1) := by decide +kernel
theorem dX10_get_1 : decode cX10_get 1 = .ok (.iconst 0, 1) := by decide +kernel
theorem dX10_get_2 : decode cX10_get 2 = .ok (.bipush 9, 2) := by decide +kernel
theorem dX10_get_4 : decode cX10_get 4 = .ok (.invokestatic 54, 3) := by decide +kernel
theorem dX10_get_7 : decode cX10_get 7 = .ok (.ifCond .eq 12, 3) := by decide +kernel
theorem dX10_get_10 : decode cX10_get 10 = .ok (.aload_n 0, 1) := by decide +kernel
theorem dX10_get_11 : decode cX10_get 11 = .ok (.getfield 20, 3) := by decide +kernel
theorem dX10_get_14 : decode cX10_get 14 = .ok (.iload_n 1, 1) := by decide +kernel
theorem dX10_get_15 : decode cX10_get 15 = .ok (.iaload, 1) := by decide +kernel
theorem dX10_get_16 : decode cX10_get 16 = .ok (.goto 5, 3) := by decide +kernel
theorem dX10_get_19 : decode cX10_get 19 = .ok (.bipush (-2), 2) := by decide +kernel
theorem dX10_get_21 : decode cX10_get 21 = .ok (.ireturn, 1) := by decide +kernel
theorem dX10_at_0 : decode cX10_at 0 = .ok (.iload_n 1, 1) := by decide +kernel
theorem dX10_at_1 : decode cX10_at 1 = .ok (.iconst 0, 1) := by decide +kernel
theorem dX10_at_2 : decode cX10_at 2 = .ok (.iconst 3, 1) := by decide +kernel
theorem dX10_at_3 : decode cX10_at 3 = .ok (.invokestatic 54, 3) := by decide +kernel
theorem dX10_at_6 : decode cX10_at 6 = .ok (.ifCond .eq 33, 3) := by decide +kernel
theorem dX10_at_9 : decode cX10_at 9 = .ok (.iload_n 2, 1) := by decide +kernel
theorem dX10_at_10 : decode cX10_at 10 = .ok (.iconst 0, 1) := by decide +kernel
theorem dX10_at_11 : decode cX10_at 11 = .ok (.aload_n 0, 1) := by decide +kernel
theorem dX10_at_12 : decode cX10_at 12 = .ok (.getfield 26, 3) := by decide +kernel
theorem dX10_at_15 : decode cX10_at 15 = .ok (.iload_n 1, 1) := by decide +kernel
theorem dX10_at_16 : decode cX10_at 16 = .ok (.iaload, 1) := by decide +kernel
theorem dX10_at_17 : decode cX10_at 17 = .ok (.iconst 1, 1) := by decide +kernel
theorem dX10_at_18 : decode cX10_at 18 = .ok (.isub, 1) := by decide +kernel
theorem dX10_at_19 : decode cX10_at 19 = .ok (.invokestatic 54, 3) := by decide +kernel
theorem dX10_at_22 : decode cX10_at 22 = .ok (.ifCond .eq 17, 3) := by decide +kernel
theorem dX10_at_25 : decode cX10_at 25 = .ok (.aload_n 0, 1) := by decide +kernel
theorem dX10_at_26 : decode cX10_at 26 = .ok (.getfield 23, 3) := by decide +kernel
theorem dX10_at_29 : decode cX10_at 29 = .ok (.bipush 16, 2) := by decide +kernel
theorem dX10_at_31 : decode cX10_at 31 = .ok (.iload_n 1, 1) := by decide +kernel
theorem dX10_at_32 : decode cX10_at 32 = .ok (.imul, 1) := by decide +kernel
theorem dX10_at_33 : decode cX10_at 33 = .ok (.iload_n 2, 1) := by decide +kernel
theorem dX10_at_34 : decode cX10_at 34 = .ok (.iadd, 1) := by decide +kernel
theorem dX10_at_35 : decode cX10_at 35 = .ok (.iaload, 1) := by decide +kernel
theorem dX10_at_36 : decode cX10_at 36 = .ok (.goto 5, 3) := by decide +kernel
theorem dX10_at_39 : decode cX10_at 39 = .ok (.bipush (-2), 2) := by decide +kernel
theorem dX10_at_41 : decode cX10_at 41 = .ok (.ireturn, 1) := by decide +kernel
theorem dX10_placeOf_0 : decode cX10_placeOf 0 = .ok (.iload_n 2, 1) := by decide +kernel
theorem dX10_placeOf_1 : decode cX10_placeOf 1 = .ok (.i2l, 1) := by decide +kernel
theorem dX10_placeOf_2 : decode cX10_placeOf 2 = .ok (.ldc2_w 144, 3) := by decide +kernel
theorem dX10_placeOf_5 : decode cX10_placeOf 5 = .ok (.land, 1) := by decide +kernel
theorem dX10_placeOf_6 : decode cX10_placeOf 6 = .ok (.aload_n 0, 1) := by decide +kernel
theorem dX10_placeOf_7 : decode cX10_placeOf 7 = .ok (.getfield 26, 3) := by decide +kernel
theorem dX10_placeOf_10 : decode cX10_placeOf 10 = .ok (.iload_n 1, 1) := by decide +kernel
theorem dX10_placeOf_11 : decode cX10_placeOf 11 = .ok (.iaload, 1) := by decide +kernel
theorem dX10_placeOf_12 : decode cX10_placeOf 12 = .ok (.i2l, 1) := by decide +kernel
theorem dX10_placeOf_13 : decode cX10_placeOf 13 = .ok (.lrem, 1) := by decide +kernel
theorem dX10_placeOf_14 : decode cX10_placeOf 14 = .ok (.l2i, 1) := by decide +kernel
theorem dX10_placeOf_15 : decode cX10_placeOf 15 = .ok (.ireturn, 1) := by decide +kernel
theorem dX10_make_0 : decode cX10_make 0 = .ok (.iload_n 1, 1) := by decide +kernel
theorem dX10_make_1 : decode cX10_make 1 = .ok (.tableswitch 129 22 32 #[59, 63, 67, 71, 75, 79, 83, 90, 97, 108, 119], 59) := by decide +kernel
theorem dX10_make_60 : decode cX10_make 60 = .ok (.iload_n 2, 1) := by decide +kernel
theorem dX10_make_61 : decode cX10_make 61 = .ok (.iload_n 3, 1) := by decide +kernel
theorem dX10_make_62 : decode cX10_make 62 = .ok (.iadd, 1) := by decide +kernel
theorem dX10_make_63 : decode cX10_make 63 = .ok (.ireturn, 1) := by decide +kernel
