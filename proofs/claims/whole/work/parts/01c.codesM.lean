/-! decode rows of the reference -/
theorem dM_init_0 : decode cM_init 0 = .ok (.aload_n 0, 1) := by decide +kernel
theorem dM_init_1 : decode cM_init 1 = .ok (.invokespecial 1, 3) := by decide +kernel
theorem dM_init_4 : decode cM_init 4 = .ok (.aload_n 0, 1) := by decide +kernel
theorem dM_init_5 : decode cM_init 5 = .ok (.sipush 400, 3) := by decide +kernel
theorem dM_init_8 : decode cM_init 8 = .ok (.newarray .boolean, 2) := by decide +kernel
theorem dM_init_10 : decode cM_init 10 = .ok (.putfield 7, 3) := by decide +kernel
theorem dM_init_13 : decode cM_init 13 = .ok (.aload_n 0, 1) := by decide +kernel
theorem dM_init_14 : decode cM_init 14 = .ok (.sipush 400, 3) := by decide +kernel
theorem dM_init_17 : decode cM_init 17 = .ok (.newarray .int, 2) := by decide +kernel
theorem dM_init_19 : decode cM_init 19 = .ok (.putfield 13, 3) := by decide +kernel
theorem dM_init_22 : decode cM_init 22 = .ok (.aload_n 0, 1) := by decide +kernel
theorem dM_init_23 : decode cM_init 23 = .ok (.sipush 400, 3) := by decide +kernel
theorem dM_init_26 : decode cM_init 26 = .ok (.newarray .int, 2) := by decide +kernel
theorem dM_init_28 : decode cM_init 28 = .ok (.putfield 17, 3) := by decide +kernel
theorem dM_init_31 : decode cM_init 31 = .ok (.aload_n 0, 1) := by decide +kernel
theorem dM_init_32 : decode cM_init 32 = .ok (.sipush 400, 3) := by decide +kernel
theorem dM_init_35 : decode cM_init 35 = .ok (.newarray .int, 2) := by decide +kernel
theorem dM_init_37 : decode cM_init 37 = .ok (.putfield 20, 3) := by decide +kernel
theorem dM_init_40 : decode cM_init 40 = .ok (.aload_n 0, 1) := by decide +kernel
theorem dM_init_41 : decode cM_init 41 = .ok (.sipush 400, 3) := by decide +kernel
theorem dM_init_44 : decode cM_init 44 = .ok (.bipush 80, 2) := by decide +kernel
theorem dM_init_46 : decode cM_init 46 = .ok (.multianewarray 23 2, 4) := by decide +kernel
theorem dM_init_50 : decode cM_init 50 = .ok (.putfield 25, 3) := by decide +kernel
theorem dM_init_53 : decode cM_init 53 = .ok (.aload_n 0, 1) := by decide +kernel
theorem dM_init_54 : decode cM_init 54 = .ok (.sipush 400, 3) := by decide +kernel
theorem dM_init_57 : decode cM_init 57 = .ok (.newarray .boolean, 2) := by decide +kernel
theorem dM_init_59 : decode cM_init 59 = .ok (.putfield 28, 3) := by decide +kernel
theorem dM_init_62 : decode cM_init 62 = .ok (.aload_n 0, 1) := by decide +kernel
theorem dM_init_63 : decode cM_init 63 = .ok (.sipush 400, 3) := by decide +kernel
theorem dM_init_66 : decode cM_init 66 = .ok (.newarray .boolean, 2) := by decide +kernel
theorem dM_init_68 : decode cM_init 68 = .ok (.putfield 31, 3) := by decide +kernel
theorem dM_init_71 : decode cM_init 71 = .ok (.aload_n 0, 1) := by decide +kernel
theorem dM_init_72 : decode cM_init 72 = .ok (.sipush 400, 3) := by decide +kernel
theorem dM_init_75 : decode cM_init 75 = .ok (.newarray .boolean, 2) := by decide +kernel
theorem dM_init_77 : decode cM_init 77 = .ok (.putfield 34, 3) := by decide +kernel
theorem dM_init_80 : decode cM_init 80 = .ok (.aload_n 0, 1) := by decide +kernel
theorem dM_init_81 : decode cM_init 81 = .ok (.sipush 400, 3) := by decide +kernel
theorem dM_init_84 : decode cM_init 84 = .ok (.newarray .int, 2) := by decide +kernel
theorem dM_init_86 : decode cM_init 86 = .ok (.putfield 37, 3) := by decide +kernel
theorem dM_init_89 : decode cM_init 89 = .ok (.aload_n 0, 1) := by decide +kernel
theorem dM_init_90 : decode cM_init 90 = .ok (.sipush 400, 3) := by decide +kernel
theorem dM_init_93 : decode cM_init 93 = .ok (.sipush 400, 3) := by decide +kernel
theorem dM_init_96 : decode cM_init 96 = .ok (.multianewarray 40 2, 4) := by decide +kernel
theorem dM_init_100 : decode cM_init 100 = .ok (.putfield 42, 3) := by decide +kernel
theorem dM_init_103 : decode cM_init 103 = .ok (.aload_n 0, 1) := by decide +kernel
theorem dM_init_104 : decode cM_init 104 = .ok (.sipush 400, 3) := by decide +kernel
theorem dM_init_107 : decode cM_init 107 = .ok (.newarray .boolean, 2) := by decide +kernel
theorem dM_init_109 : decode cM_init 109 = .ok (.putfield 45, 3) := by decide +kernel
theorem dM_init_112 : decode cM_init 112 = .ok (.aload_n 0, 1) := by decide +kernel
theorem dM_init_113 : decode cM_init 113 = .ok (.sipush 400, 3) := by decide +kernel
theorem dM_init_116 : decode cM_init 116 = .ok (.newarray .int, 2) := by decide +kernel
theorem dM_init_118 : decode cM_init 118 = .ok (.putfield 48, 3) := by decide +kernel
theorem dM_init_121 : decode cM_init 121 = .ok (.return_, 1) := by decide +kernel
theorem dM_thrown_0 : decode cM_thrown 0 = .ok (.aload_n 0, 1) := by decide +kernel
theorem dM_thrown_1 : decode cM_thrown 1 = .ok (.getfield 51, 3) := by decide +kernel
theorem dM_thrown_4 : decode cM_thrown 4 = .ok (.ireturn, 1) := by decide +kernel
theorem dM_fail_0 : decode cM_fail 0 = .ok (.aload_n 0, 1) := by decide +kernel
theorem dM_fail_1 : decode cM_fail 1 = .ok (.iload_n 1, 1) := by decide +kernel
theorem dM_fail_2 : decode cM_fail 2 = .ok (.putfield 51, 3) := by decide +kernel
theorem dM_fail_5 : decode cM_fail 5 = .ok (.iconst 0, 1) := by decide +kernel
theorem dM_fail_6 : decode cM_fail 6 = .ok (.ireturn, 1) := by decide +kernel
theorem dM_out4_0 : decode cM_out4 0 = .ok (.iload_n 1, 1) := by decide +kernel
theorem dM_out4_1 : decode cM_out4 1 = .ok (.ifCond .lt 47, 3) := by decide +kernel
theorem dM_out4_4 : decode cM_out4 4 = .ok (.iload_n 2, 1) := by decide +kernel
theorem dM_out4_5 : decode cM_out4 5 = .ok (.ifCond .lt 43, 3) := by decide +kernel
theorem dM_out4_8 : decode cM_out4 8 = .ok (.iload_n 1, 1) := by decide +kernel
theorem dM_out4_9 : decode cM_out4 9 = .ok (.bipush 19, 2) := by decide +kernel
theorem dM_out4_11 : decode cM_out4 11 = .ok (.if_icmp .gt 37, 3) := by decide +kernel
theorem dM_out4_14 : decode cM_out4 14 = .ok (.iload_n 2, 1) := by decide +kernel
theorem dM_out4_15 : decode cM_out4 15 = .ok (.bipush 19, 2) := by decide +kernel
theorem dM_out4_17 : decode cM_out4 17 = .ok (.if_icmp .gt 31, 3) := by decide +kernel
theorem dM_out4_20 : decode cM_out4 20 = .ok (.iload_n 3, 1) := by decide +kernel
theorem dM_out4_21 : decode cM_out4 21 = .ok (.iconst 1, 1) := by decide +kernel
theorem dM_out4_22 : decode cM_out4 22 = .ok (.if_icmp .lt 26, 3) := by decide +kernel
theorem dM_out4_25 : decode cM_out4 25 = .ok (.iload 4, 2) := by decide +kernel
theorem dM_out4_27 : decode cM_out4 27 = .ok (.iconst 1, 1) := by decide +kernel
theorem dM_out4_28 : decode cM_out4 28 = .ok (.if_icmp .lt 20, 3) := by decide +kernel
theorem dM_out4_31 : decode cM_out4 31 = .ok (.iload_n 3, 1) := by decide +kernel
theorem dM_out4_32 : decode cM_out4 32 = .ok (.bipush 20, 2) := by decide +kernel
theorem dM_out4_34 : decode cM_out4 34 = .ok (.iload_n 1, 1) := by decide +kernel
theorem dM_out4_35 : decode cM_out4 35 = .ok (.isub, 1) := by decide +kernel
theorem dM_out4_36 : decode cM_out4 36 = .ok (.if_icmp .gt 12, 3) := by decide +kernel
theorem dM_out4_39 : decode cM_out4 39 = .ok (.iload 4, 2) := by decide +kernel
theorem dM_out4_41 : decode cM_out4 41 = .ok (.bipush 20, 2) := by decide +kernel
theorem dM_out4_43 : decode cM_out4 43 = .ok (.iload_n 2, 1) := by decide +kernel
theorem dM_out4_44 : decode cM_out4 44 = .ok (.isub, 1) := by decide +kernel
theorem dM_out4_45 : decode cM_out4 45 = .ok (.if_icmp .le 7, 3) := by decide +kernel
theorem dM_out4_48 : decode cM_out4 48 = .ok (.iconst 1, 1) := by decide +kernel
theorem dM_out4_49 : decode cM_out4 49 = .ok (.goto 4, 3) := by decide +kernel
theorem dM_out4_52 : decode cM_out4 52 = .ok (.iconst 0, 1) := by decide +kernel
theorem dM_out4_53 : decode cM_out4 53 = .ok (.ireturn, 1) := by decide +kernel
theorem dM_owner1_0 : decode cM_owner1 0 = .ok (.iload_n 1, 1) := by decide +kernel
theorem dM_owner1_1 : decode cM_owner1 1 = .ok (.bipush 20, 2) := by decide +kernel
theorem dM_owner1_3 : decode cM_owner1 3 = .ok (.idiv, 1) := by decide +kernel
theorem dM_owner1_4 : decode cM_owner1 4 = .ok (.istore_n 2, 1) := by decide +kernel
theorem dM_owner1_5 : decode cM_owner1 5 = .ok (.iload_n 1, 1) := by decide +kernel
theorem dM_owner1_6 : decode cM_owner1 6 = .ok (.bipush 20, 2) := by decide +kernel
theorem dM_owner1_8 : decode cM_owner1 8 = .ok (.irem, 1) := by decide +kernel
theorem dM_owner1_9 : decode cM_owner1 9 = .ok (.istore_n 3, 1) := by decide +kernel
theorem dM_owner1_10 : decode cM_owner1 10 = .ok (.iconst 0, 1) := by decide +kernel
theorem dM_owner1_11 : decode cM_owner1 11 = .ok (.istore 4, 2) := by decide +kernel
theorem dM_owner1_13 : decode cM_owner1 13 = .ok (.iload 4, 2) := by decide +kernel
theorem dM_owner1_15 : decode cM_owner1 15 = .ok (.sipush 400, 3) := by decide +kernel
theorem dM_owner1_18 : decode cM_owner1 18 = .ok (.if_icmp .ge 74, 3) := by decide +kernel
theorem dM_owner1_21 : decode cM_owner1 21 = .ok (.aload_n 0, 1) := by decide +kernel
theorem dM_owner1_22 : decode cM_owner1 22 = .ok (.getfield 7, 3) := by decide +kernel
theorem dM_owner1_25 : decode cM_owner1 25 = .ok (.iload 4, 2) := by decide +kernel
theorem dM_owner1_27 : decode cM_owner1 27 = .ok (.baload, 1) := by decide +kernel
theorem dM_owner1_28 : decode cM_owner1 28 = .ok (.ifCond .eq 58, 3) := by decide +kernel
theorem dM_owner1_31 : decode cM_owner1 31 = .ok (.iload_n 2, 1) := by decide +kernel
theorem dM_owner1_32 : decode cM_owner1 32 = .ok (.iload 4, 2) := by decide +kernel
theorem dM_owner1_34 : decode cM_owner1 34 = .ok (.bipush 20, 2) := by decide +kernel
theorem dM_owner1_36 : decode cM_owner1 36 = .ok (.idiv, 1) := by decide +kernel
theorem dM_owner1_37 : decode cM_owner1 37 = .ok (.if_icmp .lt 49, 3) := by decide +kernel
theorem dM_owner1_40 : decode cM_owner1 40 = .ok (.iload_n 2, 1) := by decide +kernel
theorem dM_owner1_41 : decode cM_owner1 41 = .ok (.iload 4, 2) := by decide +kernel
theorem dM_owner1_43 : decode cM_owner1 43 = .ok (.bipush 20, 2) := by decide +kernel
theorem dM_owner1_45 : decode cM_owner1 45 = .ok (.idiv, 1) := by decide +kernel
theorem dM_owner1_46 : decode cM_owner1 46 = .ok (.aload_n 0, 1) := by decide +kernel
theorem dM_owner1_47 : decode cM_owner1 47 = .ok (.getfield 13, 3) := by decide +kernel
theorem dM_owner1_50 : decode cM_owner1 50 = .ok (.iload 4, 2) := by decide +kernel
theorem dM_owner1_52 : decode cM_owner1 52 = .ok (.iaload, 1) := by decide +kernel
theorem dM_owner1_53 : decode cM_owner1 53 = .ok (.iadd, 1) := by decide +kernel
theorem dM_owner1_54 : decode cM_owner1 54 = .ok (.if_icmp .ge 32, 3) := by decide +kernel
theorem dM_owner1_57 : decode cM_owner1 57 = .ok (.iload_n 3, 1) := by decide +kernel
theorem dM_owner1_58 : decode cM_owner1 58 = .ok (.iload 4, 2) := by decide +kernel
theorem dM_owner1_60 : decode cM_owner1 60 = .ok (.bipush 20, 2) := by decide +kernel
theorem dM_owner1_62 : decode cM_owner1 62 = .ok (.irem, 1) := by decide +kernel
theorem dM_owner1_63 : decode cM_owner1 63 = .ok (.if_icmp .lt 23, 3) := by decide +kernel
theorem dM_owner1_66 : decode cM_owner1 66 = .ok (.iload_n 3, 1) := by decide +kernel
theorem dM_owner1_67 : decode cM_owner1 67 = .ok (.iload 4, 2) := by decide +kernel
theorem dM_owner1_69 : decode cM_owner1 69 = .ok (.bipush 20, 2) := by decide +kernel
theorem dM_owner1_71 : decode cM_owner1 71 = .ok (.irem, 1) := by decide +kernel
theorem dM_owner1_72 : decode cM_owner1 72 = .ok (.aload_n 0, 1) := by decide +kernel
theorem dM_owner1_73 : decode cM_owner1 73 = .ok (.getfield 17, 3) := by decide +kernel
theorem dM_owner1_76 : decode cM_owner1 76 = .ok (.iload 4, 2) := by decide +kernel
theorem dM_owner1_78 : decode cM_owner1 78 = .ok (.iaload, 1) := by decide +kernel
theorem dM_owner1_79 : decode cM_owner1 79 = .ok (.iadd, 1) := by decide +kernel
theorem dM_owner1_80 : decode cM_owner1 80 = .ok (.if_icmp .ge 6, 3) := by decide +kernel
theorem dM_owner1_83 : decode cM_owner1 83 = .ok (.iload 4, 2) := by decide +kernel
theorem dM_owner1_85 : decode cM_owner1 85 = .ok (.ireturn, 1) := by decide +kernel
theorem dM_owner1_86 : decode cM_owner1 86 = .ok (.iinc 4 1, 3) := by decide +kernel
theorem dM_owner1_89 : decode cM_owner1 89 = .ok (.goto (-76), 3) := by decide +kernel
theorem dM_owner1_92 : decode cM_owner1 92 = .ok (.iconst (-1), 1) := by decide +kernel
theorem dM_owner1_93 : decode cM_owner1 93 = .ok (.ireturn, 1) := by decide +kernel
theorem dM_count_0 : decode cM_count 0 = .ok (.iconst 0, 1) := by decide +kernel
theorem dM_count_1 : decode cM_count 1 = .ok (.istore_n 1, 1) := by decide +kernel
theorem dM_count_2 : decode cM_count 2 = .ok (.iconst 0, 1) := by decide +kernel
theorem dM_count_3 : decode cM_count 3 = .ok (.istore_n 2, 1) := by decide +kernel
theorem dM_count_4 : decode cM_count 4 = .ok (.iload_n 2, 1) := by decide +kernel
theorem dM_count_5 : decode cM_count 5 = .ok (.sipush 400, 3) := by decide +kernel
theorem dM_count_8 : decode cM_count 8 = .ok (.if_icmp .ge 26, 3) := by decide +kernel
theorem dM_count_11 : decode cM_count 11 = .ok (.iload_n 1, 1) := by decide +kernel
theorem dM_count_12 : decode cM_count 12 = .ok (.aload_n 0, 1) := by decide +kernel
theorem dM_count_13 : decode cM_count 13 = .ok (.getfield 7, 3) := by decide +kernel
theorem dM_count_16 : decode cM_count 16 = .ok (.iload_n 2, 1) := by decide +kernel
theorem dM_count_17 : decode cM_count 17 = .ok (.baload, 1) := by decide +kernel
theorem dM_count_18 : decode cM_count 18 = .ok (.ifCond .eq 7, 3) := by decide +kernel
theorem dM_count_21 : decode cM_count 21 = .ok (.iconst 1, 1) := by decide +kernel
theorem dM_count_22 : decode cM_count 22 = .ok (.goto 4, 3) := by decide +kernel
theorem dM_count_25 : decode cM_count 25 = .ok (.iconst 0, 1) := by decide +kernel
theorem dM_count_26 : decode cM_count 26 = .ok (.iadd, 1) := by decide +kernel
theorem dM_count_27 : decode cM_count 27 = .ok (.istore_n 1, 1) := by decide +kernel
theorem dM_count_28 : decode cM_count 28 = .ok (.iinc 2 1, 3) := by decide +kernel
theorem dM_count_31 : decode cM_count 31 = .ok (.goto (-27), 3) := by decide +kernel
theorem dM_count_34 : decode cM_count 34 = .ok (.iload_n 1, 1) := by decide +kernel
theorem dM_count_35 : decode cM_count 35 = .ok (.ireturn, 1) := by decide +kernel
theorem dM_forget_0 : decode cM_forget 0 = .ok (.aload_n 0, 1) := by decide +kernel
theorem dM_forget_1 : decode cM_forget 1 = .ok (.getfield 31, 3) := by decide +kernel
theorem dM_forget_4 : decode cM_forget 4 = .ok (.iload_n 1, 1) := by decide +kernel
theorem dM_forget_5 : decode cM_forget 5 = .ok (.iconst 0, 1) := by decide +kernel
theorem dM_forget_6 : decode cM_forget 6 = .ok (.bastore, 1) := by decide +kernel
theorem dM_forget_7 : decode cM_forget 7 = .ok (.aload_n 0, 1) := by decide +kernel
theorem dM_forget_8 : decode cM_forget 8 = .ok (.getfield 34, 3) := by decide +kernel
theorem dM_forget_11 : decode cM_forget 11 = .ok (.iload_n 1, 1) := by decide +kernel
theorem dM_forget_12 : decode cM_forget 12 = .ok (.iconst 0, 1) := by decide +kernel
theorem dM_forget_13 : decode cM_forget 13 = .ok (.bastore, 1) := by decide +kernel
theorem dM_forget_14 : decode cM_forget 14 = .ok (.aload_n 0, 1) := by decide +kernel
theorem dM_forget_15 : decode cM_forget 15 = .ok (.getfield 37, 3) := by decide +kernel
theorem dM_forget_18 : decode cM_forget 18 = .ok (.iload_n 1, 1) := by decide +kernel
theorem dM_forget_19 : decode cM_forget 19 = .ok (.iconst 0, 1) := by decide +kernel
theorem dM_forget_20 : decode cM_forget 20 = .ok (.iastore, 1) := by decide +kernel
theorem dM_forget_21 : decode cM_forget 21 = .ok (.return_, 1) := by decide +kernel
theorem dM_put_0 : decode cM_put 0 = .ok (.aload_n 0, 1) := by decide +kernel
theorem dM_put_1 : decode cM_put 1 = .ok (.iconst 0, 1) := by decide +kernel
theorem dM_put_2 : decode cM_put 2 = .ok (.putfield 51, 3) := by decide +kernel
theorem dM_put_5 : decode cM_put 5 = .ok (.aload_n 0, 1) := by decide +kernel
theorem dM_put_6 : decode cM_put 6 = .ok (.iload_n 1, 1) := by decide +kernel
theorem dM_put_7 : decode cM_put 7 = .ok (.iload_n 2, 1) := by decide +kernel
theorem dM_put_8 : decode cM_put 8 = .ok (.iload_n 3, 1) := by decide +kernel
theorem dM_put_9 : decode cM_put 9 = .ok (.iload 4, 2) := by decide +kernel
theorem dM_put_11 : decode cM_put 11 = .ok (.invokevirtual 55, 3) := by decide +kernel
theorem dM_put_14 : decode cM_put 14 = .ok (.ifCond .eq 9, 3) := by decide +kernel
theorem dM_put_17 : decode cM_put 17 = .ok (.aload_n 0, 1) := by decide +kernel
theorem dM_put_18 : decode cM_put 18 = .ok (.iconst 1, 1) := by decide +kernel
theorem dM_put_19 : decode cM_put 19 = .ok (.invokevirtual 59, 3) := by decide +kernel
theorem dM_put_22 : decode cM_put 22 = .ok (.ireturn, 1) := by decide +kernel
theorem dM_put_23 : decode cM_put 23 = .ok (.iload_n 1, 1) := by decide +kernel
theorem dM_put_24 : decode cM_put 24 = .ok (.istore 5, 2) := by decide +kernel
theorem dM_put_26 : decode cM_put 26 = .ok (.iload 5, 2) := by decide +kernel
theorem dM_put_28 : decode cM_put 28 = .ok (.iload_n 1, 1) := by decide +kernel
theorem dM_put_29 : decode cM_put 29 = .ok (.iload_n 3, 1) := by decide +kernel
theorem dM_put_30 : decode cM_put 30 = .ok (.iadd, 1) := by decide +kernel
theorem dM_put_31 : decode cM_put 31 = .ok (.if_icmp .ge 48, 3) := by decide +kernel
theorem dM_put_34 : decode cM_put 34 = .ok (.iload_n 2, 1) := by decide +kernel
theorem dM_put_35 : decode cM_put 35 = .ok (.istore 6, 2) := by decide +kernel
theorem dM_put_37 : decode cM_put 37 = .ok (.iload 6, 2) := by decide +kernel
theorem dM_put_39 : decode cM_put 39 = .ok (.iload_n 2, 1) := by decide +kernel
theorem dM_put_40 : decode cM_put 40 = .ok (.iload 4, 2) := by decide +kernel
theorem dM_put_42 : decode cM_put 42 = .ok (.iadd, 1) := by decide +kernel
theorem dM_put_43 : decode cM_put 43 = .ok (.if_icmp .ge 30, 3) := by decide +kernel
theorem dM_put_46 : decode cM_put 46 = .ok (.aload_n 0, 1) := by decide +kernel
theorem dM_put_47 : decode cM_put 47 = .ok (.bipush 20, 2) := by decide +kernel
theorem dM_put_49 : decode cM_put 49 = .ok (.iload 5, 2) := by decide +kernel
theorem dM_put_51 : decode cM_put 51 = .ok (.imul, 1) := by decide +kernel
theorem dM_put_52 : decode cM_put 52 = .ok (.iload 6, 2) := by decide +kernel
theorem dM_put_54 : decode cM_put 54 = .ok (.iadd, 1) := by decide +kernel
theorem dM_put_55 : decode cM_put 55 = .ok (.invokevirtual 63, 3) := by decide +kernel
theorem dM_put_58 : decode cM_put 58 = .ok (.ifCond .lt 9, 3) := by decide +kernel
theorem dM_put_61 : decode cM_put 61 = .ok (.aload_n 0, 1) := by decide +kernel
theorem dM_put_62 : decode cM_put 62 = .ok (.iconst 2, 1) := by decide +kernel
theorem dM_put_63 : decode cM_put 63 = .ok (.invokevirtual 59, 3) := by decide +kernel
theorem dM_put_66 : decode cM_put 66 = .ok (.ireturn, 1) := by decide +kernel
theorem dM_put_67 : decode cM_put 67 = .ok (.iinc 6 1, 3) := by decide +kernel
theorem dM_put_70 : decode cM_put 70 = .ok (.goto (-33), 3) := by decide +kernel
theorem dM_put_73 : decode cM_put 73 = .ok (.iinc 5 1, 3) := by decide +kernel
theorem dM_put_76 : decode cM_put 76 = .ok (.goto (-50), 3) := by decide +kernel
theorem dM_put_79 : decode cM_put 79 = .ok (.bipush 20, 2) := by decide +kernel
theorem dM_put_81 : decode cM_put 81 = .ok (.iload_n 1, 1) := by decide +kernel
theorem dM_put_82 : decode cM_put 82 = .ok (.imul, 1) := by decide +kernel
theorem dM_put_83 : decode cM_put 83 = .ok (.iload_n 2, 1) := by decide +kernel
theorem dM_put_84 : decode cM_put 84 = .ok (.iadd, 1) := by decide +kernel
theorem dM_put_85 : decode cM_put 85 = .ok (.istore 5, 2) := by decide +kernel
theorem dM_put_87 : decode cM_put 87 = .ok (.aload_n 0, 1) := by decide +kernel
theorem dM_put_88 : decode cM_put 88 = .ok (.getfield 7, 3) := by decide +kernel
theorem dM_put_91 : decode cM_put 91 = .ok (.iload 5, 2) := by decide +kernel
theorem dM_put_93 : decode cM_put 93 = .ok (.iconst 1, 1) := by decide +kernel
theorem dM_put_94 : decode cM_put 94 = .ok (.bastore, 1) := by decide +kernel
theorem dM_put_95 : decode cM_put 95 = .ok (.aload_n 0, 1) := by decide +kernel
theorem dM_put_96 : decode cM_put 96 = .ok (.getfield 13, 3) := by decide +kernel
theorem dM_put_99 : decode cM_put 99 = .ok (.iload 5, 2) := by decide +kernel
theorem dM_put_101 : decode cM_put 101 = .ok (.iload_n 3, 1) := by decide +kernel
theorem dM_put_102 : decode cM_put 102 = .ok (.iastore, 1) := by decide +kernel
theorem dM_put_103 : decode cM_put 103 = .ok (.aload_n 0, 1) := by decide +kernel
theorem dM_put_104 : decode cM_put 104 = .ok (.getfield 17, 3) := by decide +kernel
theorem dM_put_107 : decode cM_put 107 = .ok (.iload 5, 2) := by decide +kernel
theorem dM_put_109 : decode cM_put 109 = .ok (.iload 4, 2) := by decide +kernel
theorem dM_put_111 : decode cM_put 111 = .ok (.iastore, 1) := by decide +kernel
theorem dM_put_112 : decode cM_put 112 = .ok (.aload_n 0, 1) := by decide +kernel
theorem dM_put_113 : decode cM_put 113 = .ok (.getfield 20, 3) := by decide +kernel
theorem dM_put_116 : decode cM_put 116 = .ok (.iload 5, 2) := by decide +kernel
theorem dM_put_118 : decode cM_put 118 = .ok (.iconst 0, 1) := by decide +kernel
theorem dM_put_119 : decode cM_put 119 = .ok (.iastore, 1) := by decide +kernel
theorem dM_put_120 : decode cM_put 120 = .ok (.aload_n 0, 1) := by decide +kernel
theorem dM_put_121 : decode cM_put 121 = .ok (.iload 5, 2) := by decide +kernel
theorem dM_put_123 : decode cM_put 123 = .ok (.invokevirtual 66, 3) := by decide +kernel
theorem dM_put_126 : decode cM_put 126 = .ok (.aload_n 0, 1) := by decide +kernel
theorem dM_put_127 : decode cM_put 127 = .ok (.invokevirtual 70, 3) := by decide +kernel
theorem dM_put_130 : decode cM_put 130 = .ok (.ireturn, 1) := by decide +kernel
theorem dM_out2_0 : decode cM_out2 0 = .ok (.aload_n 0, 1) := by decide +kernel
theorem dM_out2_1 : decode cM_out2 1 = .ok (.iconst 0, 1) := by decide +kernel
theorem dM_out2_2 : decode cM_out2 2 = .ok (.putfield 51, 3) := by decide +kernel
theorem dM_out2_5 : decode cM_out2 5 = .ok (.aload_n 0, 1) := by decide +kernel
theorem dM_out2_6 : decode cM_out2 6 = .ok (.iload_n 1, 1) := by decide +kernel
theorem dM_out2_7 : decode cM_out2 7 = .ok (.iload_n 2, 1) := by decide +kernel
theorem dM_out2_8 : decode cM_out2 8 = .ok (.iconst 1, 1) := by decide +kernel
theorem dM_out2_9 : decode cM_out2 9 = .ok (.iconst 1, 1) := by decide +kernel
theorem dM_out2_10 : decode cM_out2 10 = .ok (.invokevirtual 55, 3) := by decide +kernel
theorem dM_out2_13 : decode cM_out2 13 = .ok (.ifCond .eq 9, 3) := by decide +kernel
theorem dM_out2_16 : decode cM_out2 16 = .ok (.aload_n 0, 1) := by decide +kernel
theorem dM_out2_17 : decode cM_out2 17 = .ok (.iconst 1, 1) := by decide +kernel
theorem dM_out2_18 : decode cM_out2 18 = .ok (.invokevirtual 59, 3) := by decide +kernel
theorem dM_out2_21 : decode cM_out2 21 = .ok (.ireturn, 1) := by decide +kernel
theorem dM_out2_22 : decode cM_out2 22 = .ok (.aload_n 0, 1) := by decide +kernel
theorem dM_out2_23 : decode cM_out2 23 = .ok (.getfield 7, 3) := by decide +kernel
theorem dM_out2_26 : decode cM_out2 26 = .ok (.bipush 20, 2) := by decide +kernel
theorem dM_out2_28 : decode cM_out2 28 = .ok (.iload_n 1, 1) := by decide +kernel
theorem dM_out2_29 : decode cM_out2 29 = .ok (.imul, 1) := by decide +kernel
theorem dM_out2_30 : decode cM_out2 30 = .ok (.iload_n 2, 1) := by decide +kernel
theorem dM_out2_31 : decode cM_out2 31 = .ok (.iadd, 1) := by decide +kernel
theorem dM_out2_32 : decode cM_out2 32 = .ok (.baload, 1) := by decide +kernel
theorem dM_out2_33 : decode cM_out2 33 = .ok (.ifCond .ne 9, 3) := by decide +kernel
theorem dM_out2_36 : decode cM_out2 36 = .ok (.aload_n 0, 1) := by decide +kernel
theorem dM_out2_37 : decode cM_out2 37 = .ok (.iconst 2, 1) := by decide +kernel
theorem dM_out2_38 : decode cM_out2 38 = .ok (.invokevirtual 59, 3) := by decide +kernel
theorem dM_out2_41 : decode cM_out2 41 = .ok (.ireturn, 1) := by decide +kernel
theorem dM_out2_42 : decode cM_out2 42 = .ok (.aload_n 0, 1) := by decide +kernel
theorem dM_out2_43 : decode cM_out2 43 = .ok (.getfield 7, 3) := by decide +kernel
theorem dM_out2_46 : decode cM_out2 46 = .ok (.bipush 20, 2) := by decide +kernel
theorem dM_out2_48 : decode cM_out2 48 = .ok (.iload_n 1, 1) := by decide +kernel
theorem dM_out2_49 : decode cM_out2 49 = .ok (.imul, 1) := by decide +kernel
theorem dM_out2_50 : decode cM_out2 50 = .ok (.iload_n 2, 1) := by decide +kernel
theorem dM_out2_51 : decode cM_out2 51 = .ok (.iadd, 1) := by decide +kernel
theorem dM_out2_52 : decode cM_out2 52 = .ok (.iconst 0, 1) := by decide +kernel
theorem dM_out2_53 : decode cM_out2 53 = .ok (.bastore, 1) := by decide +kernel
theorem dM_out2_54 : decode cM_out2 54 = .ok (.aload_n 0, 1) := by decide +kernel
theorem dM_out2_55 : decode cM_out2 55 = .ok (.invokevirtual 70, 3) := by decide +kernel
theorem dM_out2_58 : decode cM_out2 58 = .ok (.ireturn, 1) := by decide +kernel
theorem dM_speak_0 : decode cM_speak 0 = .ok (.aload_n 0, 1) := by decide +kernel
theorem dM_speak_1 : decode cM_speak 1 = .ok (.iconst 0, 1) := by decide +kernel
theorem dM_speak_2 : decode cM_speak 2 = .ok (.putfield 51, 3) := by decide +kernel
theorem dM_speak_5 : decode cM_speak 5 = .ok (.aload_n 0, 1) := by decide +kernel
theorem dM_speak_6 : decode cM_speak 6 = .ok (.iload_n 1, 1) := by decide +kernel
theorem dM_speak_7 : decode cM_speak 7 = .ok (.iload_n 2, 1) := by decide +kernel
theorem dM_speak_8 : decode cM_speak 8 = .ok (.iconst 1, 1) := by decide +kernel
theorem dM_speak_9 : decode cM_speak 9 = .ok (.iconst 1, 1) := by decide +kernel
theorem dM_speak_10 : decode cM_speak 10 = .ok (.invokevirtual 55, 3) := by decide +kernel
theorem dM_speak_13 : decode cM_speak 13 = .ok (.ifCond .ne 41, 3) := by decide +kernel
theorem dM_speak_16 : decode cM_speak 16 = .ok (.aload_n 0, 1) := by decide +kernel
theorem dM_speak_17 : decode cM_speak 17 = .ok (.iload_n 3, 1) := by decide +kernel
theorem dM_speak_18 : decode cM_speak 18 = .ok (.iload 4, 2) := by decide +kernel
theorem dM_speak_20 : decode cM_speak 20 = .ok (.iconst 1, 1) := by decide +kernel
theorem dM_speak_21 : decode cM_speak 21 = .ok (.iconst 1, 1) := by decide +kernel
theorem dM_speak_22 : decode cM_speak 22 = .ok (.invokevirtual 55, 3) := by decide +kernel
theorem dM_speak_25 : decode cM_speak 25 = .ok (.ifCond .ne 29, 3) := by decide +kernel
theorem dM_speak_28 : decode cM_speak 28 = .ok (.aload_n 0, 1) := by decide +kernel
theorem dM_speak_29 : decode cM_speak 29 = .ok (.iload 5, 2) := by decide +kernel
theorem dM_speak_31 : decode cM_speak 31 = .ok (.iload 6, 2) := by decide +kernel
theorem dM_speak_33 : decode cM_speak 33 = .ok (.iconst 1, 1) := by decide +kernel
theorem dM_speak_34 : decode cM_speak 34 = .ok (.iconst 1, 1) := by decide +kernel
theorem dM_speak_35 : decode cM_speak 35 = .ok (.invokevirtual 55, 3) := by decide +kernel
theorem dM_speak_38 : decode cM_speak 38 = .ok (.ifCond .ne 16, 3) := by decide +kernel
theorem dM_speak_41 : decode cM_speak 41 = .ok (.iload 5, 2) := by decide +kernel
theorem dM_speak_43 : decode cM_speak 43 = .ok (.iload_n 3, 1) := by decide +kernel
theorem dM_speak_44 : decode cM_speak 44 = .ok (.if_icmp .lt 10, 3) := by decide +kernel
theorem dM_speak_47 : decode cM_speak 47 = .ok (.iload 6, 2) := by decide +kernel
theorem dM_speak_49 : decode cM_speak 49 = .ok (.iload 4, 2) := by decide +kernel
theorem dM_speak_51 : decode cM_speak 51 = .ok (.if_icmp .ge 9, 3) := by decide +kernel
theorem dM_speak_54 : decode cM_speak 54 = .ok (.aload_n 0, 1) := by decide +kernel
theorem dM_speak_55 : decode cM_speak 55 = .ok (.iconst 1, 1) := by decide +kernel
theorem dM_speak_56 : decode cM_speak 56 = .ok (.invokevirtual 59, 3) := by decide +kernel
theorem dM_speak_59 : decode cM_speak 59 = .ok (.ireturn, 1) := by decide +kernel
theorem dM_speak_60 : decode cM_speak 60 = .ok (.bipush 20, 2) := by decide +kernel
theorem dM_speak_62 : decode cM_speak 62 = .ok (.iload_n 1, 1) := by decide +kernel
theorem dM_speak_63 : decode cM_speak 63 = .ok (.imul, 1) := by decide +kernel
theorem dM_speak_64 : decode cM_speak 64 = .ok (.iload_n 2, 1) := by decide +kernel
theorem dM_speak_65 : decode cM_speak 65 = .ok (.iadd, 1) := by decide +kernel
theorem dM_speak_66 : decode cM_speak 66 = .ok (.istore 7, 2) := by decide +kernel
theorem dM_speak_68 : decode cM_speak 68 = .ok (.aload_n 0, 1) := by decide +kernel
theorem dM_speak_69 : decode cM_speak 69 = .ok (.getfield 7, 3) := by decide +kernel
theorem dM_speak_72 : decode cM_speak 72 = .ok (.iload 7, 2) := by decide +kernel
theorem dM_speak_74 : decode cM_speak 74 = .ok (.baload, 1) := by decide +kernel
theorem dM_speak_75 : decode cM_speak 75 = .ok (.ifCond .ne 9, 3) := by decide +kernel
theorem dM_speak_78 : decode cM_speak 78 = .ok (.aload_n 0, 1) := by decide +kernel
theorem dM_speak_79 : decode cM_speak 79 = .ok (.iconst 2, 1) := by decide +kernel
theorem dM_speak_80 : decode cM_speak 80 = .ok (.invokevirtual 59, 3) := by decide +kernel
theorem dM_speak_83 : decode cM_speak 83 = .ok (.ireturn, 1) := by decide +kernel
theorem dM_speak_84 : decode cM_speak 84 = .ok (.aload_n 0, 1) := by decide +kernel
theorem dM_speak_85 : decode cM_speak 85 = .ok (.getfield 20, 3) := by decide +kernel
theorem dM_speak_88 : decode cM_speak 88 = .ok (.iload 7, 2) := by decide +kernel
theorem dM_speak_90 : decode cM_speak 90 = .ok (.iaload, 1) := by decide +kernel
theorem dM_speak_91 : decode cM_speak 91 = .ok (.bipush 20, 2) := by decide +kernel
theorem dM_speak_93 : decode cM_speak 93 = .ok (.if_icmp .ne 9, 3) := by decide +kernel
theorem dM_speak_96 : decode cM_speak 96 = .ok (.aload_n 0, 1) := by decide +kernel
theorem dM_speak_97 : decode cM_speak 97 = .ok (.iconst 3, 1) := by decide +kernel
theorem dM_speak_98 : decode cM_speak 98 = .ok (.invokevirtual 59, 3) := by decide +kernel
theorem dM_speak_101 : decode cM_speak 101 = .ok (.ireturn, 1) := by decide +kernel
theorem dM_speak_102 : decode cM_speak 102 = .ok (.aload_n 0, 1) := by decide +kernel
theorem dM_speak_103 : decode cM_speak 103 = .ok (.getfield 25, 3) := by decide +kernel
theorem dM_speak_106 : decode cM_speak 106 = .ok (.iload 7, 2) := by decide +kernel
theorem dM_speak_108 : decode cM_speak 108 = .ok (.aaload, 1) := by decide +kernel
theorem dM_speak_109 : decode cM_speak 109 = .ok (.iconst 4, 1) := by decide +kernel
theorem dM_speak_110 : decode cM_speak 110 = .ok (.aload_n 0, 1) := by decide +kernel
theorem dM_speak_111 : decode cM_speak 111 = .ok (.getfield 20, 3) := by decide +kernel
theorem dM_speak_114 : decode cM_speak 114 = .ok (.iload 7, 2) := by decide +kernel
theorem dM_speak_116 : decode cM_speak 116 = .ok (.iaload, 1) := by decide +kernel
theorem dM_speak_117 : decode cM_speak 117 = .ok (.imul, 1) := by decide +kernel
theorem dM_speak_118 : decode cM_speak 118 = .ok (.iload_n 3, 1) := by decide +kernel
theorem dM_speak_119 : decode cM_speak 119 = .ok (.iastore, 1) := by decide +kernel
theorem dM_speak_120 : decode cM_speak 120 = .ok (.aload_n 0, 1) := by decide +kernel
theorem dM_speak_121 : decode cM_speak 121 = .ok (.getfield 25, 3) := by decide +kernel
theorem dM_speak_124 : decode cM_speak 124 = .ok (.iload 7, 2) := by decide +kernel
theorem dM_speak_126 : decode cM_speak 126 = .ok (.aaload, 1) := by decide +kernel
theorem dM_speak_127 : decode cM_speak 127 = .ok (.iconst 4, 1) := by decide +kernel
theorem dM_speak_128 : decode cM_speak 128 = .ok (.aload_n 0, 1) := by decide +kernel
theorem dM_speak_129 : decode cM_speak 129 = .ok (.getfield 20, 3) := by decide +kernel
theorem dM_speak_132 : decode cM_speak 132 = .ok (.iload 7, 2) := by decide +kernel
theorem dM_speak_134 : decode cM_speak 134 = .ok (.iaload, 1) := by decide +kernel
theorem dM_speak_135 : decode cM_speak 135 = .ok (.imul, 1) := by decide +kernel
theorem dM_speak_136 : decode cM_speak 136 = .ok (.iconst 1, 1) := by decide +kernel
theorem dM_speak_137 : decode cM_speak 137 = .ok (.iadd, 1) := by decide +kernel
theorem dM_speak_138 : decode cM_speak 138 = .ok (.iload 4, 2) := by decide +kernel
theorem dM_speak_140 : decode cM_speak 140 = .ok (.iastore, 1) := by decide +kernel
theorem dM_speak_141 : decode cM_speak 141 = .ok (.aload_n 0, 1) := by decide +kernel
theorem dM_speak_142 : decode cM_speak 142 = .ok (.getfield 25, 3) := by decide +kernel
theorem dM_speak_145 : decode cM_speak 145 = .ok (.iload 7, 2) := by decide +kernel
theorem dM_speak_147 : decode cM_speak 147 = .ok (.aaload, 1) := by decide +kernel
theorem dM_speak_148 : decode cM_speak 148 = .ok (.iconst 4, 1) := by decide +kernel
theorem dM_speak_149 : decode cM_speak 149 = .ok (.aload_n 0, 1) := by decide +kernel
theorem dM_speak_150 : decode cM_speak 150 = .ok (.getfield 20, 3) := by decide +kernel
theorem dM_speak_153 : decode cM_speak 153 = .ok (.iload 7, 2) := by decide +kernel
theorem dM_speak_155 : decode cM_speak 155 = .ok (.iaload, 1) := by decide +kernel
theorem dM_speak_156 : decode cM_speak 156 = .ok (.imul, 1) := by decide +kernel
theorem dM_speak_157 : decode cM_speak 157 = .ok (.iconst 2, 1) := by decide +kernel
theorem dM_speak_158 : decode cM_speak 158 = .ok (.iadd, 1) := by decide +kernel
theorem dM_speak_159 : decode cM_speak 159 = .ok (.iload 5, 2) := by decide +kernel
theorem dM_speak_161 : decode cM_speak 161 = .ok (.iastore, 1) := by decide +kernel
theorem dM_speak_162 : decode cM_speak 162 = .ok (.aload_n 0, 1) := by decide +kernel
theorem dM_speak_163 : decode cM_speak 163 = .ok (.getfield 25, 3) := by decide +kernel
theorem dM_speak_166 : decode cM_speak 166 = .ok (.iload 7, 2) := by decide +kernel
theorem dM_speak_168 : decode cM_speak 168 = .ok (.aaload, 1) := by decide +kernel
theorem dM_speak_169 : decode cM_speak 169 = .ok (.iconst 4, 1) := by decide +kernel
theorem dM_speak_170 : decode cM_speak 170 = .ok (.aload_n 0, 1) := by decide +kernel
theorem dM_speak_171 : decode cM_speak 171 = .ok (.getfield 20, 3) := by decide +kernel
theorem dM_speak_174 : decode cM_speak 174 = .ok (.iload 7, 2) := by decide +kernel
theorem dM_speak_176 : decode cM_speak 176 = .ok (.iaload, 1) := by decide +kernel
theorem dM_speak_177 : decode cM_speak 177 = .ok (.imul, 1) := by decide +kernel
theorem dM_speak_178 : decode cM_speak 178 = .ok (.iconst 3, 1) := by decide +kernel
theorem dM_speak_179 : decode cM_speak 179 = .ok (.iadd, 1) := by decide +kernel
theorem dM_speak_180 : decode cM_speak 180 = .ok (.iload 6, 2) := by decide +kernel
theorem dM_speak_182 : decode cM_speak 182 = .ok (.iastore, 1) := by decide +kernel
theorem dM_speak_183 : decode cM_speak 183 = .ok (.aload_n 0, 1) := by decide +kernel
theorem dM_speak_184 : decode cM_speak 184 = .ok (.getfield 20, 3) := by decide +kernel
theorem dM_speak_187 : decode cM_speak 187 = .ok (.iload 7, 2) := by decide +kernel
theorem dM_speak_189 : decode cM_speak 189 = .ok (.dup2, 1) := by decide +kernel
theorem dM_speak_190 : decode cM_speak 190 = .ok (.iaload, 1) := by decide +kernel
theorem dM_speak_191 : decode cM_speak 191 = .ok (.iconst 1, 1) := by decide +kernel
theorem dM_speak_192 : decode cM_speak 192 = .ok (.iadd, 1) := by decide +kernel
theorem dM_speak_193 : decode cM_speak 193 = .ok (.iastore, 1) := by decide +kernel
theorem dM_speak_194 : decode cM_speak 194 = .ok (.aload_n 0, 1) := by decide +kernel
theorem dM_speak_195 : decode cM_speak 195 = .ok (.getfield 20, 3) := by decide +kernel
theorem dM_speak_198 : decode cM_speak 198 = .ok (.iload 7, 2) := by decide +kernel
theorem dM_speak_200 : decode cM_speak 200 = .ok (.iaload, 1) := by decide +kernel
theorem dM_speak_201 : decode cM_speak 201 = .ok (.ireturn, 1) := by decide +kernel
theorem dM_touch_0 : decode cM_touch 0 = .ok (.aload_n 0, 1) := by decide +kernel
theorem dM_touch_1 : decode cM_touch 1 = .ok (.iconst 0, 1) := by decide +kernel
theorem dM_touch_2 : decode cM_touch 2 = .ok (.putfield 51, 3) := by decide +kernel
theorem dM_touch_5 : decode cM_touch 5 = .ok (.aload_n 0, 1) := by decide +kernel
theorem dM_touch_6 : decode cM_touch 6 = .ok (.iload_n 1, 1) := by decide +kernel
theorem dM_touch_7 : decode cM_touch 7 = .ok (.iload_n 2, 1) := by decide +kernel
theorem dM_touch_8 : decode cM_touch 8 = .ok (.iconst 1, 1) := by decide +kernel
theorem dM_touch_9 : decode cM_touch 9 = .ok (.iconst 1, 1) := by decide +kernel
theorem dM_touch_10 : decode cM_touch 10 = .ok (.invokevirtual 55, 3) := by decide +kernel
theorem dM_touch_13 : decode cM_touch 13 = .ok (.ifCond .eq 11, 3) := by decide +kernel
theorem dM_touch_16 : decode cM_touch 16 = .ok (.aload_n 0, 1) := by decide +kernel
theorem dM_touch_17 : decode cM_touch 17 = .ok (.iconst 1, 1) := by decide +kernel
theorem dM_touch_18 : decode cM_touch 18 = .ok (.putfield 51, 3) := by decide +kernel
theorem dM_touch_21 : decode cM_touch 21 = .ok (.goto 15, 3) := by decide +kernel
theorem dM_touch_24 : decode cM_touch 24 = .ok (.aload_n 0, 1) := by decide +kernel
theorem dM_touch_25 : decode cM_touch 25 = .ok (.getfield 28, 3) := by decide +kernel
theorem dM_touch_28 : decode cM_touch 28 = .ok (.bipush 20, 2) := by decide +kernel
theorem dM_touch_30 : decode cM_touch 30 = .ok (.iload_n 1, 1) := by decide +kernel
theorem dM_touch_31 : decode cM_touch 31 = .ok (.imul, 1) := by decide +kernel
theorem dM_touch_32 : decode cM_touch 32 = .ok (.iload_n 2, 1) := by decide +kernel
theorem dM_touch_33 : decode cM_touch 33 = .ok (.iadd, 1) := by decide +kernel
theorem dM_touch_34 : decode cM_touch 34 = .ok (.iconst 1, 1) := by decide +kernel
theorem dM_touch_35 : decode cM_touch 35 = .ok (.bastore, 1) := by decide +kernel
theorem dM_touch_36 : decode cM_touch 36 = .ok (.return_, 1) := by decide +kernel
theorem dM_speaks_0 : decode cM_speaks 0 = .ok (.iconst 0, 1) := by decide +kernel
theorem dM_speaks_1 : decode cM_speaks 1 = .ok (.istore_n 3, 1) := by decide +kernel
theorem dM_speaks_2 : decode cM_speaks 2 = .ok (.iload_n 3, 1) := by decide +kernel
theorem dM_speaks_3 : decode cM_speaks 3 = .ok (.aload_n 0, 1) := by decide +kernel
theorem dM_speaks_4 : decode cM_speaks 4 = .ok (.getfield 20, 3) := by decide +kernel
theorem dM_speaks_7 : decode cM_speaks 7 = .ok (.iload_n 1, 1) := by decide +kernel
theorem dM_speaks_8 : decode cM_speaks 8 = .ok (.iaload, 1) := by decide +kernel
theorem dM_speaks_9 : decode cM_speaks 9 = .ok (.if_icmp .ge 77, 3) := by decide +kernel
theorem dM_speaks_12 : decode cM_speaks 12 = .ok (.aload_n 0, 1) := by decide +kernel
theorem dM_speaks_13 : decode cM_speaks 13 = .ok (.getfield 25, 3) := by decide +kernel
theorem dM_speaks_16 : decode cM_speaks 16 = .ok (.iload_n 1, 1) := by decide +kernel
theorem dM_speaks_17 : decode cM_speaks 17 = .ok (.aaload, 1) := by decide +kernel
theorem dM_speaks_18 : decode cM_speaks 18 = .ok (.astore 4, 2) := by decide +kernel
theorem dM_speaks_20 : decode cM_speaks 20 = .ok (.iload_n 2, 1) := by decide +kernel
theorem dM_speaks_21 : decode cM_speaks 21 = .ok (.bipush 20, 2) := by decide +kernel
theorem dM_speaks_23 : decode cM_speaks 23 = .ok (.idiv, 1) := by decide +kernel
theorem dM_speaks_24 : decode cM_speaks 24 = .ok (.aload 4, 2) := by decide +kernel
theorem dM_speaks_26 : decode cM_speaks 26 = .ok (.iconst 4, 1) := by decide +kernel
theorem dM_speaks_27 : decode cM_speaks 27 = .ok (.iload_n 3, 1) := by decide +kernel
theorem dM_speaks_28 : decode cM_speaks 28 = .ok (.imul, 1) := by decide +kernel
theorem dM_speaks_29 : decode cM_speaks 29 = .ok (.iaload, 1) := by decide +kernel
theorem dM_speaks_30 : decode cM_speaks 30 = .ok (.if_icmp .lt 50, 3) := by decide +kernel
theorem dM_speaks_33 : decode cM_speaks 33 = .ok (.iload_n 2, 1) := by decide +kernel
theorem dM_speaks_34 : decode cM_speaks 34 = .ok (.bipush 20, 2) := by decide +kernel
theorem dM_speaks_36 : decode cM_speaks 36 = .ok (.idiv, 1) := by decide +kernel
theorem dM_speaks_37 : decode cM_speaks 37 = .ok (.aload 4, 2) := by decide +kernel
theorem dM_speaks_39 : decode cM_speaks 39 = .ok (.iconst 4, 1) := by decide +kernel
theorem dM_speaks_40 : decode cM_speaks 40 = .ok (.iload_n 3, 1) := by decide +kernel
theorem dM_speaks_41 : decode cM_speaks 41 = .ok (.imul, 1) := by decide +kernel
theorem dM_speaks_42 : decode cM_speaks 42 = .ok (.iconst 2, 1) := by decide +kernel
theorem dM_speaks_43 : decode cM_speaks 43 = .ok (.iadd, 1) := by decide +kernel
theorem dM_speaks_44 : decode cM_speaks 44 = .ok (.iaload, 1) := by decide +kernel
theorem dM_speaks_45 : decode cM_speaks 45 = .ok (.if_icmp .gt 35, 3) := by decide +kernel
theorem dM_speaks_48 : decode cM_speaks 48 = .ok (.iload_n 2, 1) := by decide +kernel
theorem dM_speaks_49 : decode cM_speaks 49 = .ok (.bipush 20, 2) := by decide +kernel
theorem dM_speaks_51 : decode cM_speaks 51 = .ok (.irem, 1) := by decide +kernel
theorem dM_speaks_52 : decode cM_speaks 52 = .ok (.aload 4, 2) := by decide +kernel
theorem dM_speaks_54 : decode cM_speaks 54 = .ok (.iconst 4, 1) := by decide +kernel
theorem dM_speaks_55 : decode cM_speaks 55 = .ok (.iload_n 3, 1) := by decide +kernel
theorem dM_speaks_56 : decode cM_speaks 56 = .ok (.imul, 1) := by decide +kernel
theorem dM_speaks_57 : decode cM_speaks 57 = .ok (.iconst 1, 1) := by decide +kernel
theorem dM_speaks_58 : decode cM_speaks 58 = .ok (.iadd, 1) := by decide +kernel
theorem dM_speaks_59 : decode cM_speaks 59 = .ok (.iaload, 1) := by decide +kernel
theorem dM_speaks_60 : decode cM_speaks 60 = .ok (.if_icmp .lt 20, 3) := by decide +kernel
theorem dM_speaks_63 : decode cM_speaks 63 = .ok (.iload_n 2, 1) := by decide +kernel
theorem dM_speaks_64 : decode cM_speaks 64 = .ok (.bipush 20, 2) := by decide +kernel
theorem dM_speaks_66 : decode cM_speaks 66 = .ok (.irem, 1) := by decide +kernel
theorem dM_speaks_67 : decode cM_speaks 67 = .ok (.aload 4, 2) := by decide +kernel
theorem dM_speaks_69 : decode cM_speaks 69 = .ok (.iconst 4, 1) := by decide +kernel
theorem dM_speaks_70 : decode cM_speaks 70 = .ok (.iload_n 3, 1) := by decide +kernel
theorem dM_speaks_71 : decode cM_speaks 71 = .ok (.imul, 1) := by decide +kernel
theorem dM_speaks_72 : decode cM_speaks 72 = .ok (.iconst 3, 1) := by decide +kernel
theorem dM_speaks_73 : decode cM_speaks 73 = .ok (.iadd, 1) := by decide +kernel
theorem dM_speaks_74 : decode cM_speaks 74 = .ok (.iaload, 1) := by decide +kernel
theorem dM_speaks_75 : decode cM_speaks 75 = .ok (.if_icmp .gt 5, 3) := by decide +kernel
theorem dM_speaks_78 : decode cM_speaks 78 = .ok (.iconst 1, 1) := by decide +kernel
theorem dM_speaks_79 : decode cM_speaks 79 = .ok (.ireturn, 1) := by decide +kernel
theorem dM_speaks_80 : decode cM_speaks 80 = .ok (.iinc 3 1, 3) := by decide +kernel
theorem dM_speaks_83 : decode cM_speaks 83 = .ok (.goto (-81), 3) := by decide +kernel
theorem dM_speaks_86 : decode cM_speaks 86 = .ok (.iconst 0, 1) := by decide +kernel
theorem dM_speaks_87 : decode cM_speaks 87 = .ok (.ireturn, 1) := by decide +kernel
theorem dM_survey_0 : decode cM_survey 0 = .ok (.iconst 0, 1) := by decide +kernel
theorem dM_survey_1 : decode cM_survey 1 = .ok (.istore_n 1, 1) := by decide +kernel
theorem dM_survey_2 : decode cM_survey 2 = .ok (.iload_n 1, 1) := by decide +kernel
theorem dM_survey_3 : decode cM_survey 3 = .ok (.sipush 400, 3) := by decide +kernel
theorem dM_survey_6 : decode cM_survey 6 = .ok (.if_icmp .ge 54, 3) := by decide +kernel
theorem dM_survey_9 : decode cM_survey 9 = .ok (.aload_n 0, 1) := by decide +kernel
theorem dM_survey_10 : decode cM_survey 10 = .ok (.getfield 31, 3) := by decide +kernel
theorem dM_survey_13 : decode cM_survey 13 = .ok (.iload_n 1, 1) := by decide +kernel
theorem dM_survey_14 : decode cM_survey 14 = .ok (.iconst 0, 1) := by decide +kernel
theorem dM_survey_15 : decode cM_survey 15 = .ok (.bastore, 1) := by decide +kernel
theorem dM_survey_16 : decode cM_survey 16 = .ok (.aload_n 0, 1) := by decide +kernel
theorem dM_survey_17 : decode cM_survey 17 = .ok (.getfield 34, 3) := by decide +kernel
theorem dM_survey_20 : decode cM_survey 20 = .ok (.iload_n 1, 1) := by decide +kernel
theorem dM_survey_21 : decode cM_survey 21 = .ok (.iconst 0, 1) := by decide +kernel
theorem dM_survey_22 : decode cM_survey 22 = .ok (.bastore, 1) := by decide +kernel
theorem dM_survey_23 : decode cM_survey 23 = .ok (.aload_n 0, 1) := by decide +kernel
theorem dM_survey_24 : decode cM_survey 24 = .ok (.getfield 37, 3) := by decide +kernel
theorem dM_survey_27 : decode cM_survey 27 = .ok (.iload_n 1, 1) := by decide +kernel
theorem dM_survey_28 : decode cM_survey 28 = .ok (.iconst 0, 1) := by decide +kernel
theorem dM_survey_29 : decode cM_survey 29 = .ok (.iastore, 1) := by decide +kernel
theorem dM_survey_30 : decode cM_survey 30 = .ok (.iconst 0, 1) := by decide +kernel
theorem dM_survey_31 : decode cM_survey 31 = .ok (.istore_n 2, 1) := by decide +kernel
theorem dM_survey_32 : decode cM_survey 32 = .ok (.iload_n 2, 1) := by decide +kernel
theorem dM_survey_33 : decode cM_survey 33 = .ok (.sipush 400, 3) := by decide +kernel
theorem dM_survey_36 : decode cM_survey 36 = .ok (.if_icmp .ge 18, 3) := by decide +kernel
theorem dM_survey_39 : decode cM_survey 39 = .ok (.aload_n 0, 1) := by decide +kernel
theorem dM_survey_40 : decode cM_survey 40 = .ok (.getfield 42, 3) := by decide +kernel
theorem dM_survey_43 : decode cM_survey 43 = .ok (.iload_n 1, 1) := by decide +kernel
theorem dM_survey_44 : decode cM_survey 44 = .ok (.aaload, 1) := by decide +kernel
theorem dM_survey_45 : decode cM_survey 45 = .ok (.iload_n 2, 1) := by decide +kernel
theorem dM_survey_46 : decode cM_survey 46 = .ok (.iconst 0, 1) := by decide +kernel
theorem dM_survey_47 : decode cM_survey 47 = .ok (.bastore, 1) := by decide +kernel
theorem dM_survey_48 : decode cM_survey 48 = .ok (.iinc 2 1, 3) := by decide +kernel
theorem dM_survey_51 : decode cM_survey 51 = .ok (.goto (-19), 3) := by decide +kernel
theorem dM_survey_54 : decode cM_survey 54 = .ok (.iinc 1 1, 3) := by decide +kernel
theorem dM_survey_57 : decode cM_survey 57 = .ok (.goto (-55), 3) := by decide +kernel
theorem dM_survey_60 : decode cM_survey 60 = .ok (.iconst 0, 1) := by decide +kernel
theorem dM_survey_61 : decode cM_survey 61 = .ok (.istore_n 1, 1) := by decide +kernel
theorem dM_survey_62 : decode cM_survey 62 = .ok (.iload_n 1, 1) := by decide +kernel
theorem dM_survey_63 : decode cM_survey 63 = .ok (.sipush 400, 3) := by decide +kernel
theorem dM_survey_66 : decode cM_survey 66 = .ok (.if_icmp .ge 113, 3) := by decide +kernel
theorem dM_survey_69 : decode cM_survey 69 = .ok (.aload_n 0, 1) := by decide +kernel
theorem dM_survey_70 : decode cM_survey 70 = .ok (.iload_n 1, 1) := by decide +kernel
theorem dM_survey_71 : decode cM_survey 71 = .ok (.invokevirtual 63, 3) := by decide +kernel
theorem dM_survey_74 : decode cM_survey 74 = .ok (.istore_n 2, 1) := by decide +kernel
theorem dM_survey_75 : decode cM_survey 75 = .ok (.iload_n 2, 1) := by decide +kernel
theorem dM_survey_76 : decode cM_survey 76 = .ok (.ifCond .lt 19, 3) := by decide +kernel
theorem dM_survey_79 : decode cM_survey 79 = .ok (.aload_n 0, 1) := by decide +kernel
theorem dM_survey_80 : decode cM_survey 80 = .ok (.getfield 28, 3) := by decide +kernel
theorem dM_survey_83 : decode cM_survey 83 = .ok (.iload_n 1, 1) := by decide +kernel
theorem dM_survey_84 : decode cM_survey 84 = .ok (.baload, 1) := by decide +kernel
theorem dM_survey_85 : decode cM_survey 85 = .ok (.ifCond .eq 10, 3) := by decide +kernel
theorem dM_survey_88 : decode cM_survey 88 = .ok (.aload_n 0, 1) := by decide +kernel
theorem dM_survey_89 : decode cM_survey 89 = .ok (.getfield 31, 3) := by decide +kernel
theorem dM_survey_92 : decode cM_survey 92 = .ok (.iload_n 2, 1) := by decide +kernel
theorem dM_survey_93 : decode cM_survey 93 = .ok (.iconst 1, 1) := by decide +kernel
theorem dM_survey_94 : decode cM_survey 94 = .ok (.bastore, 1) := by decide +kernel
theorem dM_survey_95 : decode cM_survey 95 = .ok (.iconst 0, 1) := by decide +kernel
theorem dM_survey_96 : decode cM_survey 96 = .ok (.istore_n 3, 1) := by decide +kernel
theorem dM_survey_97 : decode cM_survey 97 = .ok (.iload_n 3, 1) := by decide +kernel
theorem dM_survey_98 : decode cM_survey 98 = .ok (.sipush 400, 3) := by decide +kernel
theorem dM_survey_101 : decode cM_survey 101 = .ok (.if_icmp .ge 72, 3) := by decide +kernel
theorem dM_survey_104 : decode cM_survey 104 = .ok (.aload_n 0, 1) := by decide +kernel
theorem dM_survey_105 : decode cM_survey 105 = .ok (.getfield 7, 3) := by decide +kernel
theorem dM_survey_108 : decode cM_survey 108 = .ok (.iload_n 3, 1) := by decide +kernel
theorem dM_survey_109 : decode cM_survey 109 = .ok (.baload, 1) := by decide +kernel
theorem dM_survey_110 : decode cM_survey 110 = .ok (.ifCond .eq 57, 3) := by decide +kernel
theorem dM_survey_113 : decode cM_survey 113 = .ok (.iload_n 2, 1) := by decide +kernel
theorem dM_survey_114 : decode cM_survey 114 = .ok (.ifCond .ge 12, 3) := by decide +kernel
theorem dM_survey_117 : decode cM_survey 117 = .ok (.aload_n 0, 1) := by decide +kernel
theorem dM_survey_118 : decode cM_survey 118 = .ok (.getfield 28, 3) := by decide +kernel
theorem dM_survey_121 : decode cM_survey 121 = .ok (.iload_n 1, 1) := by decide +kernel
theorem dM_survey_122 : decode cM_survey 122 = .ok (.baload, 1) := by decide +kernel
theorem dM_survey_123 : decode cM_survey 123 = .ok (.ifCond .eq 44, 3) := by decide +kernel
theorem dM_survey_126 : decode cM_survey 126 = .ok (.aload_n 0, 1) := by decide +kernel
theorem dM_survey_127 : decode cM_survey 127 = .ok (.iload_n 3, 1) := by decide +kernel
theorem dM_survey_128 : decode cM_survey 128 = .ok (.iload_n 1, 1) := by decide +kernel
theorem dM_survey_129 : decode cM_survey 129 = .ok (.invokevirtual 74, 3) := by decide +kernel
theorem dM_survey_132 : decode cM_survey 132 = .ok (.ifCond .ne 6, 3) := by decide +kernel
theorem dM_survey_135 : decode cM_survey 135 = .ok (.goto 32, 3) := by decide +kernel
theorem dM_survey_138 : decode cM_survey 138 = .ok (.iload_n 2, 1) := by decide +kernel
theorem dM_survey_139 : decode cM_survey 139 = .ok (.ifCond .lt 12, 3) := by decide +kernel
theorem dM_survey_142 : decode cM_survey 142 = .ok (.aload_n 0, 1) := by decide +kernel
theorem dM_survey_143 : decode cM_survey 143 = .ok (.getfield 42, 3) := by decide +kernel
theorem dM_survey_146 : decode cM_survey 146 = .ok (.iload_n 3, 1) := by decide +kernel
theorem dM_survey_147 : decode cM_survey 147 = .ok (.aaload, 1) := by decide +kernel
theorem dM_survey_148 : decode cM_survey 148 = .ok (.iload_n 2, 1) := by decide +kernel
theorem dM_survey_149 : decode cM_survey 149 = .ok (.iconst 1, 1) := by decide +kernel
theorem dM_survey_150 : decode cM_survey 150 = .ok (.bastore, 1) := by decide +kernel
theorem dM_survey_151 : decode cM_survey 151 = .ok (.aload_n 0, 1) := by decide +kernel
theorem dM_survey_152 : decode cM_survey 152 = .ok (.getfield 28, 3) := by decide +kernel
theorem dM_survey_155 : decode cM_survey 155 = .ok (.iload_n 1, 1) := by decide +kernel
theorem dM_survey_156 : decode cM_survey 156 = .ok (.baload, 1) := by decide +kernel
theorem dM_survey_157 : decode cM_survey 157 = .ok (.ifCond .eq 10, 3) := by decide +kernel
theorem dM_survey_160 : decode cM_survey 160 = .ok (.aload_n 0, 1) := by decide +kernel
theorem dM_survey_161 : decode cM_survey 161 = .ok (.getfield 31, 3) := by decide +kernel
theorem dM_survey_164 : decode cM_survey 164 = .ok (.iload_n 3, 1) := by decide +kernel
theorem dM_survey_165 : decode cM_survey 165 = .ok (.iconst 1, 1) := by decide +kernel
theorem dM_survey_166 : decode cM_survey 166 = .ok (.bastore, 1) := by decide +kernel
theorem dM_survey_167 : decode cM_survey 167 = .ok (.iinc 3 1, 3) := by decide +kernel
theorem dM_survey_170 : decode cM_survey 170 = .ok (.goto (-73), 3) := by decide +kernel
theorem dM_survey_173 : decode cM_survey 173 = .ok (.iinc 1 1, 3) := by decide +kernel
theorem dM_survey_176 : decode cM_survey 176 = .ok (.goto (-114), 3) := by decide +kernel
theorem dM_survey_179 : decode cM_survey 179 = .ok (.return_, 1) := by decide +kernel
theorem dM_comesBack_0 : decode cM_comesBack 0 = .ok (.iconst 0, 1) := by decide +kernel
theorem dM_comesBack_1 : decode cM_comesBack 1 = .ok (.istore_n 2, 1) := by decide +kernel
theorem dM_comesBack_2 : decode cM_comesBack 2 = .ok (.iload_n 2, 1) := by decide +kernel
theorem dM_comesBack_3 : decode cM_comesBack 3 = .ok (.sipush 400, 3) := by decide +kernel
theorem dM_comesBack_6 : decode cM_comesBack 6 = .ok (.if_icmp .ge 16, 3) := by decide +kernel
theorem dM_comesBack_9 : decode cM_comesBack 9 = .ok (.aload_n 0, 1) := by decide +kernel
theorem dM_comesBack_10 : decode cM_comesBack 10 = .ok (.getfield 45, 3) := by decide +kernel
theorem dM_comesBack_13 : decode cM_comesBack 13 = .ok (.iload_n 2, 1) := by decide +kernel
theorem dM_comesBack_14 : decode cM_comesBack 14 = .ok (.iconst 0, 1) := by decide +kernel
theorem dM_comesBack_15 : decode cM_comesBack 15 = .ok (.bastore, 1) := by decide +kernel
theorem dM_comesBack_16 : decode cM_comesBack 16 = .ok (.iinc 2 1, 3) := by decide +kernel
theorem dM_comesBack_19 : decode cM_comesBack 19 = .ok (.goto (-17), 3) := by decide +kernel
theorem dM_comesBack_22 : decode cM_comesBack 22 = .ok (.iconst 1, 1) := by decide +kernel
theorem dM_comesBack_23 : decode cM_comesBack 23 = .ok (.istore_n 2, 1) := by decide +kernel
theorem dM_comesBack_24 : decode cM_comesBack 24 = .ok (.aload_n 0, 1) := by decide +kernel
theorem dM_comesBack_25 : decode cM_comesBack 25 = .ok (.getfield 48, 3) := by decide +kernel
theorem dM_comesBack_28 : decode cM_comesBack 28 = .ok (.iconst 0, 1) := by decide +kernel
theorem dM_comesBack_29 : decode cM_comesBack 29 = .ok (.iload_n 1, 1) := by decide +kernel
theorem dM_comesBack_30 : decode cM_comesBack 30 = .ok (.iastore, 1) := by decide +kernel
theorem dM_comesBack_31 : decode cM_comesBack 31 = .ok (.iconst 0, 1) := by decide +kernel
theorem dM_comesBack_32 : decode cM_comesBack 32 = .ok (.istore_n 3, 1) := by decide +kernel
theorem dM_comesBack_33 : decode cM_comesBack 33 = .ok (.iload_n 3, 1) := by decide +kernel
theorem dM_comesBack_34 : decode cM_comesBack 34 = .ok (.iload_n 2, 1) := by decide +kernel
theorem dM_comesBack_35 : decode cM_comesBack 35 = .ok (.if_icmp .ge 93, 3) := by decide +kernel
theorem dM_comesBack_38 : decode cM_comesBack 38 = .ok (.iconst 0, 1) := by decide +kernel
theorem dM_comesBack_39 : decode cM_comesBack 39 = .ok (.istore 4, 2) := by decide +kernel
theorem dM_comesBack_41 : decode cM_comesBack 41 = .ok (.iload 4, 2) := by decide +kernel
theorem dM_comesBack_43 : decode cM_comesBack 43 = .ok (.sipush 400, 3) := by decide +kernel
theorem dM_comesBack_46 : decode cM_comesBack 46 = .ok (.if_icmp .ge 76, 3) := by decide +kernel
theorem dM_comesBack_49 : decode cM_comesBack 49 = .ok (.aload_n 0, 1) := by decide +kernel
theorem dM_comesBack_50 : decode cM_comesBack 50 = .ok (.getfield 42, 3) := by decide +kernel
theorem dM_comesBack_53 : decode cM_comesBack 53 = .ok (.aload_n 0, 1) := by decide +kernel
theorem dM_comesBack_54 : decode cM_comesBack 54 = .ok (.getfield 48, 3) := by decide +kernel
theorem dM_comesBack_57 : decode cM_comesBack 57 = .ok (.iload_n 3, 1) := by decide +kernel
theorem dM_comesBack_58 : decode cM_comesBack 58 = .ok (.iaload, 1) := by decide +kernel
theorem dM_comesBack_59 : decode cM_comesBack 59 = .ok (.aaload, 1) := by decide +kernel
theorem dM_comesBack_60 : decode cM_comesBack 60 = .ok (.iload 4, 2) := by decide +kernel
theorem dM_comesBack_62 : decode cM_comesBack 62 = .ok (.baload, 1) := by decide +kernel
theorem dM_comesBack_63 : decode cM_comesBack 63 = .ok (.ifCond .eq 53, 3) := by decide +kernel
theorem dM_comesBack_66 : decode cM_comesBack 66 = .ok (.aload_n 0, 1) := by decide +kernel
theorem dM_comesBack_67 : decode cM_comesBack 67 = .ok (.getfield 31, 3) := by decide +kernel
theorem dM_comesBack_70 : decode cM_comesBack 70 = .ok (.iload 4, 2) := by decide +kernel
theorem dM_comesBack_72 : decode cM_comesBack 72 = .ok (.baload, 1) := by decide +kernel
theorem dM_comesBack_73 : decode cM_comesBack 73 = .ok (.ifCond .eq 43, 3) := by decide +kernel
theorem dM_comesBack_76 : decode cM_comesBack 76 = .ok (.aload_n 0, 1) := by decide +kernel
theorem dM_comesBack_77 : decode cM_comesBack 77 = .ok (.getfield 45, 3) := by decide +kernel
theorem dM_comesBack_80 : decode cM_comesBack 80 = .ok (.iload 4, 2) := by decide +kernel
theorem dM_comesBack_82 : decode cM_comesBack 82 = .ok (.baload, 1) := by decide +kernel
theorem dM_comesBack_83 : decode cM_comesBack 83 = .ok (.ifCond .eq 6, 3) := by decide +kernel
theorem dM_comesBack_86 : decode cM_comesBack 86 = .ok (.goto 30, 3) := by decide +kernel
theorem dM_comesBack_89 : decode cM_comesBack 89 = .ok (.iload 4, 2) := by decide +kernel
theorem dM_comesBack_91 : decode cM_comesBack 91 = .ok (.iload_n 1, 1) := by decide +kernel
theorem dM_comesBack_92 : decode cM_comesBack 92 = .ok (.if_icmp .ne 5, 3) := by decide +kernel
theorem dM_comesBack_95 : decode cM_comesBack 95 = .ok (.iconst 1, 1) := by decide +kernel
theorem dM_comesBack_96 : decode cM_comesBack 96 = .ok (.ireturn, 1) := by decide +kernel
theorem dM_comesBack_97 : decode cM_comesBack 97 = .ok (.aload_n 0, 1) := by decide +kernel
theorem dM_comesBack_98 : decode cM_comesBack 98 = .ok (.getfield 45, 3) := by decide +kernel
theorem dM_comesBack_101 : decode cM_comesBack 101 = .ok (.iload 4, 2) := by decide +kernel
theorem dM_comesBack_103 : decode cM_comesBack 103 = .ok (.iconst 1, 1) := by decide +kernel
theorem dM_comesBack_104 : decode cM_comesBack 104 = .ok (.bastore, 1) := by decide +kernel
theorem dM_comesBack_105 : decode cM_comesBack 105 = .ok (.aload_n 0, 1) := by decide +kernel
theorem dM_comesBack_106 : decode cM_comesBack 106 = .ok (.getfield 48, 3) := by decide +kernel
theorem dM_comesBack_109 : decode cM_comesBack 109 = .ok (.iload_n 2, 1) := by decide +kernel
theorem dM_comesBack_110 : decode cM_comesBack 110 = .ok (.iload 4, 2) := by decide +kernel
theorem dM_comesBack_112 : decode cM_comesBack 112 = .ok (.iastore, 1) := by decide +kernel
theorem dM_comesBack_113 : decode cM_comesBack 113 = .ok (.iinc 2 1, 3) := by decide +kernel
theorem dM_comesBack_116 : decode cM_comesBack 116 = .ok (.iinc 4 1, 3) := by decide +kernel
theorem dM_comesBack_119 : decode cM_comesBack 119 = .ok (.goto (-78), 3) := by decide +kernel
theorem dM_comesBack_122 : decode cM_comesBack 122 = .ok (.iinc 3 1, 3) := by decide +kernel
theorem dM_comesBack_125 : decode cM_comesBack 125 = .ok (.goto (-92), 3) := by decide +kernel
theorem dM_comesBack_128 : decode cM_comesBack 128 = .ok (.iconst 0, 1) := by decide +kernel
theorem dM_comesBack_129 : decode cM_comesBack 129 = .ok (.ireturn, 1) := by decide +kernel
theorem dM_spread_0 : decode cM_spread 0 = .ok (.aload_n 0, 1) := by decide +kernel
theorem dM_spread_1 : decode cM_spread 1 = .ok (.iconst 0, 1) := by decide +kernel
theorem dM_spread_2 : decode cM_spread 2 = .ok (.putfield 51, 3) := by decide +kernel
theorem dM_spread_5 : decode cM_spread 5 = .ok (.aload_n 0, 1) := by decide +kernel
theorem dM_spread_6 : decode cM_spread 6 = .ok (.invokevirtual 78, 3) := by decide +kernel
theorem dM_spread_9 : decode cM_spread 9 = .ok (.iconst 1, 1) := by decide +kernel
theorem dM_spread_10 : decode cM_spread 10 = .ok (.istore_n 1, 1) := by decide +kernel
theorem dM_spread_11 : decode cM_spread 11 = .ok (.iload_n 1, 1) := by decide +kernel
theorem dM_spread_12 : decode cM_spread 12 = .ok (.ifCond .eq 88, 3) := by decide +kernel
theorem dM_spread_15 : decode cM_spread 15 = .ok (.iconst 0, 1) := by decide +kernel
theorem dM_spread_16 : decode cM_spread 16 = .ok (.istore_n 1, 1) := by decide +kernel
theorem dM_spread_17 : decode cM_spread 17 = .ok (.iconst 0, 1) := by decide +kernel
theorem dM_spread_18 : decode cM_spread 18 = .ok (.istore_n 2, 1) := by decide +kernel
theorem dM_spread_19 : decode cM_spread 19 = .ok (.iload_n 2, 1) := by decide +kernel
theorem dM_spread_20 : decode cM_spread 20 = .ok (.sipush 400, 3) := by decide +kernel
theorem dM_spread_23 : decode cM_spread 23 = .ok (.if_icmp .ge 74, 3) := by decide +kernel
theorem dM_spread_26 : decode cM_spread 26 = .ok (.iconst 0, 1) := by decide +kernel
theorem dM_spread_27 : decode cM_spread 27 = .ok (.istore_n 3, 1) := by decide +kernel
theorem dM_spread_28 : decode cM_spread 28 = .ok (.iload_n 3, 1) := by decide +kernel
theorem dM_spread_29 : decode cM_spread 29 = .ok (.sipush 400, 3) := by decide +kernel
theorem dM_spread_32 : decode cM_spread 32 = .ok (.if_icmp .ge 59, 3) := by decide +kernel
theorem dM_spread_35 : decode cM_spread 35 = .ok (.aload_n 0, 1) := by decide +kernel
theorem dM_spread_36 : decode cM_spread 36 = .ok (.getfield 7, 3) := by decide +kernel
theorem dM_spread_39 : decode cM_spread 39 = .ok (.iload_n 2, 1) := by decide +kernel
theorem dM_spread_40 : decode cM_spread 40 = .ok (.baload, 1) := by decide +kernel
theorem dM_spread_41 : decode cM_spread 41 = .ok (.ifCond .eq 50, 3) := by decide +kernel
theorem dM_spread_44 : decode cM_spread 44 = .ok (.aload_n 0, 1) := by decide +kernel
theorem dM_spread_45 : decode cM_spread 45 = .ok (.getfield 31, 3) := by decide +kernel
theorem dM_spread_48 : decode cM_spread 48 = .ok (.iload_n 2, 1) := by decide +kernel
theorem dM_spread_49 : decode cM_spread 49 = .ok (.baload, 1) := by decide +kernel
theorem dM_spread_50 : decode cM_spread 50 = .ok (.ifCond .ne 41, 3) := by decide +kernel
theorem dM_spread_53 : decode cM_spread 53 = .ok (.aload_n 0, 1) := by decide +kernel
theorem dM_spread_54 : decode cM_spread 54 = .ok (.getfield 42, 3) := by decide +kernel
theorem dM_spread_57 : decode cM_spread 57 = .ok (.iload_n 2, 1) := by decide +kernel
theorem dM_spread_58 : decode cM_spread 58 = .ok (.aaload, 1) := by decide +kernel
theorem dM_spread_59 : decode cM_spread 59 = .ok (.iload_n 3, 1) := by decide +kernel
theorem dM_spread_60 : decode cM_spread 60 = .ok (.baload, 1) := by decide +kernel
theorem dM_spread_61 : decode cM_spread 61 = .ok (.ifCond .eq 24, 3) := by decide +kernel
theorem dM_spread_64 : decode cM_spread 64 = .ok (.aload_n 0, 1) := by decide +kernel
theorem dM_spread_65 : decode cM_spread 65 = .ok (.getfield 31, 3) := by decide +kernel
theorem dM_spread_68 : decode cM_spread 68 = .ok (.iload_n 3, 1) := by decide +kernel
theorem dM_spread_69 : decode cM_spread 69 = .ok (.baload, 1) := by decide +kernel
theorem dM_spread_70 : decode cM_spread 70 = .ok (.ifCond .ne 6, 3) := by decide +kernel
theorem dM_spread_73 : decode cM_spread 73 = .ok (.goto 12, 3) := by decide +kernel
theorem dM_spread_76 : decode cM_spread 76 = .ok (.aload_n 0, 1) := by decide +kernel
theorem dM_spread_77 : decode cM_spread 77 = .ok (.getfield 31, 3) := by decide +kernel
theorem dM_spread_80 : decode cM_spread 80 = .ok (.iload_n 2, 1) := by decide +kernel
theorem dM_spread_81 : decode cM_spread 81 = .ok (.iconst 1, 1) := by decide +kernel
theorem dM_spread_82 : decode cM_spread 82 = .ok (.bastore, 1) := by decide +kernel
theorem dM_spread_83 : decode cM_spread 83 = .ok (.iconst 1, 1) := by decide +kernel
theorem dM_spread_84 : decode cM_spread 84 = .ok (.istore_n 1, 1) := by decide +kernel
theorem dM_spread_85 : decode cM_spread 85 = .ok (.iinc 3 1, 3) := by decide +kernel
theorem dM_spread_88 : decode cM_spread 88 = .ok (.goto (-60), 3) := by decide +kernel
theorem dM_spread_91 : decode cM_spread 91 = .ok (.iinc 2 1, 3) := by decide +kernel
theorem dM_spread_94 : decode cM_spread 94 = .ok (.goto (-75), 3) := by decide +kernel
theorem dM_spread_97 : decode cM_spread 97 = .ok (.goto (-86), 3) := by decide +kernel
theorem dM_spread_100 : decode cM_spread 100 = .ok (.iconst 0, 1) := by decide +kernel
theorem dM_spread_101 : decode cM_spread 101 = .ok (.istore_n 2, 1) := by decide +kernel
theorem dM_spread_102 : decode cM_spread 102 = .ok (.iconst 0, 1) := by decide +kernel
theorem dM_spread_103 : decode cM_spread 103 = .ok (.istore_n 3, 1) := by decide +kernel
theorem dM_spread_104 : decode cM_spread 104 = .ok (.iload_n 3, 1) := by decide +kernel
theorem dM_spread_105 : decode cM_spread 105 = .ok (.sipush 400, 3) := by decide +kernel
theorem dM_spread_108 : decode cM_spread 108 = .ok (.if_icmp .ge 35, 3) := by decide +kernel
theorem dM_spread_111 : decode cM_spread 111 = .ok (.aload_n 0, 1) := by decide +kernel
theorem dM_spread_112 : decode cM_spread 112 = .ok (.getfield 31, 3) := by decide +kernel
theorem dM_spread_115 : decode cM_spread 115 = .ok (.iload_n 3, 1) := by decide +kernel
theorem dM_spread_116 : decode cM_spread 116 = .ok (.baload, 1) := by decide +kernel
theorem dM_spread_117 : decode cM_spread 117 = .ok (.ifCond .ne 6, 3) := by decide +kernel
theorem dM_spread_120 : decode cM_spread 120 = .ok (.goto 17, 3) := by decide +kernel
theorem dM_spread_123 : decode cM_spread 123 = .ok (.iinc 2 1, 3) := by decide +kernel
theorem dM_spread_126 : decode cM_spread 126 = .ok (.aload_n 0, 1) := by decide +kernel
theorem dM_spread_127 : decode cM_spread 127 = .ok (.getfield 34, 3) := by decide +kernel
theorem dM_spread_130 : decode cM_spread 130 = .ok (.iload_n 3, 1) := by decide +kernel
theorem dM_spread_131 : decode cM_spread 131 = .ok (.aload_n 0, 1) := by decide +kernel
theorem dM_spread_132 : decode cM_spread 132 = .ok (.iload_n 3, 1) := by decide +kernel
theorem dM_spread_133 : decode cM_spread 133 = .ok (.invokevirtual 81, 3) := by decide +kernel
theorem dM_spread_136 : decode cM_spread 136 = .ok (.bastore, 1) := by decide +kernel
theorem dM_spread_137 : decode cM_spread 137 = .ok (.iinc 3 1, 3) := by decide +kernel
theorem dM_spread_140 : decode cM_spread 140 = .ok (.goto (-36), 3) := by decide +kernel
theorem dM_spread_143 : decode cM_spread 143 = .ok (.iconst 1, 1) := by decide +kernel
theorem dM_spread_144 : decode cM_spread 144 = .ok (.istore_n 1, 1) := by decide +kernel
theorem dM_spread_145 : decode cM_spread 145 = .ok (.iload_n 1, 1) := by decide +kernel
theorem dM_spread_146 : decode cM_spread 146 = .ok (.ifCond .eq 128, 3) := by decide +kernel
theorem dM_spread_149 : decode cM_spread 149 = .ok (.iconst 0, 1) := by decide +kernel
theorem dM_spread_150 : decode cM_spread 150 = .ok (.istore_n 1, 1) := by decide +kernel
theorem dM_spread_151 : decode cM_spread 151 = .ok (.iconst 0, 1) := by decide +kernel
theorem dM_spread_152 : decode cM_spread 152 = .ok (.istore_n 3, 1) := by decide +kernel
theorem dM_spread_153 : decode cM_spread 153 = .ok (.iload_n 3, 1) := by decide +kernel
theorem dM_spread_154 : decode cM_spread 154 = .ok (.sipush 400, 3) := by decide +kernel
theorem dM_spread_157 : decode cM_spread 157 = .ok (.if_icmp .ge 114, 3) := by decide +kernel
theorem dM_spread_160 : decode cM_spread 160 = .ok (.aload_n 0, 1) := by decide +kernel
theorem dM_spread_161 : decode cM_spread 161 = .ok (.getfield 31, 3) := by decide +kernel
theorem dM_spread_164 : decode cM_spread 164 = .ok (.iload_n 3, 1) := by decide +kernel
theorem dM_spread_165 : decode cM_spread 165 = .ok (.baload, 1) := by decide +kernel
theorem dM_spread_166 : decode cM_spread 166 = .ok (.ifCond .eq 99, 3) := by decide +kernel
theorem dM_spread_169 : decode cM_spread 169 = .ok (.aload_n 0, 1) := by decide +kernel
theorem dM_spread_170 : decode cM_spread 170 = .ok (.getfield 34, 3) := by decide +kernel
theorem dM_spread_173 : decode cM_spread 173 = .ok (.iload_n 3, 1) := by decide +kernel
theorem dM_spread_174 : decode cM_spread 174 = .ok (.baload, 1) := by decide +kernel
theorem dM_spread_175 : decode cM_spread 175 = .ok (.ifCond .eq 6, 3) := by decide +kernel
theorem dM_spread_178 : decode cM_spread 178 = .ok (.goto 87, 3) := by decide +kernel
theorem dM_spread_181 : decode cM_spread 181 = .ok (.iconst 0, 1) := by decide +kernel
theorem dM_spread_182 : decode cM_spread 182 = .ok (.istore 4, 2) := by decide +kernel
theorem dM_spread_184 : decode cM_spread 184 = .ok (.iconst 0, 1) := by decide +kernel
theorem dM_spread_185 : decode cM_spread 185 = .ok (.istore 5, 2) := by decide +kernel
theorem dM_spread_187 : decode cM_spread 187 = .ok (.iload 5, 2) := by decide +kernel
theorem dM_spread_189 : decode cM_spread 189 = .ok (.sipush 400, 3) := by decide +kernel
theorem dM_spread_192 : decode cM_spread 192 = .ok (.if_icmp .ge 45, 3) := by decide +kernel
theorem dM_spread_195 : decode cM_spread 195 = .ok (.aload_n 0, 1) := by decide +kernel
theorem dM_spread_196 : decode cM_spread 196 = .ok (.getfield 42, 3) := by decide +kernel
theorem dM_spread_199 : decode cM_spread 199 = .ok (.iload_n 3, 1) := by decide +kernel
theorem dM_spread_200 : decode cM_spread 200 = .ok (.aaload, 1) := by decide +kernel
theorem dM_spread_201 : decode cM_spread 201 = .ok (.iload 5, 2) := by decide +kernel
theorem dM_spread_203 : decode cM_spread 203 = .ok (.baload, 1) := by decide +kernel
theorem dM_spread_204 : decode cM_spread 204 = .ok (.ifCond .eq 27, 3) := by decide +kernel
theorem dM_spread_207 : decode cM_spread 207 = .ok (.aload_n 0, 1) := by decide +kernel
theorem dM_spread_208 : decode cM_spread 208 = .ok (.getfield 31, 3) := by decide +kernel
theorem dM_spread_211 : decode cM_spread 211 = .ok (.iload 5, 2) := by decide +kernel
theorem dM_spread_213 : decode cM_spread 213 = .ok (.baload, 1) := by decide +kernel
theorem dM_spread_214 : decode cM_spread 214 = .ok (.ifCond .eq 17, 3) := by decide +kernel
theorem dM_spread_217 : decode cM_spread 217 = .ok (.iload 4, 2) := by decide +kernel
theorem dM_spread_219 : decode cM_spread 219 = .ok (.aload_n 0, 1) := by decide +kernel
theorem dM_spread_220 : decode cM_spread 220 = .ok (.getfield 37, 3) := by decide +kernel
theorem dM_spread_223 : decode cM_spread 223 = .ok (.iload 5, 2) := by decide +kernel
theorem dM_spread_225 : decode cM_spread 225 = .ok (.iaload, 1) := by decide +kernel
theorem dM_spread_226 : decode cM_spread 226 = .ok (.invokestatic 85, 3) := by decide +kernel
theorem dM_spread_229 : decode cM_spread 229 = .ok (.istore 4, 2) := by decide +kernel
theorem dM_spread_231 : decode cM_spread 231 = .ok (.iinc 5 1, 3) := by decide +kernel
theorem dM_spread_234 : decode cM_spread 234 = .ok (.goto (-47), 3) := by decide +kernel
theorem dM_spread_237 : decode cM_spread 237 = .ok (.aload_n 0, 1) := by decide +kernel
theorem dM_spread_238 : decode cM_spread 238 = .ok (.getfield 37, 3) := by decide +kernel
theorem dM_spread_241 : decode cM_spread 241 = .ok (.iload_n 3, 1) := by decide +kernel
theorem dM_spread_242 : decode cM_spread 242 = .ok (.iaload, 1) := by decide +kernel
theorem dM_spread_243 : decode cM_spread 243 = .ok (.iload 4, 2) := by decide +kernel
theorem dM_spread_245 : decode cM_spread 245 = .ok (.iconst 1, 1) := by decide +kernel
theorem dM_spread_246 : decode cM_spread 246 = .ok (.iadd, 1) := by decide +kernel
theorem dM_spread_247 : decode cM_spread 247 = .ok (.if_icmp .ne 6, 3) := by decide +kernel
theorem dM_spread_250 : decode cM_spread 250 = .ok (.goto 15, 3) := by decide +kernel
theorem dM_spread_253 : decode cM_spread 253 = .ok (.aload_n 0, 1) := by decide +kernel
theorem dM_spread_254 : decode cM_spread 254 = .ok (.getfield 37, 3) := by decide +kernel
theorem dM_spread_257 : decode cM_spread 257 = .ok (.iload_n 3, 1) := by decide +kernel
theorem dM_spread_258 : decode cM_spread 258 = .ok (.iload 4, 2) := by decide +kernel
theorem dM_spread_260 : decode cM_spread 260 = .ok (.iconst 1, 1) := by decide +kernel
theorem dM_spread_261 : decode cM_spread 261 = .ok (.iadd, 1) := by decide +kernel
theorem dM_spread_262 : decode cM_spread 262 = .ok (.iastore, 1) := by decide +kernel
theorem dM_spread_263 : decode cM_spread 263 = .ok (.iconst 1, 1) := by decide +kernel
theorem dM_spread_264 : decode cM_spread 264 = .ok (.istore_n 1, 1) := by decide +kernel
theorem dM_spread_265 : decode cM_spread 265 = .ok (.iinc 3 1, 3) := by decide +kernel
theorem dM_spread_268 : decode cM_spread 268 = .ok (.goto (-115), 3) := by decide +kernel
theorem dM_spread_271 : decode cM_spread 271 = .ok (.goto (-126), 3) := by decide +kernel
theorem dM_spread_274 : decode cM_spread 274 = .ok (.iconst 0, 1) := by decide +kernel
theorem dM_spread_275 : decode cM_spread 275 = .ok (.istore_n 3, 1) := by decide +kernel
theorem dM_spread_276 : decode cM_spread 276 = .ok (.iload_n 3, 1) := by decide +kernel
theorem dM_spread_277 : decode cM_spread 277 = .ok (.sipush 400, 3) := by decide +kernel
theorem dM_spread_280 : decode cM_spread 280 = .ok (.if_icmp .ge 16, 3) := by decide +kernel
theorem dM_spread_283 : decode cM_spread 283 = .ok (.aload_n 0, 1) := by decide +kernel
theorem dM_spread_284 : decode cM_spread 284 = .ok (.getfield 28, 3) := by decide +kernel
theorem dM_spread_287 : decode cM_spread 287 = .ok (.iload_n 3, 1) := by decide +kernel
theorem dM_spread_288 : decode cM_spread 288 = .ok (.iconst 0, 1) := by decide +kernel
theorem dM_spread_289 : decode cM_spread 289 = .ok (.bastore, 1) := by decide +kernel
theorem dM_spread_290 : decode cM_spread 290 = .ok (.iinc 3 1, 3) := by decide +kernel
theorem dM_spread_293 : decode cM_spread 293 = .ok (.goto (-17), 3) := by decide +kernel
theorem dM_spread_296 : decode cM_spread 296 = .ok (.iload_n 2, 1) := by decide +kernel
theorem dM_spread_297 : decode cM_spread 297 = .ok (.ireturn, 1) := by decide +kernel
theorem dM_told_0 : decode cM_told 0 = .ok (.aload_n 0, 1) := by decide +kernel
theorem dM_told_1 : decode cM_told 1 = .ok (.iconst 0, 1) := by decide +kernel
theorem dM_told_2 : decode cM_told 2 = .ok (.putfield 51, 3) := by decide +kernel
theorem dM_told_5 : decode cM_told 5 = .ok (.aload_n 0, 1) := by decide +kernel
theorem dM_told_6 : decode cM_told 6 = .ok (.iload_n 1, 1) := by decide +kernel
theorem dM_told_7 : decode cM_told 7 = .ok (.iload_n 2, 1) := by decide +kernel
theorem dM_told_8 : decode cM_told 8 = .ok (.iconst 1, 1) := by decide +kernel
theorem dM_told_9 : decode cM_told 9 = .ok (.iconst 1, 1) := by decide +kernel
theorem dM_told_10 : decode cM_told 10 = .ok (.invokevirtual 55, 3) := by decide +kernel
theorem dM_told_13 : decode cM_told 13 = .ok (.ifCond .ne 12, 3) := by decide +kernel
theorem dM_told_16 : decode cM_told 16 = .ok (.iload_n 3, 1) := by decide +kernel
theorem dM_told_17 : decode cM_told 17 = .ok (.ifCond .lt 8, 3) := by decide +kernel
theorem dM_told_20 : decode cM_told 20 = .ok (.iload_n 3, 1) := by decide +kernel
theorem dM_told_21 : decode cM_told 21 = .ok (.iconst 2, 1) := by decide +kernel
theorem dM_told_22 : decode cM_told 22 = .ok (.if_icmp .le 9, 3) := by decide +kernel
theorem dM_told_25 : decode cM_told 25 = .ok (.aload_n 0, 1) := by decide +kernel
theorem dM_told_26 : decode cM_told 26 = .ok (.iconst 1, 1) := by decide +kernel
theorem dM_told_27 : decode cM_told 27 = .ok (.invokevirtual 59, 3) := by decide +kernel
theorem dM_told_30 : decode cM_told 30 = .ok (.ireturn, 1) := by decide +kernel
theorem dM_told_31 : decode cM_told 31 = .ok (.bipush 20, 2) := by decide +kernel
theorem dM_told_33 : decode cM_told 33 = .ok (.iload_n 1, 1) := by decide +kernel
theorem dM_told_34 : decode cM_told 34 = .ok (.imul, 1) := by decide +kernel
theorem dM_told_35 : decode cM_told 35 = .ok (.iload_n 2, 1) := by decide +kernel
theorem dM_told_36 : decode cM_told 36 = .ok (.iadd, 1) := by decide +kernel
theorem dM_told_37 : decode cM_told 37 = .ok (.istore 4, 2) := by decide +kernel
theorem dM_told_39 : decode cM_told 39 = .ok (.aload_n 0, 1) := by decide +kernel
theorem dM_told_40 : decode cM_told 40 = .ok (.getfield 7, 3) := by decide +kernel
theorem dM_told_43 : decode cM_told 43 = .ok (.iload 4, 2) := by decide +kernel
theorem dM_told_45 : decode cM_told 45 = .ok (.baload, 1) := by decide +kernel
theorem dM_told_46 : decode cM_told 46 = .ok (.ifCond .ne 9, 3) := by decide +kernel
theorem dM_told_49 : decode cM_told 49 = .ok (.aload_n 0, 1) := by decide +kernel
theorem dM_told_50 : decode cM_told 50 = .ok (.iconst 2, 1) := by decide +kernel
theorem dM_told_51 : decode cM_told 51 = .ok (.invokevirtual 59, 3) := by decide +kernel
theorem dM_told_54 : decode cM_told 54 = .ok (.ireturn, 1) := by decide +kernel
theorem dM_told_55 : decode cM_told 55 = .ok (.iload_n 3, 1) := by decide +kernel
theorem dM_told_56 : decode cM_told 56 = .ok (.ifCond .ne 21, 3) := by decide +kernel
theorem dM_told_59 : decode cM_told 59 = .ok (.aload_n 0, 1) := by decide +kernel
theorem dM_told_60 : decode cM_told 60 = .ok (.getfield 31, 3) := by decide +kernel
theorem dM_told_63 : decode cM_told 63 = .ok (.iload 4, 2) := by decide +kernel
theorem dM_told_65 : decode cM_told 65 = .ok (.baload, 1) := by decide +kernel
theorem dM_told_66 : decode cM_told 66 = .ok (.ifCond .eq 7, 3) := by decide +kernel
theorem dM_told_69 : decode cM_told 69 = .ok (.iconst 1, 1) := by decide +kernel
theorem dM_told_70 : decode cM_told 70 = .ok (.goto 37, 3) := by decide +kernel
theorem dM_told_73 : decode cM_told 73 = .ok (.iconst 0, 1) := by decide +kernel
theorem dM_told_74 : decode cM_told 74 = .ok (.goto 33, 3) := by decide +kernel
theorem dM_told_77 : decode cM_told 77 = .ok (.iload_n 3, 1) := by decide +kernel
theorem dM_told_78 : decode cM_told 78 = .ok (.iconst 1, 1) := by decide +kernel
theorem dM_told_79 : decode cM_told 79 = .ok (.if_icmp .ne 21, 3) := by decide +kernel
theorem dM_told_82 : decode cM_told 82 = .ok (.aload_n 0, 1) := by decide +kernel
theorem dM_told_83 : decode cM_told 83 = .ok (.getfield 34, 3) := by decide +kernel
theorem dM_told_86 : decode cM_told 86 = .ok (.iload 4, 2) := by decide +kernel
theorem dM_told_88 : decode cM_told 88 = .ok (.baload, 1) := by decide +kernel
theorem dM_told_89 : decode cM_told 89 = .ok (.ifCond .eq 7, 3) := by decide +kernel
theorem dM_told_92 : decode cM_told 92 = .ok (.iconst 1, 1) := by decide +kernel
theorem dM_told_93 : decode cM_told 93 = .ok (.goto 14, 3) := by decide +kernel
theorem dM_told_96 : decode cM_told 96 = .ok (.iconst 0, 1) := by decide +kernel
theorem dM_told_97 : decode cM_told 97 = .ok (.goto 10, 3) := by decide +kernel
theorem dM_told_100 : decode cM_told 100 = .ok (.aload_n 0, 1) := by decide +kernel
theorem dM_told_101 : decode cM_told 101 = .ok (.getfield 37, 3) := by decide +kernel
theorem dM_told_104 : decode cM_told 104 = .ok (.iload 4, 2) := by decide +kernel
theorem dM_told_106 : decode cM_told 106 = .ok (.iaload, 1) := by decide +kernel
theorem dM_told_107 : decode cM_told 107 = .ok (.ireturn, 1) := by decide +kernel
theorem dM_owner2_0 : decode cM_owner2 0 = .ok (.aload_n 0, 1) := by decide +kernel
theorem dM_owner2_1 : decode cM_owner2 1 = .ok (.iconst 0, 1) := by decide +kernel
theorem dM_owner2_2 : decode cM_owner2 2 = .ok (.putfield 51, 3) := by decide +kernel
theorem dM_owner2_5 : decode cM_owner2 5 = .ok (.aload_n 0, 1) := by decide +kernel
theorem dM_owner2_6 : decode cM_owner2 6 = .ok (.iload_n 1, 1) := by decide +kernel
theorem dM_owner2_7 : decode cM_owner2 7 = .ok (.iload_n 2, 1) := by decide +kernel
theorem dM_owner2_8 : decode cM_owner2 8 = .ok (.iconst 1, 1) := by decide +kernel
theorem dM_owner2_9 : decode cM_owner2 9 = .ok (.iconst 1, 1) := by decide +kernel
theorem dM_owner2_10 : decode cM_owner2 10 = .ok (.invokevirtual 55, 3) := by decide +kernel
theorem dM_owner2_13 : decode cM_owner2 13 = .ok (.ifCond .eq 11, 3) := by decide +kernel
theorem dM_owner2_16 : decode cM_owner2 16 = .ok (.aload_n 0, 1) := by decide +kernel
theorem dM_owner2_17 : decode cM_owner2 17 = .ok (.iconst 1, 1) := by decide +kernel
theorem dM_owner2_18 : decode cM_owner2 18 = .ok (.invokevirtual 59, 3) := by decide +kernel
theorem dM_owner2_21 : decode cM_owner2 21 = .ok (.goto 13, 3) := by decide +kernel
theorem dM_owner2_24 : decode cM_owner2 24 = .ok (.aload_n 0, 1) := by decide +kernel
theorem dM_owner2_25 : decode cM_owner2 25 = .ok (.bipush 20, 2) := by decide +kernel
theorem dM_owner2_27 : decode cM_owner2 27 = .ok (.iload_n 1, 1) := by decide +kernel
theorem dM_owner2_28 : decode cM_owner2 28 = .ok (.imul, 1) := by decide +kernel
theorem dM_owner2_29 : decode cM_owner2 29 = .ok (.iload_n 2, 1) := by decide +kernel
theorem dM_owner2_30 : decode cM_owner2 30 = .ok (.iadd, 1) := by decide +kernel
theorem dM_owner2_31 : decode cM_owner2 31 = .ok (.invokevirtual 63, 3) := by decide +kernel
theorem dM_owner2_34 : decode cM_owner2 34 = .ok (.ireturn, 1) := by decide +kernel
