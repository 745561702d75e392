/-! decode rows of the class -/
theorem dH_init_0 : decode cH_init 0 = .ok (.aload_n 0, 1) := by decide +kernel
theorem dH_init_1 : decode cH_init 1 = .ok (.invokespecial 3, 3) := by decide +kernel
theorem dH_init_4 : decode cH_init 4 = .ok (.aload_n 0, 1) := by decide +kernel
theorem dH_init_5 : decode cH_init 5 = .ok (.sipush 400, 3) := by decide +kernel
theorem dH_init_8 : decode cH_init 8 = .ok (.anewarray 9, 3) := by decide +kernel
theorem dH_init_11 : decode cH_init 11 = .ok (.putfield 11, 3) := by decide +kernel
theorem dH_init_14 : decode cH_init 14 = .ok (.aload_n 0, 1) := by decide +kernel
theorem dH_init_15 : decode cH_init 15 = .ok (.bipush 20, 2) := by decide +kernel
theorem dH_init_17 : decode cH_init 17 = .ok (.newarray .int, 2) := by decide +kernel
theorem dH_init_19 : decode cH_init 19 = .ok (.putfield 15, 3) := by decide +kernel
theorem dH_init_22 : decode cH_init 22 = .ok (.aload_n 0, 1) := by decide +kernel
theorem dH_init_23 : decode cH_init 23 = .ok (.new 19, 3) := by decide +kernel
theorem dH_init_26 : decode cH_init 26 = .ok (.dup, 1) := by decide +kernel
theorem dH_init_27 : decode cH_init 27 = .ok (.invokespecial 21, 3) := by decide +kernel
theorem dH_init_30 : decode cH_init 30 = .ok (.putfield 22, 3) := by decide +kernel
theorem dH_init_33 : decode cH_init 33 = .ok (.aload_n 0, 1) := by decide +kernel
theorem dH_init_34 : decode cH_init 34 = .ok (.iconst 0, 1) := by decide +kernel
theorem dH_init_35 : decode cH_init 35 = .ok (.putfield 26, 3) := by decide +kernel
theorem dH_init_38 : decode cH_init 38 = .ok (.return_, 1) := by decide +kernel
theorem dH_put_0 : decode cH_put 0 = .ok (.iload_n 1, 1) := by decide +kernel
theorem dH_put_1 : decode cH_put 1 = .ok (.iload_n 2, 1) := by decide +kernel
theorem dH_put_2 : decode cH_put 2 = .ok (.invokestatic 30, 3) := by decide +kernel
theorem dH_put_5 : decode cH_put 5 = .ok (.iload_n 1, 1) := by decide +kernel
theorem dH_put_6 : decode cH_put 6 = .ok (.iload_n 3, 1) := by decide +kernel
theorem dH_put_7 : decode cH_put 7 = .ok (.invokestatic 34, 3) := by decide +kernel
theorem dH_put_10 : decode cH_put 10 = .ok (.iload_n 2, 1) := by decide +kernel
theorem dH_put_11 : decode cH_put 11 = .ok (.iload 4, 2) := by decide +kernel
theorem dH_put_13 : decode cH_put 13 = .ok (.invokestatic 34, 3) := by decide +kernel
theorem dH_put_16 : decode cH_put 16 = .ok (.iload_n 1, 1) := by decide +kernel
theorem dH_put_17 : decode cH_put 17 = .ok (.iload_n 3, 1) := by decide +kernel
theorem dH_put_18 : decode cH_put 18 = .ok (.iadd, 1) := by decide +kernel
theorem dH_put_19 : decode cH_put 19 = .ok (.iconst 1, 1) := by decide +kernel
theorem dH_put_20 : decode cH_put 20 = .ok (.isub, 1) := by decide +kernel
theorem dH_put_21 : decode cH_put 21 = .ok (.istore 5, 2) := by decide +kernel
theorem dH_put_23 : decode cH_put 23 = .ok (.iload_n 2, 1) := by decide +kernel
theorem dH_put_24 : decode cH_put 24 = .ok (.iload 4, 2) := by decide +kernel
theorem dH_put_26 : decode cH_put 26 = .ok (.iadd, 1) := by decide +kernel
theorem dH_put_27 : decode cH_put 27 = .ok (.iconst 1, 1) := by decide +kernel
theorem dH_put_28 : decode cH_put 28 = .ok (.isub, 1) := by decide +kernel
theorem dH_put_29 : decode cH_put 29 = .ok (.istore 6, 2) := by decide +kernel
theorem dH_put_31 : decode cH_put 31 = .ok (.aload_n 0, 1) := by decide +kernel
theorem dH_put_32 : decode cH_put 32 = .ok (.iload_n 1, 1) := by decide +kernel
theorem dH_put_33 : decode cH_put 33 = .ok (.iload_n 2, 1) := by decide +kernel
theorem dH_put_34 : decode cH_put 34 = .ok (.iload 5, 2) := by decide +kernel
theorem dH_put_36 : decode cH_put 36 = .ok (.iload 6, 2) := by decide +kernel
theorem dH_put_38 : decode cH_put 38 = .ok (.invokevirtual 37, 3) := by decide +kernel
theorem dH_put_41 : decode cH_put 41 = .ok (.new 9, 3) := by decide +kernel
theorem dH_put_44 : decode cH_put 44 = .ok (.dup, 1) := by decide +kernel
theorem dH_put_45 : decode cH_put 45 = .ok (.iload_n 1, 1) := by decide +kernel
theorem dH_put_46 : decode cH_put 46 = .ok (.iload_n 2, 1) := by decide +kernel
theorem dH_put_47 : decode cH_put 47 = .ok (.iload 5, 2) := by decide +kernel
theorem dH_put_49 : decode cH_put 49 = .ok (.iload 6, 2) := by decide +kernel
theorem dH_put_51 : decode cH_put 51 = .ok (.invokespecial 41, 3) := by decide +kernel
theorem dH_put_54 : decode cH_put 54 = .ok (.astore 7, 2) := by decide +kernel
theorem dH_put_56 : decode cH_put 56 = .ok (.aload_n 0, 1) := by decide +kernel
theorem dH_put_57 : decode cH_put 57 = .ok (.aload 7, 2) := by decide +kernel
theorem dH_put_59 : decode cH_put 59 = .ok (.aload 7, 2) := by decide +kernel
theorem dH_put_61 : decode cH_put 61 = .ok (.invokevirtual 43, 3) := by decide +kernel
theorem dH_put_64 : decode cH_put 64 = .ok (.aload_n 0, 1) := by decide +kernel
theorem dH_put_65 : decode cH_put 65 = .ok (.dup, 1) := by decide +kernel
theorem dH_put_66 : decode cH_put 66 = .ok (.getfield 26, 3) := by decide +kernel
theorem dH_put_69 : decode cH_put 69 = .ok (.iconst 1, 1) := by decide +kernel
theorem dH_put_70 : decode cH_put 70 = .ok (.iadd, 1) := by decide +kernel
theorem dH_put_71 : decode cH_put 71 = .ok (.putfield 26, 3) := by decide +kernel
theorem dH_put_74 : decode cH_put 74 = .ok (.aload_n 0, 1) := by decide +kernel
theorem dH_put_75 : decode cH_put 75 = .ok (.getfield 26, 3) := by decide +kernel
theorem dH_put_78 : decode cH_put 78 = .ok (.ireturn, 1) := by decide +kernel
theorem dH_out_0 : decode cH_out 0 = .ok (.iload_n 1, 1) := by decide +kernel
theorem dH_out_1 : decode cH_out 1 = .ok (.iload_n 2, 1) := by decide +kernel
theorem dH_out_2 : decode cH_out 2 = .ok (.invokestatic 30, 3) := by decide +kernel
theorem dH_out_5 : decode cH_out 5 = .ok (.aload_n 0, 1) := by decide +kernel
theorem dH_out_6 : decode cH_out 6 = .ok (.iload_n 1, 1) := by decide +kernel
theorem dH_out_7 : decode cH_out 7 = .ok (.iload_n 2, 1) := by decide +kernel
theorem dH_out_8 : decode cH_out 8 = .ok (.invokevirtual 47, 3) := by decide +kernel
theorem dH_out_11 : decode cH_out 11 = .ok (.astore_n 3, 1) := by decide +kernel
theorem dH_out_12 : decode cH_out 12 = .ok (.aload_n 0, 1) := by decide +kernel
theorem dH_out_13 : decode cH_out 13 = .ok (.aload_n 3, 1) := by decide +kernel
theorem dH_out_14 : decode cH_out 14 = .ok (.aconst_null, 1) := by decide +kernel
theorem dH_out_15 : decode cH_out 15 = .ok (.invokevirtual 43, 3) := by decide +kernel
theorem dH_out_18 : decode cH_out 18 = .ok (.aload_n 0, 1) := by decide +kernel
theorem dH_out_19 : decode cH_out 19 = .ok (.dup, 1) := by decide +kernel
theorem dH_out_20 : decode cH_out 20 = .ok (.getfield 26, 3) := by decide +kernel
theorem dH_out_23 : decode cH_out 23 = .ok (.iconst 1, 1) := by decide +kernel
theorem dH_out_24 : decode cH_out 24 = .ok (.isub, 1) := by decide +kernel
theorem dH_out_25 : decode cH_out 25 = .ok (.putfield 26, 3) := by decide +kernel
theorem dH_out_28 : decode cH_out 28 = .ok (.aload_n 0, 1) := by decide +kernel
theorem dH_out_29 : decode cH_out 29 = .ok (.getfield 26, 3) := by decide +kernel
theorem dH_out_32 : decode cH_out 32 = .ok (.ireturn, 1) := by decide +kernel
theorem dH_speak_0 : decode cH_speak 0 = .ok (.iload_n 1, 1) := by decide +kernel
theorem dH_speak_1 : decode cH_speak 1 = .ok (.iload_n 2, 1) := by decide +kernel
theorem dH_speak_2 : decode cH_speak 2 = .ok (.invokestatic 30, 3) := by decide +kernel
theorem dH_speak_5 : decode cH_speak 5 = .ok (.iload_n 3, 1) := by decide +kernel
theorem dH_speak_6 : decode cH_speak 6 = .ok (.iload 5, 2) := by decide +kernel
theorem dH_speak_8 : decode cH_speak 8 = .ok (.invokestatic 51, 3) := by decide +kernel
theorem dH_speak_11 : decode cH_speak 11 = .ok (.iload 4, 2) := by decide +kernel
theorem dH_speak_13 : decode cH_speak 13 = .ok (.iload 6, 2) := by decide +kernel
theorem dH_speak_15 : decode cH_speak 15 = .ok (.invokestatic 51, 3) := by decide +kernel
theorem dH_speak_18 : decode cH_speak 18 = .ok (.aload_n 0, 1) := by decide +kernel
theorem dH_speak_19 : decode cH_speak 19 = .ok (.iload_n 1, 1) := by decide +kernel
theorem dH_speak_20 : decode cH_speak 20 = .ok (.iload_n 2, 1) := by decide +kernel
theorem dH_speak_21 : decode cH_speak 21 = .ok (.invokevirtual 47, 3) := by decide +kernel
theorem dH_speak_24 : decode cH_speak 24 = .ok (.astore 7, 2) := by decide +kernel
theorem dH_speak_26 : decode cH_speak 26 = .ok (.aload 7, 2) := by decide +kernel
theorem dH_speak_28 : decode cH_speak 28 = .ok (.getfield 54, 3) := by decide +kernel
theorem dH_speak_31 : decode cH_speak 31 = .ok (.bipush 20, 2) := by decide +kernel
theorem dH_speak_33 : decode cH_speak 33 = .ok (.if_icmp .lt 13, 3) := by decide +kernel
theorem dH_speak_36 : decode cH_speak 36 = .ok (.new 57, 3) := by decide +kernel
theorem dH_speak_39 : decode cH_speak 39 = .ok (.dup, 1) := by decide +kernel
theorem dH_speak_40 : decode cH_speak 40 = .ok (.ldc 59, 2) := by decide +kernel
theorem dH_speak_42 : decode cH_speak 42 = .ok (.invokespecial 61, 3) := by decide +kernel
theorem dH_speak_45 : decode cH_speak 45 = .ok (.athrow, 1) := by decide +kernel
theorem dH_speak_46 : decode cH_speak 46 = .ok (.aload 7, 2) := by decide +kernel
theorem dH_speak_48 : decode cH_speak 48 = .ok (.iload_n 3, 1) := by decide +kernel
theorem dH_speak_49 : decode cH_speak 49 = .ok (.iload 4, 2) := by decide +kernel
theorem dH_speak_51 : decode cH_speak 51 = .ok (.iload 5, 2) := by decide +kernel
theorem dH_speak_53 : decode cH_speak 53 = .ok (.iload 6, 2) := by decide +kernel
theorem dH_speak_55 : decode cH_speak 55 = .ok (.invokevirtual 64, 3) := by decide +kernel
theorem dH_speak_58 : decode cH_speak 58 = .ok (.aload 7, 2) := by decide +kernel
theorem dH_speak_60 : decode cH_speak 60 = .ok (.getfield 54, 3) := by decide +kernel
theorem dH_speak_63 : decode cH_speak 63 = .ok (.ireturn, 1) := by decide +kernel
theorem dH_touch_0 : decode cH_touch 0 = .ok (.iload_n 1, 1) := by decide +kernel
theorem dH_touch_1 : decode cH_touch 1 = .ok (.iload_n 2, 1) := by decide +kernel
theorem dH_touch_2 : decode cH_touch 2 = .ok (.invokestatic 30, 3) := by decide +kernel
theorem dH_touch_5 : decode cH_touch 5 = .ok (.aload_n 0, 1) := by decide +kernel
theorem dH_touch_6 : decode cH_touch 6 = .ok (.getfield 15, 3) := by decide +kernel
theorem dH_touch_9 : decode cH_touch 9 = .ok (.iload_n 1, 1) := by decide +kernel
theorem dH_touch_10 : decode cH_touch 10 = .ok (.dup2, 1) := by decide +kernel
theorem dH_touch_11 : decode cH_touch 11 = .ok (.iaload, 1) := by decide +kernel
theorem dH_touch_12 : decode cH_touch 12 = .ok (.iload_n 2, 1) := by decide +kernel
theorem dH_touch_13 : decode cH_touch 13 = .ok (.iload_n 2, 1) := by decide +kernel
theorem dH_touch_14 : decode cH_touch 14 = .ok (.invokestatic 67, 3) := by decide +kernel
theorem dH_touch_17 : decode cH_touch 17 = .ok (.ior, 1) := by decide +kernel
theorem dH_touch_18 : decode cH_touch 18 = .ok (.iastore, 1) := by decide +kernel
theorem dH_touch_19 : decode cH_touch 19 = .ok (.return_, 1) := by decide +kernel
theorem dH_spread_0 : decode cH_spread 0 = .ok (.aload_n 0, 1) := by decide +kernel
theorem dH_spread_1 : decode cH_spread 1 = .ok (.getfield 22, 3) := by decide +kernel
theorem dH_spread_4 : decode cH_spread 4 = .ok (.aload_n 0, 1) := by decide +kernel
theorem dH_spread_5 : decode cH_spread 5 = .ok (.getfield 11, 3) := by decide +kernel
theorem dH_spread_8 : decode cH_spread 8 = .ok (.invokevirtual 71, 3) := by decide +kernel
theorem dH_spread_11 : decode cH_spread 11 = .ok (.aload_n 0, 1) := by decide +kernel
theorem dH_spread_12 : decode cH_spread 12 = .ok (.getfield 22, 3) := by decide +kernel
theorem dH_spread_15 : decode cH_spread 15 = .ok (.aload_n 0, 1) := by decide +kernel
theorem dH_spread_16 : decode cH_spread 16 = .ok (.getfield 15, 3) := by decide +kernel
theorem dH_spread_19 : decode cH_spread 19 = .ok (.invokevirtual 75, 3) := by decide +kernel
theorem dH_spread_22 : decode cH_spread 22 = .ok (.aload_n 0, 1) := by decide +kernel
theorem dH_spread_23 : decode cH_spread 23 = .ok (.getfield 22, 3) := by decide +kernel
theorem dH_spread_26 : decode cH_spread 26 = .ok (.invokevirtual 79, 3) := by decide +kernel
theorem dH_spread_29 : decode cH_spread 29 = .ok (.aload_n 0, 1) := by decide +kernel
theorem dH_spread_30 : decode cH_spread 30 = .ok (.getfield 15, 3) := by decide +kernel
theorem dH_spread_33 : decode cH_spread 33 = .ok (.iconst 0, 1) := by decide +kernel
theorem dH_spread_34 : decode cH_spread 34 = .ok (.invokestatic 82, 3) := by decide +kernel
theorem dH_spread_37 : decode cH_spread 37 = .ok (.aload_n 0, 1) := by decide +kernel
theorem dH_spread_38 : decode cH_spread 38 = .ok (.getfield 22, 3) := by decide +kernel
theorem dH_spread_41 : decode cH_spread 41 = .ok (.getfield 88, 3) := by decide +kernel
theorem dH_spread_44 : decode cH_spread 44 = .ok (.ireturn, 1) := by decide +kernel
theorem dH_told_0 : decode cH_told 0 = .ok (.iload_n 1, 1) := by decide +kernel
theorem dH_told_1 : decode cH_told 1 = .ok (.iload_n 2, 1) := by decide +kernel
theorem dH_told_2 : decode cH_told 2 = .ok (.invokestatic 30, 3) := by decide +kernel
theorem dH_told_5 : decode cH_told 5 = .ok (.iload_n 3, 1) := by decide +kernel
theorem dH_told_6 : decode cH_told 6 = .ok (.ifCond .lt 8, 3) := by decide +kernel
theorem dH_told_9 : decode cH_told 9 = .ok (.iload_n 3, 1) := by decide +kernel
theorem dH_told_10 : decode cH_told 10 = .ok (.iconst 2, 1) := by decide +kernel
theorem dH_told_11 : decode cH_told 11 = .ok (.if_icmp .le 13, 3) := by decide +kernel
theorem dH_told_14 : decode cH_told 14 = .ok (.new 91, 3) := by decide +kernel
theorem dH_told_17 : decode cH_told 17 = .ok (.dup, 1) := by decide +kernel
theorem dH_told_18 : decode cH_told 18 = .ok (.ldc 93, 2) := by decide +kernel
theorem dH_told_20 : decode cH_told 20 = .ok (.invokespecial 95, 3) := by decide +kernel
theorem dH_told_23 : decode cH_told 23 = .ok (.athrow, 1) := by decide +kernel
theorem dH_told_24 : decode cH_told 24 = .ok (.aload_n 0, 1) := by decide +kernel
theorem dH_told_25 : decode cH_told 25 = .ok (.iload_n 1, 1) := by decide +kernel
theorem dH_told_26 : decode cH_told 26 = .ok (.iload_n 2, 1) := by decide +kernel
theorem dH_told_27 : decode cH_told 27 = .ok (.invokevirtual 47, 3) := by decide +kernel
theorem dH_told_30 : decode cH_told 30 = .ok (.astore 4, 2) := by decide +kernel
theorem dH_told_32 : decode cH_told 32 = .ok (.iload_n 3, 1) := by decide +kernel
theorem dH_told_33 : decode cH_told 33 = .ok (.ifCond .ne 17, 3) := by decide +kernel
theorem dH_told_36 : decode cH_told 36 = .ok (.aload 4, 2) := by decide +kernel
theorem dH_told_38 : decode cH_told 38 = .ok (.getfield 96, 3) := by decide +kernel
theorem dH_told_41 : decode cH_told 41 = .ok (.ifCond .eq 7, 3) := by decide +kernel
theorem dH_told_44 : decode cH_told 44 = .ok (.iconst 1, 1) := by decide +kernel
theorem dH_told_45 : decode cH_told 45 = .ok (.goto 4, 3) := by decide +kernel
theorem dH_told_48 : decode cH_told 48 = .ok (.iconst 0, 1) := by decide +kernel
theorem dH_told_49 : decode cH_told 49 = .ok (.ireturn, 1) := by decide +kernel
theorem dH_told_50 : decode cH_told 50 = .ok (.iload_n 3, 1) := by decide +kernel
theorem dH_told_51 : decode cH_told 51 = .ok (.iconst 1, 1) := by decide +kernel
theorem dH_told_52 : decode cH_told 52 = .ok (.if_icmp .ne 17, 3) := by decide +kernel
theorem dH_told_55 : decode cH_told 55 = .ok (.aload 4, 2) := by decide +kernel
theorem dH_told_57 : decode cH_told 57 = .ok (.getfield 100, 3) := by decide +kernel
theorem dH_told_60 : decode cH_told 60 = .ok (.ifCond .eq 7, 3) := by decide +kernel
theorem dH_told_63 : decode cH_told 63 = .ok (.iconst 1, 1) := by decide +kernel
theorem dH_told_64 : decode cH_told 64 = .ok (.goto 4, 3) := by decide +kernel
theorem dH_told_67 : decode cH_told 67 = .ok (.iconst 0, 1) := by decide +kernel
theorem dH_told_68 : decode cH_told 68 = .ok (.ireturn, 1) := by decide +kernel
theorem dH_told_69 : decode cH_told 69 = .ok (.aload 4, 2) := by decide +kernel
theorem dH_told_71 : decode cH_told 71 = .ok (.getfield 103, 3) := by decide +kernel
theorem dH_told_74 : decode cH_told 74 = .ok (.ireturn, 1) := by decide +kernel
theorem dH_owner_0 : decode cH_owner 0 = .ok (.iload_n 1, 1) := by decide +kernel
theorem dH_owner_1 : decode cH_owner 1 = .ok (.iload_n 2, 1) := by decide +kernel
theorem dH_owner_2 : decode cH_owner 2 = .ok (.invokestatic 30, 3) := by decide +kernel
theorem dH_owner_5 : decode cH_owner 5 = .ok (.aload_n 0, 1) := by decide +kernel
theorem dH_owner_6 : decode cH_owner 6 = .ok (.getfield 11, 3) := by decide +kernel
theorem dH_owner_9 : decode cH_owner 9 = .ok (.iload_n 1, 1) := by decide +kernel
theorem dH_owner_10 : decode cH_owner 10 = .ok (.iload_n 2, 1) := by decide +kernel
theorem dH_owner_11 : decode cH_owner 11 = .ok (.invokestatic 106, 3) := by decide +kernel
theorem dH_owner_14 : decode cH_owner 14 = .ok (.aaload, 1) := by decide +kernel
theorem dH_owner_15 : decode cH_owner 15 = .ok (.astore_n 3, 1) := by decide +kernel
theorem dH_owner_16 : decode cH_owner 16 = .ok (.aload_n 3, 1) := by decide +kernel
theorem dH_owner_17 : decode cH_owner 17 = .ok (.ifnonnull 7, 3) := by decide +kernel
theorem dH_owner_20 : decode cH_owner 20 = .ok (.iconst (-1), 1) := by decide +kernel
theorem dH_owner_21 : decode cH_owner 21 = .ok (.goto 7, 3) := by decide +kernel
theorem dH_owner_24 : decode cH_owner 24 = .ok (.aload_n 3, 1) := by decide +kernel
theorem dH_owner_25 : decode cH_owner 25 = .ok (.getfield 109, 3) := by decide +kernel
theorem dH_owner_28 : decode cH_owner 28 = .ok (.ireturn, 1) := by decide +kernel
theorem dH_cellAt_0 : decode cH_cellAt 0 = .ok (.bipush 20, 2) := by decide +kernel
theorem dH_cellAt_2 : decode cH_cellAt 2 = .ok (.iload_n 0, 1) := by decide +kernel
theorem dH_cellAt_3 : decode cH_cellAt 3 = .ok (.imul, 1) := by decide +kernel
theorem dH_cellAt_4 : decode cH_cellAt 4 = .ok (.iload_n 1, 1) := by decide +kernel
theorem dH_cellAt_5 : decode cH_cellAt 5 = .ok (.iadd, 1) := by decide +kernel
theorem dH_cellAt_6 : decode cH_cellAt 6 = .ok (.ireturn, 1) := by decide +kernel
theorem dH_columnBits_0 : decode cH_columnBits 0 = .ok (.iconst 1, 1) := by decide +kernel
theorem dH_columnBits_1 : decode cH_columnBits 1 = .ok (.iload_n 1, 1) := by decide +kernel
theorem dH_columnBits_2 : decode cH_columnBits 2 = .ok (.iload_n 0, 1) := by decide +kernel
theorem dH_columnBits_3 : decode cH_columnBits 3 = .ok (.isub, 1) := by decide +kernel
theorem dH_columnBits_4 : decode cH_columnBits 4 = .ok (.iconst 1, 1) := by decide +kernel
theorem dH_columnBits_5 : decode cH_columnBits 5 = .ok (.iadd, 1) := by decide +kernel
theorem dH_columnBits_6 : decode cH_columnBits 6 = .ok (.ishl, 1) := by decide +kernel
theorem dH_columnBits_7 : decode cH_columnBits 7 = .ok (.iconst 1, 1) := by decide +kernel
theorem dH_columnBits_8 : decode cH_columnBits 8 = .ok (.isub, 1) := by decide +kernel
theorem dH_columnBits_9 : decode cH_columnBits 9 = .ok (.iload_n 0, 1) := by decide +kernel
theorem dH_columnBits_10 : decode cH_columnBits 10 = .ok (.ishl, 1) := by decide +kernel
theorem dH_columnBits_11 : decode cH_columnBits 11 = .ok (.ireturn, 1) := by decide +kernel
theorem dH_requireCell_0 : decode cH_requireCell 0 = .ok (.iload_n 0, 1) := by decide +kernel
theorem dH_requireCell_1 : decode cH_requireCell 1 = .ok (.ifCond .lt 19, 3) := by decide +kernel
theorem dH_requireCell_4 : decode cH_requireCell 4 = .ok (.iload_n 0, 1) := by decide +kernel
theorem dH_requireCell_5 : decode cH_requireCell 5 = .ok (.bipush 20, 2) := by decide +kernel
theorem dH_requireCell_7 : decode cH_requireCell 7 = .ok (.if_icmp .ge 13, 3) := by decide +kernel
theorem dH_requireCell_10 : decode cH_requireCell 10 = .ok (.iload_n 1, 1) := by decide +kernel
theorem dH_requireCell_11 : decode cH_requireCell 11 = .ok (.ifCond .lt 9, 3) := by decide +kernel
theorem dH_requireCell_14 : decode cH_requireCell 14 = .ok (.iload_n 1, 1) := by decide +kernel
theorem dH_requireCell_15 : decode cH_requireCell 15 = .ok (.bipush 20, 2) := by decide +kernel
theorem dH_requireCell_17 : decode cH_requireCell 17 = .ok (.if_icmp .lt 13, 3) := by decide +kernel
theorem dH_requireCell_20 : decode cH_requireCell 20 = .ok (.new 91, 3) := by decide +kernel
theorem dH_requireCell_23 : decode cH_requireCell 23 = .ok (.dup, 1) := by decide +kernel
theorem dH_requireCell_24 : decode cH_requireCell 24 = .ok (.ldc 112, 2) := by decide +kernel
theorem dH_requireCell_26 : decode cH_requireCell 26 = .ok (.invokespecial 95, 3) := by decide +kernel
theorem dH_requireCell_29 : decode cH_requireCell 29 = .ok (.athrow, 1) := by decide +kernel
theorem dH_requireCell_30 : decode cH_requireCell 30 = .ok (.return_, 1) := by decide +kernel
theorem dH_requireFits_0 : decode cH_requireFits 0 = .ok (.iload_n 1, 1) := by decide +kernel
theorem dH_requireFits_1 : decode cH_requireFits 1 = .ok (.iconst 1, 1) := by decide +kernel
theorem dH_requireFits_2 : decode cH_requireFits 2 = .ok (.if_icmp .lt 11, 3) := by decide +kernel
theorem dH_requireFits_5 : decode cH_requireFits 5 = .ok (.iload_n 1, 1) := by decide +kernel
theorem dH_requireFits_6 : decode cH_requireFits 6 = .ok (.bipush 20, 2) := by decide +kernel
theorem dH_requireFits_8 : decode cH_requireFits 8 = .ok (.iload_n 0, 1) := by decide +kernel
theorem dH_requireFits_9 : decode cH_requireFits 9 = .ok (.isub, 1) := by decide +kernel
theorem dH_requireFits_10 : decode cH_requireFits 10 = .ok (.if_icmp .le 13, 3) := by decide +kernel
theorem dH_requireFits_13 : decode cH_requireFits 13 = .ok (.new 91, 3) := by decide +kernel
theorem dH_requireFits_16 : decode cH_requireFits 16 = .ok (.dup, 1) := by decide +kernel
theorem dH_requireFits_17 : decode cH_requireFits 17 = .ok (.ldc 114, 2) := by decide +kernel
theorem dH_requireFits_19 : decode cH_requireFits 19 = .ok (.invokespecial 95, 3) := by decide +kernel
theorem dH_requireFits_22 : decode cH_requireFits 22 = .ok (.athrow, 1) := by decide +kernel
theorem dH_requireFits_23 : decode cH_requireFits 23 = .ok (.return_, 1) := by decide +kernel
theorem dH_requireSpan_0 : decode cH_requireSpan 0 = .ok (.iload_n 0, 1) := by decide +kernel
theorem dH_requireSpan_1 : decode cH_requireSpan 1 = .ok (.ifCond .lt 14, 3) := by decide +kernel
theorem dH_requireSpan_4 : decode cH_requireSpan 4 = .ok (.iload_n 0, 1) := by decide +kernel
theorem dH_requireSpan_5 : decode cH_requireSpan 5 = .ok (.iload_n 1, 1) := by decide +kernel
theorem dH_requireSpan_6 : decode cH_requireSpan 6 = .ok (.if_icmp .gt 9, 3) := by decide +kernel
theorem dH_requireSpan_9 : decode cH_requireSpan 9 = .ok (.iload_n 1, 1) := by decide +kernel
theorem dH_requireSpan_10 : decode cH_requireSpan 10 = .ok (.bipush 20, 2) := by decide +kernel
theorem dH_requireSpan_12 : decode cH_requireSpan 12 = .ok (.if_icmp .lt 13, 3) := by decide +kernel
theorem dH_requireSpan_15 : decode cH_requireSpan 15 = .ok (.new 91, 3) := by decide +kernel
theorem dH_requireSpan_18 : decode cH_requireSpan 18 = .ok (.dup, 1) := by decide +kernel
theorem dH_requireSpan_19 : decode cH_requireSpan 19 = .ok (.ldc 116, 2) := by decide +kernel
theorem dH_requireSpan_21 : decode cH_requireSpan 21 = .ok (.invokespecial 95, 3) := by decide +kernel
theorem dH_requireSpan_24 : decode cH_requireSpan 24 = .ok (.athrow, 1) := by decide +kernel
theorem dH_requireSpan_25 : decode cH_requireSpan 25 = .ok (.return_, 1) := by decide +kernel
theorem dH_requireFree_0 : decode cH_requireFree 0 = .ok (.iload_n 1, 1) := by decide +kernel
theorem dH_requireFree_1 : decode cH_requireFree 1 = .ok (.istore 5, 2) := by decide +kernel
theorem dH_requireFree_3 : decode cH_requireFree 3 = .ok (.iload 5, 2) := by decide +kernel
theorem dH_requireFree_5 : decode cH_requireFree 5 = .ok (.iload_n 3, 1) := by decide +kernel
theorem dH_requireFree_6 : decode cH_requireFree 6 = .ok (.if_icmp .gt 50, 3) := by decide +kernel
theorem dH_requireFree_9 : decode cH_requireFree 9 = .ok (.iload_n 2, 1) := by decide +kernel
theorem dH_requireFree_10 : decode cH_requireFree 10 = .ok (.istore 6, 2) := by decide +kernel
theorem dH_requireFree_12 : decode cH_requireFree 12 = .ok (.iload 6, 2) := by decide +kernel
theorem dH_requireFree_14 : decode cH_requireFree 14 = .ok (.iload 4, 2) := by decide +kernel
theorem dH_requireFree_16 : decode cH_requireFree 16 = .ok (.if_icmp .gt 34, 3) := by decide +kernel
theorem dH_requireFree_19 : decode cH_requireFree 19 = .ok (.aload_n 0, 1) := by decide +kernel
theorem dH_requireFree_20 : decode cH_requireFree 20 = .ok (.getfield 11, 3) := by decide +kernel
theorem dH_requireFree_23 : decode cH_requireFree 23 = .ok (.iload 5, 2) := by decide +kernel
theorem dH_requireFree_25 : decode cH_requireFree 25 = .ok (.iload 6, 2) := by decide +kernel
theorem dH_requireFree_27 : decode cH_requireFree 27 = .ok (.invokestatic 106, 3) := by decide +kernel
theorem dH_requireFree_30 : decode cH_requireFree 30 = .ok (.aaload, 1) := by decide +kernel
theorem dH_requireFree_31 : decode cH_requireFree 31 = .ok (.ifnull 13, 3) := by decide +kernel
theorem dH_requireFree_34 : decode cH_requireFree 34 = .ok (.new 118, 3) := by decide +kernel
theorem dH_requireFree_37 : decode cH_requireFree 37 = .ok (.dup, 1) := by decide +kernel
theorem dH_requireFree_38 : decode cH_requireFree 38 = .ok (.ldc 120, 2) := by decide +kernel
theorem dH_requireFree_40 : decode cH_requireFree 40 = .ok (.invokespecial 122, 3) := by decide +kernel
theorem dH_requireFree_43 : decode cH_requireFree 43 = .ok (.athrow, 1) := by decide +kernel
theorem dH_requireFree_44 : decode cH_requireFree 44 = .ok (.iinc 6 1, 3) := by decide +kernel
theorem dH_requireFree_47 : decode cH_requireFree 47 = .ok (.goto (-35), 3) := by decide +kernel
theorem dH_requireFree_50 : decode cH_requireFree 50 = .ok (.iinc 5 1, 3) := by decide +kernel
theorem dH_requireFree_53 : decode cH_requireFree 53 = .ok (.goto (-50), 3) := by decide +kernel
theorem dH_requireFree_56 : decode cH_requireFree 56 = .ok (.return_, 1) := by decide +kernel
theorem dH_formulaNamed_0 : decode cH_formulaNamed 0 = .ok (.iload_n 1, 1) := by decide +kernel
theorem dH_formulaNamed_1 : decode cH_formulaNamed 1 = .ok (.iload_n 2, 1) := by decide +kernel
theorem dH_formulaNamed_2 : decode cH_formulaNamed 2 = .ok (.invokestatic 106, 3) := by decide +kernel
theorem dH_formulaNamed_5 : decode cH_formulaNamed 5 = .ok (.istore_n 3, 1) := by decide +kernel
theorem dH_formulaNamed_6 : decode cH_formulaNamed 6 = .ok (.aload_n 0, 1) := by decide +kernel
theorem dH_formulaNamed_7 : decode cH_formulaNamed 7 = .ok (.getfield 11, 3) := by decide +kernel
theorem dH_formulaNamed_10 : decode cH_formulaNamed 10 = .ok (.iload_n 3, 1) := by decide +kernel
theorem dH_formulaNamed_11 : decode cH_formulaNamed 11 = .ok (.aaload, 1) := by decide +kernel
theorem dH_formulaNamed_12 : decode cH_formulaNamed 12 = .ok (.astore 4, 2) := by decide +kernel
theorem dH_formulaNamed_14 : decode cH_formulaNamed 14 = .ok (.aload 4, 2) := by decide +kernel
theorem dH_formulaNamed_16 : decode cH_formulaNamed 16 = .ok (.ifnull 12, 3) := by decide +kernel
theorem dH_formulaNamed_19 : decode cH_formulaNamed 19 = .ok (.aload 4, 2) := by decide +kernel
theorem dH_formulaNamed_21 : decode cH_formulaNamed 21 = .ok (.getfield 109, 3) := by decide +kernel
theorem dH_formulaNamed_24 : decode cH_formulaNamed 24 = .ok (.iload_n 3, 1) := by decide +kernel
theorem dH_formulaNamed_25 : decode cH_formulaNamed 25 = .ok (.if_icmp .eq 13, 3) := by decide +kernel
theorem dH_formulaNamed_28 : decode cH_formulaNamed 28 = .ok (.new 123, 3) := by decide +kernel
theorem dH_formulaNamed_31 : decode cH_formulaNamed 31 = .ok (.dup, 1) := by decide +kernel
theorem dH_formulaNamed_32 : decode cH_formulaNamed 32 = .ok (.ldc 125, 2) := by decide +kernel
theorem dH_formulaNamed_34 : decode cH_formulaNamed 34 = .ok (.invokespecial 127, 3) := by decide +kernel
theorem dH_formulaNamed_37 : decode cH_formulaNamed 37 = .ok (.athrow, 1) := by decide +kernel
theorem dH_formulaNamed_38 : decode cH_formulaNamed 38 = .ok (.aload 4, 2) := by decide +kernel
theorem dH_formulaNamed_40 : decode cH_formulaNamed 40 = .ok (.areturn, 1) := by decide +kernel
theorem dH_cover_0 : decode cH_cover 0 = .ok (.aload_n 1, 1) := by decide +kernel
theorem dH_cover_1 : decode cH_cover 1 = .ok (.getfield 128, 3) := by decide +kernel
theorem dH_cover_4 : decode cH_cover 4 = .ok (.istore_n 3, 1) := by decide +kernel
theorem dH_cover_5 : decode cH_cover 5 = .ok (.iload_n 3, 1) := by decide +kernel
theorem dH_cover_6 : decode cH_cover 6 = .ok (.aload_n 1, 1) := by decide +kernel
theorem dH_cover_7 : decode cH_cover 7 = .ok (.getfield 131, 3) := by decide +kernel
theorem dH_cover_10 : decode cH_cover 10 = .ok (.if_icmp .gt 42, 3) := by decide +kernel
theorem dH_cover_13 : decode cH_cover 13 = .ok (.aload_n 1, 1) := by decide +kernel
theorem dH_cover_14 : decode cH_cover 14 = .ok (.getfield 134, 3) := by decide +kernel
theorem dH_cover_17 : decode cH_cover 17 = .ok (.istore 4, 2) := by decide +kernel
theorem dH_cover_19 : decode cH_cover 19 = .ok (.iload 4, 2) := by decide +kernel
theorem dH_cover_21 : decode cH_cover 21 = .ok (.aload_n 1, 1) := by decide +kernel
theorem dH_cover_22 : decode cH_cover 22 = .ok (.getfield 137, 3) := by decide +kernel
theorem dH_cover_25 : decode cH_cover 25 = .ok (.if_icmp .gt 21, 3) := by decide +kernel
theorem dH_cover_28 : decode cH_cover 28 = .ok (.aload_n 0, 1) := by decide +kernel
theorem dH_cover_29 : decode cH_cover 29 = .ok (.getfield 11, 3) := by decide +kernel
theorem dH_cover_32 : decode cH_cover 32 = .ok (.iload_n 3, 1) := by decide +kernel
theorem dH_cover_33 : decode cH_cover 33 = .ok (.iload 4, 2) := by decide +kernel
theorem dH_cover_35 : decode cH_cover 35 = .ok (.invokestatic 106, 3) := by decide +kernel
theorem dH_cover_38 : decode cH_cover 38 = .ok (.aload_n 2, 1) := by decide +kernel
theorem dH_cover_39 : decode cH_cover 39 = .ok (.aastore, 1) := by decide +kernel
theorem dH_cover_40 : decode cH_cover 40 = .ok (.iinc 4 1, 3) := by decide +kernel
theorem dH_cover_43 : decode cH_cover 43 = .ok (.goto (-24), 3) := by decide +kernel
theorem dH_cover_46 : decode cH_cover 46 = .ok (.iinc 3 1, 3) := by decide +kernel
theorem dH_cover_49 : decode cH_cover 49 = .ok (.goto (-44), 3) := by decide +kernel
theorem dH_cover_52 : decode cH_cover 52 = .ok (.return_, 1) := by decide +kernel
theorem dF_init_0 : decode cF_init 0 = .ok (.aload_n 0, 1) := by decide +kernel
theorem dF_init_1 : decode cF_init 1 = .ok (.invokespecial 3, 3) := by decide +kernel
theorem dF_init_4 : decode cF_init 4 = .ok (.aload_n 0, 1) := by decide +kernel
theorem dF_init_5 : decode cF_init 5 = .ok (.iload_n 1, 1) := by decide +kernel
theorem dF_init_6 : decode cF_init 6 = .ok (.iload_n 2, 1) := by decide +kernel
theorem dF_init_7 : decode cF_init 7 = .ok (.invokestatic 9, 3) := by decide +kernel
theorem dF_init_10 : decode cF_init 10 = .ok (.putfield 13, 3) := by decide +kernel
theorem dF_init_13 : decode cF_init 13 = .ok (.aload_n 0, 1) := by decide +kernel
theorem dF_init_14 : decode cF_init 14 = .ok (.iload_n 1, 1) := by decide +kernel
theorem dF_init_15 : decode cF_init 15 = .ok (.putfield 19, 3) := by decide +kernel
theorem dF_init_18 : decode cF_init 18 = .ok (.aload_n 0, 1) := by decide +kernel
theorem dF_init_19 : decode cF_init 19 = .ok (.iload_n 2, 1) := by decide +kernel
theorem dF_init_20 : decode cF_init 20 = .ok (.putfield 22, 3) := by decide +kernel
theorem dF_init_23 : decode cF_init 23 = .ok (.aload_n 0, 1) := by decide +kernel
theorem dF_init_24 : decode cF_init 24 = .ok (.iload_n 3, 1) := by decide +kernel
theorem dF_init_25 : decode cF_init 25 = .ok (.putfield 25, 3) := by decide +kernel
theorem dF_init_28 : decode cF_init 28 = .ok (.aload_n 0, 1) := by decide +kernel
theorem dF_init_29 : decode cF_init 29 = .ok (.iload 4, 2) := by decide +kernel
theorem dF_init_31 : decode cF_init 31 = .ok (.putfield 28, 3) := by decide +kernel
theorem dF_init_34 : decode cF_init 34 = .ok (.aload_n 0, 1) := by decide +kernel
theorem dF_init_35 : decode cF_init 35 = .ok (.iload_n 2, 1) := by decide +kernel
theorem dF_init_36 : decode cF_init 36 = .ok (.iload 4, 2) := by decide +kernel
theorem dF_init_38 : decode cF_init 38 = .ok (.invokestatic 31, 3) := by decide +kernel
theorem dF_init_41 : decode cF_init 41 = .ok (.putfield 34, 3) := by decide +kernel
theorem dF_init_44 : decode cF_init 44 = .ok (.aload_n 0, 1) := by decide +kernel
theorem dF_init_45 : decode cF_init 45 = .ok (.bipush 20, 2) := by decide +kernel
theorem dF_init_47 : decode cF_init 47 = .ok (.newarray .int, 2) := by decide +kernel
theorem dF_init_49 : decode cF_init 49 = .ok (.putfield 37, 3) := by decide +kernel
theorem dF_init_52 : decode cF_init 52 = .ok (.return_, 1) := by decide +kernel
theorem dF_addRectangle_0 : decode cF_addRectangle 0 = .ok (.iload_n 2, 1) := by decide +kernel
theorem dF_addRectangle_1 : decode cF_addRectangle 1 = .ok (.iload 4, 2) := by decide +kernel
theorem dF_addRectangle_3 : decode cF_addRectangle 3 = .ok (.invokestatic 31, 3) := by decide +kernel
theorem dF_addRectangle_6 : decode cF_addRectangle 6 = .ok (.istore 5, 2) := by decide +kernel
theorem dF_addRectangle_8 : decode cF_addRectangle 8 = .ok (.iload_n 1, 1) := by decide +kernel
theorem dF_addRectangle_9 : decode cF_addRectangle 9 = .ok (.istore 6, 2) := by decide +kernel
theorem dF_addRectangle_11 : decode cF_addRectangle 11 = .ok (.iload 6, 2) := by decide +kernel
theorem dF_addRectangle_13 : decode cF_addRectangle 13 = .ok (.iload_n 3, 1) := by decide +kernel
theorem dF_addRectangle_14 : decode cF_addRectangle 14 = .ok (.if_icmp .gt 21, 3) := by decide +kernel
theorem dF_addRectangle_17 : decode cF_addRectangle 17 = .ok (.aload_n 0, 1) := by decide +kernel
theorem dF_addRectangle_18 : decode cF_addRectangle 18 = .ok (.getfield 37, 3) := by decide +kernel
theorem dF_addRectangle_21 : decode cF_addRectangle 21 = .ok (.iload 6, 2) := by decide +kernel
theorem dF_addRectangle_23 : decode cF_addRectangle 23 = .ok (.dup2, 1) := by decide +kernel
theorem dF_addRectangle_24 : decode cF_addRectangle 24 = .ok (.iaload, 1) := by decide +kernel
theorem dF_addRectangle_25 : decode cF_addRectangle 25 = .ok (.iload 5, 2) := by decide +kernel
theorem dF_addRectangle_27 : decode cF_addRectangle 27 = .ok (.ior, 1) := by decide +kernel
theorem dF_addRectangle_28 : decode cF_addRectangle 28 = .ok (.iastore, 1) := by decide +kernel
theorem dF_addRectangle_29 : decode cF_addRectangle 29 = .ok (.iinc 6 1, 3) := by decide +kernel
theorem dF_addRectangle_32 : decode cF_addRectangle 32 = .ok (.goto (-21), 3) := by decide +kernel
theorem dF_addRectangle_35 : decode cF_addRectangle 35 = .ok (.aload_n 0, 1) := by decide +kernel
theorem dF_addRectangle_36 : decode cF_addRectangle 36 = .ok (.dup, 1) := by decide +kernel
theorem dF_addRectangle_37 : decode cF_addRectangle 37 = .ok (.getfield 41, 3) := by decide +kernel
theorem dF_addRectangle_40 : decode cF_addRectangle 40 = .ok (.iconst 1, 1) := by decide +kernel
theorem dF_addRectangle_41 : decode cF_addRectangle 41 = .ok (.iadd, 1) := by decide +kernel
theorem dF_addRectangle_42 : decode cF_addRectangle 42 = .ok (.putfield 41, 3) := by decide +kernel
theorem dF_addRectangle_45 : decode cF_addRectangle 45 = .ok (.return_, 1) := by decide +kernel
theorem dF_hangsOn_0 : decode cF_hangsOn 0 = .ok (.aload_n 1, 1) := by decide +kernel
theorem dF_hangsOn_1 : decode cF_hangsOn 1 = .ok (.getfield 19, 3) := by decide +kernel
theorem dF_hangsOn_4 : decode cF_hangsOn 4 = .ok (.istore_n 2, 1) := by decide +kernel
theorem dF_hangsOn_5 : decode cF_hangsOn 5 = .ok (.iload_n 2, 1) := by decide +kernel
theorem dF_hangsOn_6 : decode cF_hangsOn 6 = .ok (.aload_n 1, 1) := by decide +kernel
theorem dF_hangsOn_7 : decode cF_hangsOn 7 = .ok (.getfield 25, 3) := by decide +kernel
theorem dF_hangsOn_10 : decode cF_hangsOn 10 = .ok (.if_icmp .gt 25, 3) := by decide +kernel
theorem dF_hangsOn_13 : decode cF_hangsOn 13 = .ok (.aload_n 0, 1) := by decide +kernel
theorem dF_hangsOn_14 : decode cF_hangsOn 14 = .ok (.getfield 37, 3) := by decide +kernel
theorem dF_hangsOn_17 : decode cF_hangsOn 17 = .ok (.iload_n 2, 1) := by decide +kernel
theorem dF_hangsOn_18 : decode cF_hangsOn 18 = .ok (.iaload, 1) := by decide +kernel
theorem dF_hangsOn_19 : decode cF_hangsOn 19 = .ok (.aload_n 1, 1) := by decide +kernel
theorem dF_hangsOn_20 : decode cF_hangsOn 20 = .ok (.getfield 34, 3) := by decide +kernel
theorem dF_hangsOn_23 : decode cF_hangsOn 23 = .ok (.iand, 1) := by decide +kernel
theorem dF_hangsOn_24 : decode cF_hangsOn 24 = .ok (.ifCond .eq 5, 3) := by decide +kernel
theorem dF_hangsOn_27 : decode cF_hangsOn 27 = .ok (.iconst 1, 1) := by decide +kernel
theorem dF_hangsOn_28 : decode cF_hangsOn 28 = .ok (.ireturn, 1) := by decide +kernel
theorem dF_hangsOn_29 : decode cF_hangsOn 29 = .ok (.iinc 2 1, 3) := by decide +kernel
theorem dF_hangsOn_32 : decode cF_hangsOn 32 = .ok (.goto (-27), 3) := by decide +kernel
theorem dF_hangsOn_35 : decode cF_hangsOn 35 = .ok (.iconst 0, 1) := by decide +kernel
theorem dF_hangsOn_36 : decode cF_hangsOn 36 = .ok (.ireturn, 1) := by decide +kernel
theorem dF_hangsOnOneOf_0 : decode cF_hangsOnOneOf 0 = .ok (.iconst 0, 1) := by decide +kernel
theorem dF_hangsOnOneOf_1 : decode cF_hangsOnOneOf 1 = .ok (.istore_n 2, 1) := by decide +kernel
theorem dF_hangsOnOneOf_2 : decode cF_hangsOnOneOf 2 = .ok (.iload_n 2, 1) := by decide +kernel
theorem dF_hangsOnOneOf_3 : decode cF_hangsOnOneOf 3 = .ok (.bipush 20, 2) := by decide +kernel
theorem dF_hangsOnOneOf_5 : decode cF_hangsOnOneOf 5 = .ok (.if_icmp .ge 24, 3) := by decide +kernel
theorem dF_hangsOnOneOf_8 : decode cF_hangsOnOneOf 8 = .ok (.aload_n 0, 1) := by decide +kernel
theorem dF_hangsOnOneOf_9 : decode cF_hangsOnOneOf 9 = .ok (.getfield 37, 3) := by decide +kernel
theorem dF_hangsOnOneOf_12 : decode cF_hangsOnOneOf 12 = .ok (.iload_n 2, 1) := by decide +kernel
theorem dF_hangsOnOneOf_13 : decode cF_hangsOnOneOf 13 = .ok (.iaload, 1) := by decide +kernel
theorem dF_hangsOnOneOf_14 : decode cF_hangsOnOneOf 14 = .ok (.aload_n 1, 1) := by decide +kernel
theorem dF_hangsOnOneOf_15 : decode cF_hangsOnOneOf 15 = .ok (.iload_n 2, 1) := by decide +kernel
theorem dF_hangsOnOneOf_16 : decode cF_hangsOnOneOf 16 = .ok (.iaload, 1) := by decide +kernel
theorem dF_hangsOnOneOf_17 : decode cF_hangsOnOneOf 17 = .ok (.iand, 1) := by decide +kernel
theorem dF_hangsOnOneOf_18 : decode cF_hangsOnOneOf 18 = .ok (.ifCond .eq 5, 3) := by decide +kernel
theorem dF_hangsOnOneOf_21 : decode cF_hangsOnOneOf 21 = .ok (.iconst 1, 1) := by decide +kernel
theorem dF_hangsOnOneOf_22 : decode cF_hangsOnOneOf 22 = .ok (.ireturn, 1) := by decide +kernel
theorem dF_hangsOnOneOf_23 : decode cF_hangsOnOneOf 23 = .ok (.iinc 2 1, 3) := by decide +kernel
theorem dF_hangsOnOneOf_26 : decode cF_hangsOnOneOf 26 = .ok (.goto (-24), 3) := by decide +kernel
theorem dF_hangsOnOneOf_29 : decode cF_hangsOnOneOf 29 = .ok (.iconst 0, 1) := by decide +kernel
theorem dF_hangsOnOneOf_30 : decode cF_hangsOnOneOf 30 = .ok (.ireturn, 1) := by decide +kernel
theorem dF_holdsOneOf_0 : decode cF_holdsOneOf 0 = .ok (.aload_n 0, 1) := by decide +kernel
theorem dF_holdsOneOf_1 : decode cF_holdsOneOf 1 = .ok (.getfield 19, 3) := by decide +kernel
theorem dF_holdsOneOf_4 : decode cF_holdsOneOf 4 = .ok (.istore_n 2, 1) := by decide +kernel
theorem dF_holdsOneOf_5 : decode cF_holdsOneOf 5 = .ok (.iload_n 2, 1) := by decide +kernel
theorem dF_holdsOneOf_6 : decode cF_holdsOneOf 6 = .ok (.aload_n 0, 1) := by decide +kernel
theorem dF_holdsOneOf_7 : decode cF_holdsOneOf 7 = .ok (.getfield 25, 3) := by decide +kernel
theorem dF_holdsOneOf_10 : decode cF_holdsOneOf 10 = .ok (.if_icmp .gt 22, 3) := by decide +kernel
theorem dF_holdsOneOf_13 : decode cF_holdsOneOf 13 = .ok (.aload_n 0, 1) := by decide +kernel
theorem dF_holdsOneOf_14 : decode cF_holdsOneOf 14 = .ok (.getfield 34, 3) := by decide +kernel
theorem dF_holdsOneOf_17 : decode cF_holdsOneOf 17 = .ok (.aload_n 1, 1) := by decide +kernel
theorem dF_holdsOneOf_18 : decode cF_holdsOneOf 18 = .ok (.iload_n 2, 1) := by decide +kernel
theorem dF_holdsOneOf_19 : decode cF_holdsOneOf 19 = .ok (.iaload, 1) := by decide +kernel
theorem dF_holdsOneOf_20 : decode cF_holdsOneOf 20 = .ok (.iand, 1) := by decide +kernel
theorem dF_holdsOneOf_21 : decode cF_holdsOneOf 21 = .ok (.ifCond .eq 5, 3) := by decide +kernel
theorem dF_holdsOneOf_24 : decode cF_holdsOneOf 24 = .ok (.iconst 1, 1) := by decide +kernel
theorem dF_holdsOneOf_25 : decode cF_holdsOneOf 25 = .ok (.ireturn, 1) := by decide +kernel
theorem dF_holdsOneOf_26 : decode cF_holdsOneOf 26 = .ok (.iinc 2 1, 3) := by decide +kernel
theorem dF_holdsOneOf_29 : decode cF_holdsOneOf 29 = .ok (.goto (-24), 3) := by decide +kernel
theorem dF_holdsOneOf_32 : decode cF_holdsOneOf 32 = .ok (.iconst 0, 1) := by decide +kernel
theorem dF_holdsOneOf_33 : decode cF_holdsOneOf 33 = .ok (.ireturn, 1) := by decide +kernel
theorem dF_forget_0 : decode cF_forget 0 = .ok (.aload_n 0, 1) := by decide +kernel
theorem dF_forget_1 : decode cF_forget 1 = .ok (.iconst 0, 1) := by decide +kernel
theorem dF_forget_2 : decode cF_forget 2 = .ok (.putfield 44, 3) := by decide +kernel
theorem dF_forget_5 : decode cF_forget 5 = .ok (.aload_n 0, 1) := by decide +kernel
theorem dF_forget_6 : decode cF_forget 6 = .ok (.iconst 0, 1) := by decide +kernel
theorem dF_forget_7 : decode cF_forget 7 = .ok (.putfield 48, 3) := by decide +kernel
theorem dF_forget_10 : decode cF_forget 10 = .ok (.aload_n 0, 1) := by decide +kernel
theorem dF_forget_11 : decode cF_forget 11 = .ok (.iconst 0, 1) := by decide +kernel
theorem dF_forget_12 : decode cF_forget 12 = .ok (.putfield 51, 3) := by decide +kernel
theorem dF_forget_15 : decode cF_forget 15 = .ok (.aload_n 0, 1) := by decide +kernel
theorem dF_forget_16 : decode cF_forget 16 = .ok (.iconst 0, 1) := by decide +kernel
theorem dF_forget_17 : decode cF_forget 17 = .ok (.putfield 54, 3) := by decide +kernel
theorem dF_forget_20 : decode cF_forget 20 = .ok (.aload_n 0, 1) := by decide +kernel
theorem dF_forget_21 : decode cF_forget 21 = .ok (.iconst 0, 1) := by decide +kernel
theorem dF_forget_22 : decode cF_forget 22 = .ok (.putfield 57, 3) := by decide +kernel
theorem dF_forget_25 : decode cF_forget 25 = .ok (.aload_n 0, 1) := by decide +kernel
theorem dF_forget_26 : decode cF_forget 26 = .ok (.iconst 0, 1) := by decide +kernel
theorem dF_forget_27 : decode cF_forget 27 = .ok (.putfield 60, 3) := by decide +kernel
theorem dF_forget_30 : decode cF_forget 30 = .ok (.aload_n 0, 1) := by decide +kernel
theorem dF_forget_31 : decode cF_forget 31 = .ok (.iconst 0, 1) := by decide +kernel
theorem dF_forget_32 : decode cF_forget 32 = .ok (.putfield 63, 3) := by decide +kernel
theorem dF_forget_35 : decode cF_forget 35 = .ok (.return_, 1) := by decide +kernel
theorem dS_init_0 : decode cS_init 0 = .ok (.aload_n 0, 1) := by decide +kernel
theorem dS_init_1 : decode cS_init 1 = .ok (.invokespecial 3, 3) := by decide +kernel
theorem dS_init_4 : decode cS_init 4 = .ok (.aload_n 0, 1) := by decide +kernel
theorem dS_init_5 : decode cS_init 5 = .ok (.sipush 400, 3) := by decide +kernel
theorem dS_init_8 : decode cS_init 8 = .ok (.anewarray 9, 3) := by decide +kernel
theorem dS_init_11 : decode cS_init 11 = .ok (.putfield 11, 3) := by decide +kernel
theorem dS_init_14 : decode cS_init 14 = .ok (.aload_n 0, 1) := by decide +kernel
theorem dS_init_15 : decode cS_init 15 = .ok (.sipush 400, 3) := by decide +kernel
theorem dS_init_18 : decode cS_init 18 = .ok (.anewarray 9, 3) := by decide +kernel
theorem dS_init_21 : decode cS_init 21 = .ok (.putfield 17, 3) := by decide +kernel
theorem dS_init_24 : decode cS_init 24 = .ok (.aload_n 0, 1) := by decide +kernel
theorem dS_init_25 : decode cS_init 25 = .ok (.sipush 400, 3) := by decide +kernel
theorem dS_init_28 : decode cS_init 28 = .ok (.anewarray 9, 3) := by decide +kernel
theorem dS_init_31 : decode cS_init 31 = .ok (.putfield 20, 3) := by decide +kernel
theorem dS_init_34 : decode cS_init 34 = .ok (.aload_n 0, 1) := by decide +kernel
theorem dS_init_35 : decode cS_init 35 = .ok (.sipush 400, 3) := by decide +kernel
theorem dS_init_38 : decode cS_init 38 = .ok (.anewarray 9, 3) := by decide +kernel
theorem dS_init_41 : decode cS_init 41 = .ok (.putfield 23, 3) := by decide +kernel
theorem dS_init_44 : decode cS_init 44 = .ok (.return_, 1) := by decide +kernel
theorem dS_begin_0 : decode cS_begin 0 = .ok (.aload_n 0, 1) := by decide +kernel
theorem dS_begin_1 : decode cS_begin 1 = .ok (.iconst 0, 1) := by decide +kernel
theorem dS_begin_2 : decode cS_begin 2 = .ok (.putfield 26, 3) := by decide +kernel
theorem dS_begin_5 : decode cS_begin 5 = .ok (.aload_n 0, 1) := by decide +kernel
theorem dS_begin_6 : decode cS_begin 6 = .ok (.iconst 0, 1) := by decide +kernel
theorem dS_begin_7 : decode cS_begin 7 = .ok (.putfield 30, 3) := by decide +kernel
theorem dS_begin_10 : decode cS_begin 10 = .ok (.aload_n 0, 1) := by decide +kernel
theorem dS_begin_11 : decode cS_begin 11 = .ok (.iconst 0, 1) := by decide +kernel
theorem dS_begin_12 : decode cS_begin 12 = .ok (.putfield 33, 3) := by decide +kernel
theorem dS_begin_15 : decode cS_begin 15 = .ok (.aload_n 0, 1) := by decide +kernel
theorem dS_begin_16 : decode cS_begin 16 = .ok (.iconst 0, 1) := by decide +kernel
theorem dS_begin_17 : decode cS_begin 17 = .ok (.putfield 36, 3) := by decide +kernel
theorem dS_begin_20 : decode cS_begin 20 = .ok (.aload_n 0, 1) := by decide +kernel
theorem dS_begin_21 : decode cS_begin 21 = .ok (.iconst 0, 1) := by decide +kernel
theorem dS_begin_22 : decode cS_begin 22 = .ok (.putfield 39, 3) := by decide +kernel
theorem dS_begin_25 : decode cS_begin 25 = .ok (.iconst 0, 1) := by decide +kernel
theorem dS_begin_26 : decode cS_begin 26 = .ok (.istore_n 2, 1) := by decide +kernel
theorem dS_begin_27 : decode cS_begin 27 = .ok (.iload_n 2, 1) := by decide +kernel
theorem dS_begin_28 : decode cS_begin 28 = .ok (.sipush 400, 3) := by decide +kernel
theorem dS_begin_31 : decode cS_begin 31 = .ok (.if_icmp .ge 49, 3) := by decide +kernel
theorem dS_begin_34 : decode cS_begin 34 = .ok (.aload_n 1, 1) := by decide +kernel
theorem dS_begin_35 : decode cS_begin 35 = .ok (.iload_n 2, 1) := by decide +kernel
theorem dS_begin_36 : decode cS_begin 36 = .ok (.aaload, 1) := by decide +kernel
theorem dS_begin_37 : decode cS_begin 37 = .ok (.astore_n 3, 1) := by decide +kernel
theorem dS_begin_38 : decode cS_begin 38 = .ok (.aload_n 3, 1) := by decide +kernel
theorem dS_begin_39 : decode cS_begin 39 = .ok (.ifnull 35, 3) := by decide +kernel
theorem dS_begin_42 : decode cS_begin 42 = .ok (.aload_n 3, 1) := by decide +kernel
theorem dS_begin_43 : decode cS_begin 43 = .ok (.getfield 42, 3) := by decide +kernel
theorem dS_begin_46 : decode cS_begin 46 = .ok (.iload_n 2, 1) := by decide +kernel
theorem dS_begin_47 : decode cS_begin 47 = .ok (.if_icmp .ne 27, 3) := by decide +kernel
theorem dS_begin_50 : decode cS_begin 50 = .ok (.aload_n 3, 1) := by decide +kernel
theorem dS_begin_51 : decode cS_begin 51 = .ok (.invokevirtual 45, 3) := by decide +kernel
theorem dS_begin_54 : decode cS_begin 54 = .ok (.aload_n 0, 1) := by decide +kernel
theorem dS_begin_55 : decode cS_begin 55 = .ok (.getfield 11, 3) := by decide +kernel
theorem dS_begin_58 : decode cS_begin 58 = .ok (.aload_n 0, 1) := by decide +kernel
theorem dS_begin_59 : decode cS_begin 59 = .ok (.getfield 26, 3) := by decide +kernel
theorem dS_begin_62 : decode cS_begin 62 = .ok (.aload_n 3, 1) := by decide +kernel
theorem dS_begin_63 : decode cS_begin 63 = .ok (.aastore, 1) := by decide +kernel
theorem dS_begin_64 : decode cS_begin 64 = .ok (.aload_n 0, 1) := by decide +kernel
theorem dS_begin_65 : decode cS_begin 65 = .ok (.dup, 1) := by decide +kernel
theorem dS_begin_66 : decode cS_begin 66 = .ok (.getfield 26, 3) := by decide +kernel
theorem dS_begin_69 : decode cS_begin 69 = .ok (.iconst 1, 1) := by decide +kernel
theorem dS_begin_70 : decode cS_begin 70 = .ok (.iadd, 1) := by decide +kernel
theorem dS_begin_71 : decode cS_begin 71 = .ok (.putfield 26, 3) := by decide +kernel
theorem dS_begin_74 : decode cS_begin 74 = .ok (.iinc 2 1, 3) := by decide +kernel
theorem dS_begin_77 : decode cS_begin 77 = .ok (.goto (-50), 3) := by decide +kernel
theorem dS_begin_80 : decode cS_begin 80 = .ok (.return_, 1) := by decide +kernel
theorem dS_findHit_0 : decode cS_findHit 0 = .ok (.iconst 0, 1) := by decide +kernel
theorem dS_findHit_1 : decode cS_findHit 1 = .ok (.istore_n 2, 1) := by decide +kernel
theorem dS_findHit_2 : decode cS_findHit 2 = .ok (.iload_n 2, 1) := by decide +kernel
theorem dS_findHit_3 : decode cS_findHit 3 = .ok (.aload_n 0, 1) := by decide +kernel
theorem dS_findHit_4 : decode cS_findHit 4 = .ok (.getfield 26, 3) := by decide +kernel
theorem dS_findHit_7 : decode cS_findHit 7 = .ok (.if_icmp .ge 37, 3) := by decide +kernel
theorem dS_findHit_10 : decode cS_findHit 10 = .ok (.aload_n 0, 1) := by decide +kernel
theorem dS_findHit_11 : decode cS_findHit 11 = .ok (.getfield 11, 3) := by decide +kernel
theorem dS_findHit_14 : decode cS_findHit 14 = .ok (.iload_n 2, 1) := by decide +kernel
theorem dS_findHit_15 : decode cS_findHit 15 = .ok (.aaload, 1) := by decide +kernel
theorem dS_findHit_16 : decode cS_findHit 16 = .ok (.astore_n 3, 1) := by decide +kernel
theorem dS_findHit_17 : decode cS_findHit 17 = .ok (.aload_n 3, 1) := by decide +kernel
theorem dS_findHit_18 : decode cS_findHit 18 = .ok (.aload_n 1, 1) := by decide +kernel
theorem dS_findHit_19 : decode cS_findHit 19 = .ok (.invokevirtual 48, 3) := by decide +kernel
theorem dS_findHit_22 : decode cS_findHit 22 = .ok (.ifCond .ne 11, 3) := by decide +kernel
theorem dS_findHit_25 : decode cS_findHit 25 = .ok (.aload_n 3, 1) := by decide +kernel
theorem dS_findHit_26 : decode cS_findHit 26 = .ok (.aload_n 1, 1) := by decide +kernel
theorem dS_findHit_27 : decode cS_findHit 27 = .ok (.invokevirtual 52, 3) := by decide +kernel
theorem dS_findHit_30 : decode cS_findHit 30 = .ok (.ifCond .eq 8, 3) := by decide +kernel
theorem dS_findHit_33 : decode cS_findHit 33 = .ok (.aload_n 0, 1) := by decide +kernel
theorem dS_findHit_34 : decode cS_findHit 34 = .ok (.aload_n 3, 1) := by decide +kernel
theorem dS_findHit_35 : decode cS_findHit 35 = .ok (.invokevirtual 55, 3) := by decide +kernel
theorem dS_findHit_38 : decode cS_findHit 38 = .ok (.iinc 2 1, 3) := by decide +kernel
theorem dS_findHit_41 : decode cS_findHit 41 = .ok (.goto (-39), 3) := by decide +kernel
theorem dS_findHit_44 : decode cS_findHit 44 = .ok (.iconst 0, 1) := by decide +kernel
theorem dS_findHit_45 : decode cS_findHit 45 = .ok (.istore_n 2, 1) := by decide +kernel
theorem dS_findHit_46 : decode cS_findHit 46 = .ok (.iload_n 2, 1) := by decide +kernel
theorem dS_findHit_47 : decode cS_findHit 47 = .ok (.sipush 400, 3) := by decide +kernel
theorem dS_findHit_50 : decode cS_findHit 50 = .ok (.if_icmp .ge 27, 3) := by decide +kernel
theorem dS_findHit_53 : decode cS_findHit 53 = .ok (.iload_n 2, 1) := by decide +kernel
theorem dS_findHit_54 : decode cS_findHit 54 = .ok (.aload_n 0, 1) := by decide +kernel
theorem dS_findHit_55 : decode cS_findHit 55 = .ok (.getfield 30, 3) := by decide +kernel
theorem dS_findHit_58 : decode cS_findHit 58 = .ok (.if_icmp .ge 19, 3) := by decide +kernel
theorem dS_findHit_61 : decode cS_findHit 61 = .ok (.aload_n 0, 1) := by decide +kernel
theorem dS_findHit_62 : decode cS_findHit 62 = .ok (.aload_n 0, 1) := by decide +kernel
theorem dS_findHit_63 : decode cS_findHit 63 = .ok (.getfield 17, 3) := by decide +kernel
theorem dS_findHit_66 : decode cS_findHit 66 = .ok (.iload_n 2, 1) := by decide +kernel
theorem dS_findHit_67 : decode cS_findHit 67 = .ok (.aaload, 1) := by decide +kernel
theorem dS_findHit_68 : decode cS_findHit 68 = .ok (.invokevirtual 59, 3) := by decide +kernel
theorem dS_findHit_71 : decode cS_findHit 71 = .ok (.iinc 2 1, 3) := by decide +kernel
theorem dS_findHit_74 : decode cS_findHit 74 = .ok (.goto (-28), 3) := by decide +kernel
theorem dS_findHit_77 : decode cS_findHit 77 = .ok (.return_, 1) := by decide +kernel
theorem dS_hitAllThatHangOn_0 : decode cS_hitAllThatHangOn 0 = .ok (.iconst 0, 1) := by decide +kernel
theorem dS_hitAllThatHangOn_1 : decode cS_hitAllThatHangOn 1 = .ok (.istore_n 2, 1) := by decide +kernel
theorem dS_hitAllThatHangOn_2 : decode cS_hitAllThatHangOn 2 = .ok (.iload_n 2, 1) := by decide +kernel
theorem dS_hitAllThatHangOn_3 : decode cS_hitAllThatHangOn 3 = .ok (.aload_n 0, 1) := by decide +kernel
theorem dS_hitAllThatHangOn_4 : decode cS_hitAllThatHangOn 4 = .ok (.getfield 26, 3) := by decide +kernel
theorem dS_hitAllThatHangOn_7 : decode cS_hitAllThatHangOn 7 = .ok (.if_icmp .ge 36, 3) := by decide +kernel
theorem dS_hitAllThatHangOn_10 : decode cS_hitAllThatHangOn 10 = .ok (.aload_n 0, 1) := by decide +kernel
theorem dS_hitAllThatHangOn_11 : decode cS_hitAllThatHangOn 11 = .ok (.getfield 11, 3) := by decide +kernel
theorem dS_hitAllThatHangOn_14 : decode cS_hitAllThatHangOn 14 = .ok (.iload_n 2, 1) := by decide +kernel
theorem dS_hitAllThatHangOn_15 : decode cS_hitAllThatHangOn 15 = .ok (.aaload, 1) := by decide +kernel
theorem dS_hitAllThatHangOn_16 : decode cS_hitAllThatHangOn 16 = .ok (.astore_n 3, 1) := by decide +kernel
theorem dS_hitAllThatHangOn_17 : decode cS_hitAllThatHangOn 17 = .ok (.aload_n 3, 1) := by decide +kernel
theorem dS_hitAllThatHangOn_18 : decode cS_hitAllThatHangOn 18 = .ok (.getfield 62, 3) := by decide +kernel
theorem dS_hitAllThatHangOn_21 : decode cS_hitAllThatHangOn 21 = .ok (.ifCond .ne 16, 3) := by decide +kernel
theorem dS_hitAllThatHangOn_24 : decode cS_hitAllThatHangOn 24 = .ok (.aload_n 3, 1) := by decide +kernel
theorem dS_hitAllThatHangOn_25 : decode cS_hitAllThatHangOn 25 = .ok (.aload_n 1, 1) := by decide +kernel
theorem dS_hitAllThatHangOn_26 : decode cS_hitAllThatHangOn 26 = .ok (.invokevirtual 66, 3) := by decide +kernel
theorem dS_hitAllThatHangOn_29 : decode cS_hitAllThatHangOn 29 = .ok (.ifCond .eq 8, 3) := by decide +kernel
theorem dS_hitAllThatHangOn_32 : decode cS_hitAllThatHangOn 32 = .ok (.aload_n 0, 1) := by decide +kernel
theorem dS_hitAllThatHangOn_33 : decode cS_hitAllThatHangOn 33 = .ok (.aload_n 3, 1) := by decide +kernel
theorem dS_hitAllThatHangOn_34 : decode cS_hitAllThatHangOn 34 = .ok (.invokevirtual 55, 3) := by decide +kernel
theorem dS_hitAllThatHangOn_37 : decode cS_hitAllThatHangOn 37 = .ok (.iinc 2 1, 3) := by decide +kernel
theorem dS_hitAllThatHangOn_40 : decode cS_hitAllThatHangOn 40 = .ok (.goto (-38), 3) := by decide +kernel
theorem dS_hitAllThatHangOn_43 : decode cS_hitAllThatHangOn 43 = .ok (.return_, 1) := by decide +kernel
theorem dS_addHit_0 : decode cS_addHit 0 = .ok (.aload_n 1, 1) := by decide +kernel
theorem dS_addHit_1 : decode cS_addHit 1 = .ok (.iconst 1, 1) := by decide +kernel
theorem dS_addHit_2 : decode cS_addHit 2 = .ok (.putfield 62, 3) := by decide +kernel
theorem dS_addHit_5 : decode cS_addHit 5 = .ok (.aload_n 0, 1) := by decide +kernel
theorem dS_addHit_6 : decode cS_addHit 6 = .ok (.getfield 17, 3) := by decide +kernel
theorem dS_addHit_9 : decode cS_addHit 9 = .ok (.aload_n 0, 1) := by decide +kernel
theorem dS_addHit_10 : decode cS_addHit 10 = .ok (.getfield 30, 3) := by decide +kernel
theorem dS_addHit_13 : decode cS_addHit 13 = .ok (.aload_n 1, 1) := by decide +kernel
theorem dS_addHit_14 : decode cS_addHit 14 = .ok (.aastore, 1) := by decide +kernel
theorem dS_addHit_15 : decode cS_addHit 15 = .ok (.aload_n 0, 1) := by decide +kernel
theorem dS_addHit_16 : decode cS_addHit 16 = .ok (.dup, 1) := by decide +kernel
theorem dS_addHit_17 : decode cS_addHit 17 = .ok (.getfield 30, 3) := by decide +kernel
theorem dS_addHit_20 : decode cS_addHit 20 = .ok (.iconst 1, 1) := by decide +kernel
theorem dS_addHit_21 : decode cS_addHit 21 = .ok (.iadd, 1) := by decide +kernel
theorem dS_addHit_22 : decode cS_addHit 22 = .ok (.putfield 30, 3) := by decide +kernel
theorem dS_addHit_25 : decode cS_addHit 25 = .ok (.return_, 1) := by decide +kernel
theorem dS_rankHit_0 : decode cS_rankHit 0 = .ok (.iconst 0, 1) := by decide +kernel
theorem dS_rankHit_1 : decode cS_rankHit 1 = .ok (.istore_n 1, 1) := by decide +kernel
theorem dS_rankHit_2 : decode cS_rankHit 2 = .ok (.iload_n 1, 1) := by decide +kernel
theorem dS_rankHit_3 : decode cS_rankHit 3 = .ok (.aload_n 0, 1) := by decide +kernel
theorem dS_rankHit_4 : decode cS_rankHit 4 = .ok (.getfield 30, 3) := by decide +kernel
theorem dS_rankHit_7 : decode cS_rankHit 7 = .ok (.if_icmp .ge 31, 3) := by decide +kernel
theorem dS_rankHit_10 : decode cS_rankHit 10 = .ok (.aload_n 0, 1) := by decide +kernel
theorem dS_rankHit_11 : decode cS_rankHit 11 = .ok (.getfield 17, 3) := by decide +kernel
theorem dS_rankHit_14 : decode cS_rankHit 14 = .ok (.iload_n 1, 1) := by decide +kernel
theorem dS_rankHit_15 : decode cS_rankHit 15 = .ok (.aaload, 1) := by decide +kernel
theorem dS_rankHit_16 : decode cS_rankHit 16 = .ok (.getfield 70, 3) := by decide +kernel
theorem dS_rankHit_19 : decode cS_rankHit 19 = .ok (.ifCond .ne 13, 3) := by decide +kernel
theorem dS_rankHit_22 : decode cS_rankHit 22 = .ok (.aload_n 0, 1) := by decide +kernel
theorem dS_rankHit_23 : decode cS_rankHit 23 = .ok (.aload_n 0, 1) := by decide +kernel
theorem dS_rankHit_24 : decode cS_rankHit 24 = .ok (.getfield 17, 3) := by decide +kernel
theorem dS_rankHit_27 : decode cS_rankHit 27 = .ok (.iload_n 1, 1) := by decide +kernel
theorem dS_rankHit_28 : decode cS_rankHit 28 = .ok (.aaload, 1) := by decide +kernel
theorem dS_rankHit_29 : decode cS_rankHit 29 = .ok (.invokevirtual 73, 3) := by decide +kernel
theorem dS_rankHit_32 : decode cS_rankHit 32 = .ok (.iinc 1 1, 3) := by decide +kernel
theorem dS_rankHit_35 : decode cS_rankHit 35 = .ok (.goto (-33), 3) := by decide +kernel
theorem dS_rankHit_38 : decode cS_rankHit 38 = .ok (.return_, 1) := by decide +kernel
theorem dS_walkFrom_0 : decode cS_walkFrom 0 = .ok (.aload_n 0, 1) := by decide +kernel
theorem dS_walkFrom_1 : decode cS_walkFrom 1 = .ok (.aload_n 1, 1) := by decide +kernel
theorem dS_walkFrom_2 : decode cS_walkFrom 2 = .ok (.invokevirtual 76, 3) := by decide +kernel
theorem dS_walkFrom_5 : decode cS_walkFrom 5 = .ok (.iconst 0, 1) := by decide +kernel
theorem dS_walkFrom_6 : decode cS_walkFrom 6 = .ok (.istore_n 2, 1) := by decide +kernel
theorem dS_walkFrom_7 : decode cS_walkFrom 7 = .ok (.iload_n 2, 1) := by decide +kernel
theorem dS_walkFrom_8 : decode cS_walkFrom 8 = .ok (.sipush 800, 3) := by decide +kernel
theorem dS_walkFrom_11 : decode cS_walkFrom 11 = .ok (.if_icmp .ge 54, 3) := by decide +kernel
theorem dS_walkFrom_14 : decode cS_walkFrom 14 = .ok (.aload_n 0, 1) := by decide +kernel
theorem dS_walkFrom_15 : decode cS_walkFrom 15 = .ok (.getfield 33, 3) := by decide +kernel
theorem dS_walkFrom_18 : decode cS_walkFrom 18 = .ok (.ifCond .le 47, 3) := by decide +kernel
theorem dS_walkFrom_21 : decode cS_walkFrom 21 = .ok (.aload_n 0, 1) := by decide +kernel
theorem dS_walkFrom_22 : decode cS_walkFrom 22 = .ok (.getfield 20, 3) := by decide +kernel
theorem dS_walkFrom_25 : decode cS_walkFrom 25 = .ok (.aload_n 0, 1) := by decide +kernel
theorem dS_walkFrom_26 : decode cS_walkFrom 26 = .ok (.getfield 33, 3) := by decide +kernel
theorem dS_walkFrom_29 : decode cS_walkFrom 29 = .ok (.iconst 1, 1) := by decide +kernel
theorem dS_walkFrom_30 : decode cS_walkFrom 30 = .ok (.isub, 1) := by decide +kernel
theorem dS_walkFrom_31 : decode cS_walkFrom 31 = .ok (.aaload, 1) := by decide +kernel
theorem dS_walkFrom_32 : decode cS_walkFrom 32 = .ok (.astore_n 3, 1) := by decide +kernel
theorem dS_walkFrom_33 : decode cS_walkFrom 33 = .ok (.aload_n 0, 1) := by decide +kernel
theorem dS_walkFrom_34 : decode cS_walkFrom 34 = .ok (.aload_n 3, 1) := by decide +kernel
theorem dS_walkFrom_35 : decode cS_walkFrom 35 = .ok (.invokevirtual 79, 3) := by decide +kernel
theorem dS_walkFrom_38 : decode cS_walkFrom 38 = .ok (.astore 4, 2) := by decide +kernel
theorem dS_walkFrom_40 : decode cS_walkFrom 40 = .ok (.aload 4, 2) := by decide +kernel
theorem dS_walkFrom_42 : decode cS_walkFrom 42 = .ok (.ifnonnull 11, 3) := by decide +kernel
theorem dS_walkFrom_45 : decode cS_walkFrom 45 = .ok (.aload_n 0, 1) := by decide +kernel
theorem dS_walkFrom_46 : decode cS_walkFrom 46 = .ok (.aload_n 3, 1) := by decide +kernel
theorem dS_walkFrom_47 : decode cS_walkFrom 47 = .ok (.invokevirtual 83, 3) := by decide +kernel
theorem dS_walkFrom_50 : decode cS_walkFrom 50 = .ok (.goto 9, 3) := by decide +kernel
theorem dS_walkFrom_53 : decode cS_walkFrom 53 = .ok (.aload_n 0, 1) := by decide +kernel
theorem dS_walkFrom_54 : decode cS_walkFrom 54 = .ok (.aload 4, 2) := by decide +kernel
theorem dS_walkFrom_56 : decode cS_walkFrom 56 = .ok (.invokevirtual 76, 3) := by decide +kernel
theorem dS_walkFrom_59 : decode cS_walkFrom 59 = .ok (.iinc 2 1, 3) := by decide +kernel
theorem dS_walkFrom_62 : decode cS_walkFrom 62 = .ok (.goto (-55), 3) := by decide +kernel
theorem dS_walkFrom_65 : decode cS_walkFrom 65 = .ok (.return_, 1) := by decide +kernel
theorem dS_enter_0 : decode cS_enter 0 = .ok (.aload_n 0, 1) := by decide +kernel
theorem dS_enter_1 : decode cS_enter 1 = .ok (.dup, 1) := by decide +kernel
theorem dS_enter_2 : decode cS_enter 2 = .ok (.getfield 39, 3) := by decide +kernel
theorem dS_enter_5 : decode cS_enter 5 = .ok (.iconst 1, 1) := by decide +kernel
theorem dS_enter_6 : decode cS_enter 6 = .ok (.iadd, 1) := by decide +kernel
theorem dS_enter_7 : decode cS_enter 7 = .ok (.putfield 39, 3) := by decide +kernel
theorem dS_enter_10 : decode cS_enter 10 = .ok (.aload_n 1, 1) := by decide +kernel
theorem dS_enter_11 : decode cS_enter 11 = .ok (.aload_n 0, 1) := by decide +kernel
theorem dS_enter_12 : decode cS_enter 12 = .ok (.getfield 39, 3) := by decide +kernel
theorem dS_enter_15 : decode cS_enter 15 = .ok (.putfield 86, 3) := by decide +kernel
theorem dS_enter_18 : decode cS_enter 18 = .ok (.aload_n 1, 1) := by decide +kernel
theorem dS_enter_19 : decode cS_enter 19 = .ok (.aload_n 0, 1) := by decide +kernel
theorem dS_enter_20 : decode cS_enter 20 = .ok (.getfield 39, 3) := by decide +kernel
theorem dS_enter_23 : decode cS_enter 23 = .ok (.putfield 89, 3) := by decide +kernel
theorem dS_enter_26 : decode cS_enter 26 = .ok (.aload_n 0, 1) := by decide +kernel
theorem dS_enter_27 : decode cS_enter 27 = .ok (.getfield 20, 3) := by decide +kernel
theorem dS_enter_30 : decode cS_enter 30 = .ok (.aload_n 0, 1) := by decide +kernel
theorem dS_enter_31 : decode cS_enter 31 = .ok (.getfield 33, 3) := by decide +kernel
theorem dS_enter_34 : decode cS_enter 34 = .ok (.aload_n 1, 1) := by decide +kernel
theorem dS_enter_35 : decode cS_enter 35 = .ok (.aastore, 1) := by decide +kernel
theorem dS_enter_36 : decode cS_enter 36 = .ok (.aload_n 0, 1) := by decide +kernel
theorem dS_enter_37 : decode cS_enter 37 = .ok (.dup, 1) := by decide +kernel
theorem dS_enter_38 : decode cS_enter 38 = .ok (.getfield 33, 3) := by decide +kernel
theorem dS_enter_41 : decode cS_enter 41 = .ok (.iconst 1, 1) := by decide +kernel
theorem dS_enter_42 : decode cS_enter 42 = .ok (.iadd, 1) := by decide +kernel
theorem dS_enter_43 : decode cS_enter 43 = .ok (.putfield 33, 3) := by decide +kernel
theorem dS_enter_46 : decode cS_enter 46 = .ok (.aload_n 0, 1) := by decide +kernel
theorem dS_enter_47 : decode cS_enter 47 = .ok (.getfield 23, 3) := by decide +kernel
theorem dS_enter_50 : decode cS_enter 50 = .ok (.aload_n 0, 1) := by decide +kernel
theorem dS_enter_51 : decode cS_enter 51 = .ok (.getfield 36, 3) := by decide +kernel
theorem dS_enter_54 : decode cS_enter 54 = .ok (.aload_n 1, 1) := by decide +kernel
theorem dS_enter_55 : decode cS_enter 55 = .ok (.aastore, 1) := by decide +kernel
theorem dS_enter_56 : decode cS_enter 56 = .ok (.aload_n 0, 1) := by decide +kernel
theorem dS_enter_57 : decode cS_enter 57 = .ok (.dup, 1) := by decide +kernel
theorem dS_enter_58 : decode cS_enter 58 = .ok (.getfield 36, 3) := by decide +kernel
theorem dS_enter_61 : decode cS_enter 61 = .ok (.iconst 1, 1) := by decide +kernel
theorem dS_enter_62 : decode cS_enter 62 = .ok (.iadd, 1) := by decide +kernel
theorem dS_enter_63 : decode cS_enter 63 = .ok (.putfield 36, 3) := by decide +kernel
theorem dS_enter_66 : decode cS_enter 66 = .ok (.return_, 1) := by decide +kernel
theorem dS_nextBelow_0 : decode cS_nextBelow 0 = .ok (.aload_n 1, 1) := by decide +kernel
theorem dS_nextBelow_1 : decode cS_nextBelow 1 = .ok (.getfield 92, 3) := by decide +kernel
theorem dS_nextBelow_4 : decode cS_nextBelow 4 = .ok (.istore_n 2, 1) := by decide +kernel
theorem dS_nextBelow_5 : decode cS_nextBelow 5 = .ok (.iload_n 2, 1) := by decide +kernel
theorem dS_nextBelow_6 : decode cS_nextBelow 6 = .ok (.aload_n 0, 1) := by decide +kernel
theorem dS_nextBelow_7 : decode cS_nextBelow 7 = .ok (.getfield 30, 3) := by decide +kernel
theorem dS_nextBelow_10 : decode cS_nextBelow 10 = .ok (.if_icmp .ge 65, 3) := by decide +kernel
theorem dS_nextBelow_13 : decode cS_nextBelow 13 = .ok (.aload_n 0, 1) := by decide +kernel
theorem dS_nextBelow_14 : decode cS_nextBelow 14 = .ok (.getfield 17, 3) := by decide +kernel
theorem dS_nextBelow_17 : decode cS_nextBelow 17 = .ok (.iload_n 2, 1) := by decide +kernel
theorem dS_nextBelow_18 : decode cS_nextBelow 18 = .ok (.aaload, 1) := by decide +kernel
theorem dS_nextBelow_19 : decode cS_nextBelow 19 = .ok (.astore_n 3, 1) := by decide +kernel
theorem dS_nextBelow_20 : decode cS_nextBelow 20 = .ok (.aload_n 3, 1) := by decide +kernel
theorem dS_nextBelow_21 : decode cS_nextBelow 21 = .ok (.getfield 70, 3) := by decide +kernel
theorem dS_nextBelow_24 : decode cS_nextBelow 24 = .ok (.ifCond .ne 45, 3) := by decide +kernel
theorem dS_nextBelow_27 : decode cS_nextBelow 27 = .ok (.aload_n 1, 1) := by decide +kernel
theorem dS_nextBelow_28 : decode cS_nextBelow 28 = .ok (.aload_n 3, 1) := by decide +kernel
theorem dS_nextBelow_29 : decode cS_nextBelow 29 = .ok (.invokevirtual 66, 3) := by decide +kernel
theorem dS_nextBelow_32 : decode cS_nextBelow 32 = .ok (.ifCond .ne 6, 3) := by decide +kernel
theorem dS_nextBelow_35 : decode cS_nextBelow 35 = .ok (.goto 34, 3) := by decide +kernel
theorem dS_nextBelow_38 : decode cS_nextBelow 38 = .ok (.aload_n 3, 1) := by decide +kernel
theorem dS_nextBelow_39 : decode cS_nextBelow 39 = .ok (.getfield 86, 3) := by decide +kernel
theorem dS_nextBelow_42 : decode cS_nextBelow 42 = .ok (.ifCond .ne 12, 3) := by decide +kernel
theorem dS_nextBelow_45 : decode cS_nextBelow 45 = .ok (.aload_n 1, 1) := by decide +kernel
theorem dS_nextBelow_46 : decode cS_nextBelow 46 = .ok (.iload_n 2, 1) := by decide +kernel
theorem dS_nextBelow_47 : decode cS_nextBelow 47 = .ok (.iconst 1, 1) := by decide +kernel
theorem dS_nextBelow_48 : decode cS_nextBelow 48 = .ok (.iadd, 1) := by decide +kernel
theorem dS_nextBelow_49 : decode cS_nextBelow 49 = .ok (.putfield 92, 3) := by decide +kernel
theorem dS_nextBelow_52 : decode cS_nextBelow 52 = .ok (.aload_n 3, 1) := by decide +kernel
theorem dS_nextBelow_53 : decode cS_nextBelow 53 = .ok (.areturn, 1) := by decide +kernel
theorem dS_nextBelow_54 : decode cS_nextBelow 54 = .ok (.aload_n 1, 1) := by decide +kernel
theorem dS_nextBelow_55 : decode cS_nextBelow 55 = .ok (.aload_n 1, 1) := by decide +kernel
theorem dS_nextBelow_56 : decode cS_nextBelow 56 = .ok (.getfield 89, 3) := by decide +kernel
theorem dS_nextBelow_59 : decode cS_nextBelow 59 = .ok (.aload_n 3, 1) := by decide +kernel
theorem dS_nextBelow_60 : decode cS_nextBelow 60 = .ok (.getfield 86, 3) := by decide +kernel
theorem dS_nextBelow_63 : decode cS_nextBelow 63 = .ok (.invokestatic 95, 3) := by decide +kernel
theorem dS_nextBelow_66 : decode cS_nextBelow 66 = .ok (.putfield 89, 3) := by decide +kernel
theorem dS_nextBelow_69 : decode cS_nextBelow 69 = .ok (.iinc 2 1, 3) := by decide +kernel
theorem dS_nextBelow_72 : decode cS_nextBelow 72 = .ok (.goto (-67), 3) := by decide +kernel
theorem dS_nextBelow_75 : decode cS_nextBelow 75 = .ok (.aload_n 1, 1) := by decide +kernel
theorem dS_nextBelow_76 : decode cS_nextBelow 76 = .ok (.aload_n 0, 1) := by decide +kernel
theorem dS_nextBelow_77 : decode cS_nextBelow 77 = .ok (.getfield 30, 3) := by decide +kernel
theorem dS_nextBelow_80 : decode cS_nextBelow 80 = .ok (.putfield 92, 3) := by decide +kernel
theorem dS_nextBelow_83 : decode cS_nextBelow 83 = .ok (.aconst_null, 1) := by decide +kernel
theorem dS_nextBelow_84 : decode cS_nextBelow 84 = .ok (.areturn, 1) := by decide +kernel
theorem dS_leave_0 : decode cS_leave 0 = .ok (.aload_n 0, 1) := by decide +kernel
theorem dS_leave_1 : decode cS_leave 1 = .ok (.dup, 1) := by decide +kernel
theorem dS_leave_2 : decode cS_leave 2 = .ok (.getfield 33, 3) := by decide +kernel
theorem dS_leave_5 : decode cS_leave 5 = .ok (.iconst 1, 1) := by decide +kernel
theorem dS_leave_6 : decode cS_leave 6 = .ok (.isub, 1) := by decide +kernel
theorem dS_leave_7 : decode cS_leave 7 = .ok (.putfield 33, 3) := by decide +kernel
theorem dS_leave_10 : decode cS_leave 10 = .ok (.aload_n 0, 1) := by decide +kernel
theorem dS_leave_11 : decode cS_leave 11 = .ok (.getfield 33, 3) := by decide +kernel
theorem dS_leave_14 : decode cS_leave 14 = .ok (.ifCond .le 30, 3) := by decide +kernel
theorem dS_leave_17 : decode cS_leave 17 = .ok (.aload_n 0, 1) := by decide +kernel
theorem dS_leave_18 : decode cS_leave 18 = .ok (.getfield 20, 3) := by decide +kernel
theorem dS_leave_21 : decode cS_leave 21 = .ok (.aload_n 0, 1) := by decide +kernel
theorem dS_leave_22 : decode cS_leave 22 = .ok (.getfield 33, 3) := by decide +kernel
theorem dS_leave_25 : decode cS_leave 25 = .ok (.iconst 1, 1) := by decide +kernel
theorem dS_leave_26 : decode cS_leave 26 = .ok (.isub, 1) := by decide +kernel
theorem dS_leave_27 : decode cS_leave 27 = .ok (.aaload, 1) := by decide +kernel
theorem dS_leave_28 : decode cS_leave 28 = .ok (.astore_n 2, 1) := by decide +kernel
theorem dS_leave_29 : decode cS_leave 29 = .ok (.aload_n 2, 1) := by decide +kernel
theorem dS_leave_30 : decode cS_leave 30 = .ok (.aload_n 2, 1) := by decide +kernel
theorem dS_leave_31 : decode cS_leave 31 = .ok (.getfield 89, 3) := by decide +kernel
theorem dS_leave_34 : decode cS_leave 34 = .ok (.aload_n 1, 1) := by decide +kernel
theorem dS_leave_35 : decode cS_leave 35 = .ok (.getfield 89, 3) := by decide +kernel
theorem dS_leave_38 : decode cS_leave 38 = .ok (.invokestatic 95, 3) := by decide +kernel
theorem dS_leave_41 : decode cS_leave 41 = .ok (.putfield 89, 3) := by decide +kernel
theorem dS_leave_44 : decode cS_leave 44 = .ok (.aload_n 1, 1) := by decide +kernel
theorem dS_leave_45 : decode cS_leave 45 = .ok (.getfield 89, 3) := by decide +kernel
theorem dS_leave_48 : decode cS_leave 48 = .ok (.aload_n 1, 1) := by decide +kernel
theorem dS_leave_49 : decode cS_leave 49 = .ok (.getfield 86, 3) := by decide +kernel
theorem dS_leave_52 : decode cS_leave 52 = .ok (.if_icmp .ne 8, 3) := by decide +kernel
theorem dS_leave_55 : decode cS_leave 55 = .ok (.aload_n 0, 1) := by decide +kernel
theorem dS_leave_56 : decode cS_leave 56 = .ok (.aload_n 1, 1) := by decide +kernel
theorem dS_leave_57 : decode cS_leave 57 = .ok (.invokevirtual 101, 3) := by decide +kernel
theorem dS_leave_60 : decode cS_leave 60 = .ok (.return_, 1) := by decide +kernel
theorem dS_closeGroup_0 : decode cS_closeGroup 0 = .ok (.aload_n 0, 1) := by decide +kernel
theorem dS_closeGroup_1 : decode cS_closeGroup 1 = .ok (.getfield 36, 3) := by decide +kernel
theorem dS_closeGroup_4 : decode cS_closeGroup 4 = .ok (.ifCond .le 22, 3) := by decide +kernel
theorem dS_closeGroup_7 : decode cS_closeGroup 7 = .ok (.aload_n 0, 1) := by decide +kernel
theorem dS_closeGroup_8 : decode cS_closeGroup 8 = .ok (.getfield 23, 3) := by decide +kernel
theorem dS_closeGroup_11 : decode cS_closeGroup 11 = .ok (.aload_n 0, 1) := by decide +kernel
theorem dS_closeGroup_12 : decode cS_closeGroup 12 = .ok (.getfield 36, 3) := by decide +kernel
theorem dS_closeGroup_15 : decode cS_closeGroup 15 = .ok (.iconst 1, 1) := by decide +kernel
theorem dS_closeGroup_16 : decode cS_closeGroup 16 = .ok (.isub, 1) := by decide +kernel
theorem dS_closeGroup_17 : decode cS_closeGroup 17 = .ok (.aaload, 1) := by decide +kernel
theorem dS_closeGroup_18 : decode cS_closeGroup 18 = .ok (.aload_n 1, 1) := by decide +kernel
theorem dS_closeGroup_19 : decode cS_closeGroup 19 = .ok (.if_acmp .ne 7, 3) := by decide +kernel
theorem dS_closeGroup_22 : decode cS_closeGroup 22 = .ok (.iconst 1, 1) := by decide +kernel
theorem dS_closeGroup_23 : decode cS_closeGroup 23 = .ok (.goto 4, 3) := by decide +kernel
theorem dS_closeGroup_26 : decode cS_closeGroup 26 = .ok (.iconst 0, 1) := by decide +kernel
theorem dS_closeGroup_27 : decode cS_closeGroup 27 = .ok (.istore_n 2, 1) := by decide +kernel
theorem dS_closeGroup_28 : decode cS_closeGroup 28 = .ok (.iload_n 2, 1) := by decide +kernel
theorem dS_closeGroup_29 : decode cS_closeGroup 29 = .ok (.ifCond .eq 38, 3) := by decide +kernel
theorem dS_closeGroup_32 : decode cS_closeGroup 32 = .ok (.aload_n 1, 1) := by decide +kernel
theorem dS_closeGroup_33 : decode cS_closeGroup 33 = .ok (.aload_n 1, 1) := by decide +kernel
theorem dS_closeGroup_34 : decode cS_closeGroup 34 = .ok (.invokevirtual 66, 3) := by decide +kernel
theorem dS_closeGroup_37 : decode cS_closeGroup 37 = .ok (.ifCond .ne 30, 3) := by decide +kernel
theorem dS_closeGroup_40 : decode cS_closeGroup 40 = .ok (.aload_n 1, 1) := by decide +kernel
theorem dS_closeGroup_41 : decode cS_closeGroup 41 = .ok (.iconst 1, 1) := by decide +kernel
theorem dS_closeGroup_42 : decode cS_closeGroup 42 = .ok (.aload_n 0, 1) := by decide +kernel
theorem dS_closeGroup_43 : decode cS_closeGroup 43 = .ok (.aload_n 1, 1) := by decide +kernel
theorem dS_closeGroup_44 : decode cS_closeGroup 44 = .ok (.invokevirtual 104, 3) := by decide +kernel
theorem dS_closeGroup_47 : decode cS_closeGroup 47 = .ok (.iadd, 1) := by decide +kernel
theorem dS_closeGroup_48 : decode cS_closeGroup 48 = .ok (.putfield 108, 3) := by decide +kernel
theorem dS_closeGroup_51 : decode cS_closeGroup 51 = .ok (.aload_n 1, 1) := by decide +kernel
theorem dS_closeGroup_52 : decode cS_closeGroup 52 = .ok (.iconst 1, 1) := by decide +kernel
theorem dS_closeGroup_53 : decode cS_closeGroup 53 = .ok (.putfield 70, 3) := by decide +kernel
theorem dS_closeGroup_56 : decode cS_closeGroup 56 = .ok (.aload_n 0, 1) := by decide +kernel
theorem dS_closeGroup_57 : decode cS_closeGroup 57 = .ok (.dup, 1) := by decide +kernel
theorem dS_closeGroup_58 : decode cS_closeGroup 58 = .ok (.getfield 36, 3) := by decide +kernel
theorem dS_closeGroup_61 : decode cS_closeGroup 61 = .ok (.iconst 1, 1) := by decide +kernel
theorem dS_closeGroup_62 : decode cS_closeGroup 62 = .ok (.isub, 1) := by decide +kernel
theorem dS_closeGroup_63 : decode cS_closeGroup 63 = .ok (.putfield 36, 3) := by decide +kernel
theorem dS_closeGroup_66 : decode cS_closeGroup 66 = .ok (.return_, 1) := by decide +kernel
theorem dS_closeGroup_67 : decode cS_closeGroup 67 = .ok (.aload_n 0, 1) := by decide +kernel
theorem dS_closeGroup_68 : decode cS_closeGroup 68 = .ok (.getfield 36, 3) := by decide +kernel
theorem dS_closeGroup_71 : decode cS_closeGroup 71 = .ok (.ifCond .le 63, 3) := by decide +kernel
theorem dS_closeGroup_74 : decode cS_closeGroup 74 = .ok (.aload_n 0, 1) := by decide +kernel
theorem dS_closeGroup_75 : decode cS_closeGroup 75 = .ok (.getfield 23, 3) := by decide +kernel
theorem dS_closeGroup_78 : decode cS_closeGroup 78 = .ok (.aload_n 0, 1) := by decide +kernel
theorem dS_closeGroup_79 : decode cS_closeGroup 79 = .ok (.getfield 36, 3) := by decide +kernel
theorem dS_closeGroup_82 : decode cS_closeGroup 82 = .ok (.iconst 1, 1) := by decide +kernel
theorem dS_closeGroup_83 : decode cS_closeGroup 83 = .ok (.isub, 1) := by decide +kernel
theorem dS_closeGroup_84 : decode cS_closeGroup 84 = .ok (.aaload, 1) := by decide +kernel
theorem dS_closeGroup_85 : decode cS_closeGroup 85 = .ok (.getfield 86, 3) := by decide +kernel
theorem dS_closeGroup_88 : decode cS_closeGroup 88 = .ok (.aload_n 1, 1) := by decide +kernel
theorem dS_closeGroup_89 : decode cS_closeGroup 89 = .ok (.getfield 86, 3) := by decide +kernel
theorem dS_closeGroup_92 : decode cS_closeGroup 92 = .ok (.if_icmp .lt 42, 3) := by decide +kernel
theorem dS_closeGroup_95 : decode cS_closeGroup 95 = .ok (.aload_n 0, 1) := by decide +kernel
theorem dS_closeGroup_96 : decode cS_closeGroup 96 = .ok (.dup, 1) := by decide +kernel
theorem dS_closeGroup_97 : decode cS_closeGroup 97 = .ok (.getfield 36, 3) := by decide +kernel
theorem dS_closeGroup_100 : decode cS_closeGroup 100 = .ok (.iconst 1, 1) := by decide +kernel
theorem dS_closeGroup_101 : decode cS_closeGroup 101 = .ok (.isub, 1) := by decide +kernel
theorem dS_closeGroup_102 : decode cS_closeGroup 102 = .ok (.putfield 36, 3) := by decide +kernel
theorem dS_closeGroup_105 : decode cS_closeGroup 105 = .ok (.aload_n 0, 1) := by decide +kernel
theorem dS_closeGroup_106 : decode cS_closeGroup 106 = .ok (.getfield 23, 3) := by decide +kernel
theorem dS_closeGroup_109 : decode cS_closeGroup 109 = .ok (.aload_n 0, 1) := by decide +kernel
theorem dS_closeGroup_110 : decode cS_closeGroup 110 = .ok (.getfield 36, 3) := by decide +kernel
theorem dS_closeGroup_113 : decode cS_closeGroup 113 = .ok (.aaload, 1) := by decide +kernel
theorem dS_closeGroup_114 : decode cS_closeGroup 114 = .ok (.iconst 1, 1) := by decide +kernel
theorem dS_closeGroup_115 : decode cS_closeGroup 115 = .ok (.putfield 111, 3) := by decide +kernel
theorem dS_closeGroup_118 : decode cS_closeGroup 118 = .ok (.aload_n 0, 1) := by decide +kernel
theorem dS_closeGroup_119 : decode cS_closeGroup 119 = .ok (.getfield 23, 3) := by decide +kernel
theorem dS_closeGroup_122 : decode cS_closeGroup 122 = .ok (.aload_n 0, 1) := by decide +kernel
theorem dS_closeGroup_123 : decode cS_closeGroup 123 = .ok (.getfield 36, 3) := by decide +kernel
theorem dS_closeGroup_126 : decode cS_closeGroup 126 = .ok (.aaload, 1) := by decide +kernel
theorem dS_closeGroup_127 : decode cS_closeGroup 127 = .ok (.iconst 1, 1) := by decide +kernel
theorem dS_closeGroup_128 : decode cS_closeGroup 128 = .ok (.putfield 70, 3) := by decide +kernel
theorem dS_closeGroup_131 : decode cS_closeGroup 131 = .ok (.goto (-64), 3) := by decide +kernel
theorem dS_closeGroup_134 : decode cS_closeGroup 134 = .ok (.return_, 1) := by decide +kernel
theorem dS_greatestRankBelow_0 : decode cS_greatestRankBelow 0 = .ok (.iconst 0, 1) := by decide +kernel
theorem dS_greatestRankBelow_1 : decode cS_greatestRankBelow 1 = .ok (.istore_n 2, 1) := by decide +kernel
theorem dS_greatestRankBelow_2 : decode cS_greatestRankBelow 2 = .ok (.iconst 0, 1) := by decide +kernel
theorem dS_greatestRankBelow_3 : decode cS_greatestRankBelow 3 = .ok (.istore_n 3, 1) := by decide +kernel
theorem dS_greatestRankBelow_4 : decode cS_greatestRankBelow 4 = .ok (.iload_n 3, 1) := by decide +kernel
theorem dS_greatestRankBelow_5 : decode cS_greatestRankBelow 5 = .ok (.aload_n 0, 1) := by decide +kernel
theorem dS_greatestRankBelow_6 : decode cS_greatestRankBelow 6 = .ok (.getfield 30, 3) := by decide +kernel
theorem dS_greatestRankBelow_9 : decode cS_greatestRankBelow 9 = .ok (.if_icmp .ge 36, 3) := by decide +kernel
theorem dS_greatestRankBelow_12 : decode cS_greatestRankBelow 12 = .ok (.aload_n 1, 1) := by decide +kernel
theorem dS_greatestRankBelow_13 : decode cS_greatestRankBelow 13 = .ok (.aload_n 0, 1) := by decide +kernel
theorem dS_greatestRankBelow_14 : decode cS_greatestRankBelow 14 = .ok (.getfield 17, 3) := by decide +kernel
theorem dS_greatestRankBelow_17 : decode cS_greatestRankBelow 17 = .ok (.iload_n 3, 1) := by decide +kernel
theorem dS_greatestRankBelow_18 : decode cS_greatestRankBelow 18 = .ok (.aaload, 1) := by decide +kernel
theorem dS_greatestRankBelow_19 : decode cS_greatestRankBelow 19 = .ok (.invokevirtual 66, 3) := by decide +kernel
theorem dS_greatestRankBelow_22 : decode cS_greatestRankBelow 22 = .ok (.ifCond .eq 17, 3) := by decide +kernel
theorem dS_greatestRankBelow_25 : decode cS_greatestRankBelow 25 = .ok (.iload_n 2, 1) := by decide +kernel
theorem dS_greatestRankBelow_26 : decode cS_greatestRankBelow 26 = .ok (.aload_n 0, 1) := by decide +kernel
theorem dS_greatestRankBelow_27 : decode cS_greatestRankBelow 27 = .ok (.getfield 17, 3) := by decide +kernel
theorem dS_greatestRankBelow_30 : decode cS_greatestRankBelow 30 = .ok (.iload_n 3, 1) := by decide +kernel
theorem dS_greatestRankBelow_31 : decode cS_greatestRankBelow 31 = .ok (.aaload, 1) := by decide +kernel
theorem dS_greatestRankBelow_32 : decode cS_greatestRankBelow 32 = .ok (.getfield 108, 3) := by decide +kernel
theorem dS_greatestRankBelow_35 : decode cS_greatestRankBelow 35 = .ok (.invokestatic 114, 3) := by decide +kernel
theorem dS_greatestRankBelow_38 : decode cS_greatestRankBelow 38 = .ok (.istore_n 2, 1) := by decide +kernel
theorem dS_greatestRankBelow_39 : decode cS_greatestRankBelow 39 = .ok (.iinc 3 1, 3) := by decide +kernel
theorem dS_greatestRankBelow_42 : decode cS_greatestRankBelow 42 = .ok (.goto (-38), 3) := by decide +kernel
theorem dS_greatestRankBelow_45 : decode cS_greatestRankBelow 45 = .ok (.iload_n 2, 1) := by decide +kernel
theorem dS_greatestRankBelow_46 : decode cS_greatestRankBelow 46 = .ok (.ireturn, 1) := by decide +kernel
theorem dA_fill_0 : decode cA_fill 0 = .ok (.iconst 0, 1) := by decide +kernel
theorem dA_fill_1 : decode cA_fill 1 = .ok (.istore_n 2, 1) := by decide +kernel
theorem dA_fill_2 : decode cA_fill 2 = .ok (.aload_n 0, 1) := by decide +kernel
theorem dA_fill_3 : decode cA_fill 3 = .ok (.arraylength, 1) := by decide +kernel
theorem dA_fill_4 : decode cA_fill 4 = .ok (.istore_n 3, 1) := by decide +kernel
theorem dA_fill_5 : decode cA_fill 5 = .ok (.iload_n 2, 1) := by decide +kernel
theorem dA_fill_6 : decode cA_fill 6 = .ok (.iload_n 3, 1) := by decide +kernel
theorem dA_fill_7 : decode cA_fill 7 = .ok (.if_icmp .ge 13, 3) := by decide +kernel
theorem dA_fill_10 : decode cA_fill 10 = .ok (.aload_n 0, 1) := by decide +kernel
theorem dA_fill_11 : decode cA_fill 11 = .ok (.iload_n 2, 1) := by decide +kernel
theorem dA_fill_12 : decode cA_fill 12 = .ok (.iload_n 1, 1) := by decide +kernel
theorem dA_fill_13 : decode cA_fill 13 = .ok (.iastore, 1) := by decide +kernel
theorem dA_fill_14 : decode cA_fill 14 = .ok (.iinc 2 1, 3) := by decide +kernel
theorem dA_fill_17 : decode cA_fill 17 = .ok (.goto (-12), 3) := by decide +kernel
theorem dA_fill_20 : decode cA_fill 20 = .ok (.return_, 1) := by decide +kernel
