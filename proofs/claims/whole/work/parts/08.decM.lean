theorem dX10_init_0 : decode cX10_init 0 = .ok (.aload_n 0, 1) := by decide +kernel
theorem dX10_init_1 : decode cX10_init 1 = .ok (.invokespecial 1, 3) := by decide +kernel
theorem dX10_init_4 : decode cX10_init 4 = .ok (.aload_n 0, 1) := by decide +kernel
theorem dX10_init_5 : decode cX10_init 5 = .ok (.sipush 26100, 3) := by decide +kernel
theorem dX10_init_8 : decode cX10_init 8 = .ok (.newarray .int, 2) := by decide +kernel
theorem dX10_init_10 : decode cX10_init 10 = .ok (.putfield 9, 3) := by decide +kernel
theorem dX10_init_13 : decode cX10_init 13 = .ok (.aload_n 0, 1) := by decide +kernel
theorem dX10_init_14 : decode cX10_init 14 = .ok (.sipush 26100, 3) := by decide +kernel
theorem dX10_init_17 : decode cX10_init 17 = .ok (.newarray .int, 2) := by decide +kernel
theorem dX10_init_19 : decode cX10_init 19 = .ok (.putfield 13, 3) := by decide +kernel
theorem dX10_init_22 : decode cX10_init 22 = .ok (.aload_n 0, 1) := by decide +kernel
theorem dX10_init_23 : decode cX10_init 23 = .ok (.sipush 26100, 3) := by decide +kernel
theorem dX10_init_26 : decode cX10_init 26 = .ok (.newarray .int, 2) := by decide +kernel
theorem dX10_init_28 : decode cX10_init 28 = .ok (.putfield 16, 3) := by decide +kernel
theorem dX10_init_31 : decode cX10_init 31 = .ok (.aload_n 0, 1) := by decide +kernel
theorem dX10_init_32 : decode cX10_init 32 = .ok (.bipush 14, 2) := by decide +kernel
theorem dX10_init_34 : decode cX10_init 34 = .ok (.newarray .int, 2) := by decide +kernel
theorem dX10_init_36 : decode cX10_init 36 = .ok (.putfield 19, 3) := by decide +kernel
theorem dX10_init_39 : decode cX10_init 39 = .ok (.aload_n 0, 1) := by decide +kernel
theorem dX10_init_40 : decode cX10_init 40 = .ok (.sipush 500, 3) := by decide +kernel
theorem dX10_init_43 : decode cX10_init 43 = .ok (.newarray .int, 2) := by decide +kernel
theorem dX10_init_45 : decode cX10_init 45 = .ok (.putfield 22, 3) := by decide +kernel
theorem dX10_init_48 : decode cX10_init 48 = .ok (.aload_n 0, 1) := by decide +kernel
theorem dX10_init_49 : decode cX10_init 49 = .ok (.sipush 500, 3) := by decide +kernel
theorem dX10_init_52 : decode cX10_init 52 = .ok (.newarray .int, 2) := by decide +kernel
theorem dX10_init_54 : decode cX10_init 54 = .ok (.putfield 25, 3) := by decide +kernel
theorem dX10_init_57 : decode cX10_init 57 = .ok (.aload_n 0, 1) := by decide +kernel
theorem dX10_init_58 : decode cX10_init 58 = .ok (.sipush 500, 3) := by decide +kernel
theorem dX10_init_61 : decode cX10_init 61 = .ok (.newarray .boolean, 2) := by decide +kernel
theorem dX10_init_63 : decode cX10_init 63 = .ok (.putfield 28, 3) := by decide +kernel
theorem dX10_init_66 : decode cX10_init 66 = .ok (.aload_n 0, 1) := by decide +kernel
theorem dX10_init_67 : decode cX10_init 67 = .ok (.sipush 501, 3) := by decide +kernel
theorem dX10_init_70 : decode cX10_init 70 = .ok (.newarray .int, 2) := by decide +kernel
theorem dX10_init_72 : decode cX10_init 72 = .ok (.putfield 32, 3) := by decide +kernel
theorem dX10_init_75 : decode cX10_init 75 = .ok (.aload_n 0, 1) := by decide +kernel
theorem dX10_init_76 : decode cX10_init 76 = .ok (.sipush 500, 3) := by decide +kernel
theorem dX10_init_79 : decode cX10_init 79 = .ok (.newarray .int, 2) := by decide +kernel
theorem dX10_init_81 : decode cX10_init 81 = .ok (.putfield 35, 3) := by decide +kernel
theorem dX10_init_84 : decode cX10_init 84 = .ok (.aload_n 0, 1) := by decide +kernel
theorem dX10_init_85 : decode cX10_init 85 = .ok (.sipush 256, 3) := by decide +kernel
theorem dX10_init_88 : decode cX10_init 88 = .ok (.invokevirtual 38, 3) := by decide +kernel
theorem dX10_init_91 : decode cX10_init 91 = .ok (.return_, 1) := by decide +kernel
theorem dX10_first_0 : decode cX10_first 0 = .ok (.iconst 0, 1) := by decide +kernel
theorem dX10_first_1 : decode cX10_first 1 = .ok (.istore_n 2, 1) := by decide +kernel
theorem dX10_first_2 : decode cX10_first 2 = .ok (.iload_n 2, 1) := by decide +kernel
theorem dX10_first_3 : decode cX10_first 3 = .ok (.sipush 26100, 3) := by decide +kernel
theorem dX10_first_6 : decode cX10_first 6 = .ok (.if_icmp .ge 16, 3) := by decide +kernel
theorem dX10_first_9 : decode cX10_first 9 = .ok (.aload_n 0, 1) := by decide +kernel
theorem dX10_first_10 : decode cX10_first 10 = .ok (.getfield 9, 3) := by decide +kernel
theorem dX10_first_13 : decode cX10_first 13 = .ok (.iload_n 2, 1) := by decide +kernel
theorem dX10_first_14 : decode cX10_first 14 = .ok (.iconst 0, 1) := by decide +kernel
theorem dX10_first_15 : decode cX10_first 15 = .ok (.iastore, 1) := by decide +kernel
theorem dX10_first_16 : decode cX10_first 16 = .ok (.iinc 2 1, 3) := by decide +kernel
theorem dX10_first_19 : decode cX10_first 19 = .ok (.goto (-17), 3) := by decide +kernel
theorem dX10_first_22 : decode cX10_first 22 = .ok (.aload_n 0, 1) := by decide +kernel
theorem dX10_first_23 : decode cX10_first 23 = .ok (.getfield 9, 3) := by decide +kernel
theorem dX10_first_26 : decode cX10_first 26 = .ok (.iconst 0, 1) := by decide +kernel
theorem dX10_first_27 : decode cX10_first 27 = .ok (.iload_n 1, 1) := by decide +kernel
theorem dX10_first_28 : decode cX10_first 28 = .ok (.iastore, 1) := by decide +kernel
theorem dX10_first_29 : decode cX10_first 29 = .ok (.bipush 20, 2) := by decide +kernel
theorem dX10_first_31 : decode cX10_first 31 = .ok (.istore_n 2, 1) := by decide +kernel
theorem dX10_first_32 : decode cX10_first 32 = .ok (.iload_n 2, 1) := by decide +kernel
theorem dX10_first_33 : decode cX10_first 33 = .ok (.bipush 84, 2) := by decide +kernel
theorem dX10_first_35 : decode cX10_first 35 = .ok (.if_icmp .ge 16, 3) := by decide +kernel
theorem dX10_first_38 : decode cX10_first 38 = .ok (.aload_n 0, 1) := by decide +kernel
theorem dX10_first_39 : decode cX10_first 39 = .ok (.getfield 9, 3) := by decide +kernel
theorem dX10_first_42 : decode cX10_first 42 = .ok (.iload_n 2, 1) := by decide +kernel
theorem dX10_first_43 : decode cX10_first 43 = .ok (.iconst (-1), 1) := by decide +kernel
theorem dX10_first_44 : decode cX10_first 44 = .ok (.iastore, 1) := by decide +kernel
theorem dX10_first_45 : decode cX10_first 45 = .ok (.iinc 2 1, 3) := by decide +kernel
theorem dX10_first_48 : decode cX10_first 48 = .ok (.goto (-16), 3) := by decide +kernel
theorem dX10_first_51 : decode cX10_first 51 = .ok (.aload_n 0, 1) := by decide +kernel
theorem dX10_first_52 : decode cX10_first 52 = .ok (.iconst 0, 1) := by decide +kernel
theorem dX10_first_53 : decode cX10_first 53 = .ok (.putfield 42, 3) := by decide +kernel
theorem dX10_first_56 : decode cX10_first 56 = .ok (.aload_n 0, 1) := by decide +kernel
theorem dX10_first_57 : decode cX10_first 57 = .ok (.iconst 0, 1) := by decide +kernel
theorem dX10_first_58 : decode cX10_first 58 = .ok (.putfield 46, 3) := by decide +kernel
theorem dX10_first_61 : decode cX10_first 61 = .ok (.aload_n 0, 1) := by decide +kernel
theorem dX10_first_62 : decode cX10_first 62 = .ok (.iconst 0, 1) := by decide +kernel
theorem dX10_first_63 : decode cX10_first 63 = .ok (.putfield 49, 3) := by decide +kernel
theorem dX10_first_66 : decode cX10_first 66 = .ok (.aload_n 0, 1) := by decide +kernel
theorem dX10_first_67 : decode cX10_first 67 = .ok (.iconst 0, 1) := by decide +kernel
theorem dX10_first_68 : decode cX10_first 68 = .ok (.putfield 53, 3) := by decide +kernel
theorem dX10_first_71 : decode cX10_first 71 = .ok (.aload_n 0, 1) := by decide +kernel
theorem dX10_first_72 : decode cX10_first 72 = .ok (.iconst 0, 1) := by decide +kernel
theorem dX10_first_73 : decode cX10_first 73 = .ok (.putfield 56, 3) := by decide +kernel
theorem dX10_first_76 : decode cX10_first 76 = .ok (.return_, 1) := by decide +kernel
theorem dX10_in_0 : decode cX10_in 0 = .ok (.lload_n 0, 1) := by decide +kernel
theorem dX10_in_1 : decode cX10_in 1 = .ok (.lload_n 2, 1) := by decide +kernel
theorem dX10_in_2 : decode cX10_in 2 = .ok (.lcmp, 1) := by decide +kernel
theorem dX10_in_3 : decode cX10_in 3 = .ok (.ifCond .lt 14, 3) := by decide +kernel
theorem dX10_in_6 : decode cX10_in 6 = .ok (.lload_n 0, 1) := by decide +kernel
theorem dX10_in_7 : decode cX10_in 7 = .ok (.lload 4, 2) := by decide +kernel
theorem dX10_in_9 : decode cX10_in 9 = .ok (.lcmp, 1) := by decide +kernel
theorem dX10_in_10 : decode cX10_in 10 = .ok (.ifCond .gt 7, 3) := by decide +kernel
theorem dX10_in_13 : decode cX10_in 13 = .ok (.iconst 1, 1) := by decide +kernel
theorem dX10_in_14 : decode cX10_in 14 = .ok (.goto 4, 3) := by decide +kernel
theorem dX10_in_17 : decode cX10_in 17 = .ok (.iconst 0, 1) := by decide +kernel
theorem dX10_in_18 : decode cX10_in 18 = .ok (.ireturn, 1) := by decide +kernel
theorem dX10_size_0 : decode cX10_size 0 = .ok (.iload_n 1, 1) := by decide +kernel
theorem dX10_size_1 : decode cX10_size 1 = .ok (.i2l, 1) := by decide +kernel
theorem dX10_size_2 : decode cX10_size 2 = .ok (.ldc2_w 59, 3) := by decide +kernel
theorem dX10_size_5 : decode cX10_size 5 = .ok (.ldc2_w 61, 3) := by decide +kernel
theorem dX10_size_8 : decode cX10_size 8 = .ok (.invokestatic 63, 3) := by decide +kernel
theorem dX10_size_11 : decode cX10_size 11 = .ok (.ifCond .ne 6, 3) := by decide +kernel
theorem dX10_size_14 : decode cX10_size 14 = .ok (.bipush (-102), 2) := by decide +kernel
theorem dX10_size_16 : decode cX10_size 16 = .ok (.ireturn, 1) := by decide +kernel
theorem dX10_size_17 : decode cX10_size 17 = .ok (.aload_n 0, 1) := by decide +kernel
theorem dX10_size_18 : decode cX10_size 18 = .ok (.iload_n 1, 1) := by decide +kernel
theorem dX10_size_19 : decode cX10_size 19 = .ok (.invokevirtual 38, 3) := by decide +kernel
theorem dX10_size_22 : decode cX10_size 22 = .ok (.iconst 1, 1) := by decide +kernel
theorem dX10_size_23 : decode cX10_size 23 = .ok (.ireturn, 1) := by decide +kernel
theorem dX10_of_0 : decode cX10_of 0 = .ok (.aload_n 0, 1) := by decide +kernel
theorem dX10_of_1 : decode cX10_of 1 = .ok (.getfield 9, 3) := by decide +kernel
theorem dX10_of_4 : decode cX10_of 4 = .ok (.sipush 1100, 3) := by decide +kernel
theorem dX10_of_7 : decode cX10_of 7 = .ok (.bipush 10, 2) := by decide +kernel
theorem dX10_of_9 : decode cX10_of 9 = .ok (.iload_n 1, 1) := by decide +kernel
theorem dX10_of_10 : decode cX10_of 10 = .ok (.imul, 1) := by decide +kernel
theorem dX10_of_11 : decode cX10_of 11 = .ok (.iadd, 1) := by decide +kernel
theorem dX10_of_12 : decode cX10_of 12 = .ok (.iload_n 2, 1) := by decide +kernel
theorem dX10_of_13 : decode cX10_of 13 = .ok (.iadd, 1) := by decide +kernel
theorem dX10_of_14 : decode cX10_of 14 = .ok (.iaload, 1) := by decide +kernel
theorem dX10_of_15 : decode cX10_of 15 = .ok (.ireturn, 1) := by decide +kernel
theorem dX10_lets_0 : decode cX10_lets 0 = .ok (.aload_n 0, 1) := by decide +kernel
theorem dX10_lets_1 : decode cX10_lets 1 = .ok (.getfield 9, 3) := by decide +kernel
theorem dX10_lets_4 : decode cX10_lets 4 = .ok (.sipush 1100, 3) := by decide +kernel
theorem dX10_lets_7 : decode cX10_lets 7 = .ok (.bipush 10, 2) := by decide +kernel
theorem dX10_lets_9 : decode cX10_lets 9 = .ok (.iload_n 1, 1) := by decide +kernel
theorem dX10_lets_10 : decode cX10_lets 10 = .ok (.imul, 1) := by decide +kernel
theorem dX10_lets_11 : decode cX10_lets 11 = .ok (.iadd, 1) := by decide +kernel
theorem dX10_lets_12 : decode cX10_lets 12 = .ok (.iload_n 2, 1) := by decide +kernel
theorem dX10_lets_13 : decode cX10_lets 13 = .ok (.iadd, 1) := by decide +kernel
theorem dX10_lets_14 : decode cX10_lets 14 = .ok (.iload_n 3, 1) := by decide +kernel
theorem dX10_lets_15 : decode cX10_lets 15 = .ok (.iastore, 1) := by decide +kernel
theorem dX10_lets_16 : decode cX10_lets 16 = .ok (.return_, 1) := by decide +kernel
theorem dX10_isMade_0 : decode cX10_isMade 0 = .ok (.iload_n 1, 1) := by decide +kernel
theorem dX10_isMade_1 : decode cX10_isMade 1 = .ok (.i2l, 1) := by decide +kernel
theorem dX10_isMade_2 : decode cX10_isMade 2 = .ok (.lconst 0, 1) := by decide +kernel
theorem dX10_isMade_3 : decode cX10_isMade 3 = .ok (.aload_n 0, 1) := by decide +kernel
theorem dX10_isMade_4 : decode cX10_isMade 4 = .ok (.getfield 9, 3) := by decide +kernel
theorem dX10_isMade_7 : decode cX10_isMade 7 = .ok (.iconst 1, 1) := by decide +kernel
theorem dX10_isMade_8 : decode cX10_isMade 8 = .ok (.iaload, 1) := by decide +kernel
theorem dX10_isMade_9 : decode cX10_isMade 9 = .ok (.iconst 1, 1) := by decide +kernel
theorem dX10_isMade_10 : decode cX10_isMade 10 = .ok (.isub, 1) := by decide +kernel
theorem dX10_isMade_11 : decode cX10_isMade 11 = .ok (.i2l, 1) := by decide +kernel
theorem dX10_isMade_12 : decode cX10_isMade 12 = .ok (.invokestatic 63, 3) := by decide +kernel
theorem dX10_isMade_15 : decode cX10_isMade 15 = .ok (.ireturn, 1) := by decide +kernel
theorem dX10_mayBe_0 : decode cX10_mayBe 0 = .ok (.iload_n 1, 1) := by decide +kernel
theorem dX10_mayBe_1 : decode cX10_mayBe 1 = .ok (.iconst (-1), 1) := by decide +kernel
theorem dX10_mayBe_2 : decode cX10_mayBe 2 = .ok (.if_icmp .eq 11, 3) := by decide +kernel
theorem dX10_mayBe_5 : decode cX10_mayBe 5 = .ok (.aload_n 0, 1) := by decide +kernel
theorem dX10_mayBe_6 : decode cX10_mayBe 6 = .ok (.iload_n 1, 1) := by decide +kernel
theorem dX10_mayBe_7 : decode cX10_mayBe 7 = .ok (.invokevirtual 67, 3) := by decide +kernel
theorem dX10_mayBe_10 : decode cX10_mayBe 10 = .ok (.ifCond .eq 7, 3) := by decide +kernel
theorem dX10_mayBe_13 : decode cX10_mayBe 13 = .ok (.iconst 1, 1) := by decide +kernel
theorem dX10_mayBe_14 : decode cX10_mayBe 14 = .ok (.goto 4, 3) := by decide +kernel
theorem dX10_mayBe_17 : decode cX10_mayBe 17 = .ok (.iconst 0, 1) := by decide +kernel
theorem dX10_mayBe_18 : decode cX10_mayBe 18 = .ok (.ireturn, 1) := by decide +kernel
theorem dX10_isGone_0 : decode cX10_isGone 0 = .ok (.iload_n 1, 1) := by decide +kernel
theorem dX10_isGone_1 : decode cX10_isGone 1 = .ok (.iconst (-1), 1) := by decide +kernel
theorem dX10_isGone_2 : decode cX10_isGone 2 = .ok (.if_icmp .eq 12, 3) := by decide +kernel
theorem dX10_isGone_5 : decode cX10_isGone 5 = .ok (.aload_n 0, 1) := by decide +kernel
theorem dX10_isGone_6 : decode cX10_isGone 6 = .ok (.iload_n 1, 1) := by decide +kernel
theorem dX10_isGone_7 : decode cX10_isGone 7 = .ok (.iconst 0, 1) := by decide +kernel
theorem dX10_isGone_8 : decode cX10_isGone 8 = .ok (.invokevirtual 71, 3) := by decide +kernel
theorem dX10_isGone_11 : decode cX10_isGone 11 = .ok (.ifCond .ne 7, 3) := by decide +kernel
theorem dX10_isGone_14 : decode cX10_isGone 14 = .ok (.iconst 1, 1) := by decide +kernel
theorem dX10_isGone_15 : decode cX10_isGone 15 = .ok (.goto 4, 3) := by decide +kernel
theorem dX10_isGone_18 : decode cX10_isGone 18 = .ok (.iconst 0, 1) := by decide +kernel
theorem dX10_isGone_19 : decode cX10_isGone 19 = .ok (.ireturn, 1) := by decide +kernel
theorem dX10_hasMany_0 : decode cX10_hasMany 0 = .ok (.iload_n 0, 1) := by decide +kernel
theorem dX10_hasMany_1 : decode cX10_hasMany 1 = .ok (.iconst 1, 1) := by decide +kernel
theorem dX10_hasMany_2 : decode cX10_hasMany 2 = .ok (.if_icmp .eq 13, 3) := by decide +kernel
theorem dX10_hasMany_5 : decode cX10_hasMany 5 = .ok (.iload_n 0, 1) := by decide +kernel
theorem dX10_hasMany_6 : decode cX10_hasMany 6 = .ok (.iconst 2, 1) := by decide +kernel
theorem dX10_hasMany_7 : decode cX10_hasMany 7 = .ok (.if_icmp .eq 8, 3) := by decide +kernel
theorem dX10_hasMany_10 : decode cX10_hasMany 10 = .ok (.iload_n 0, 1) := by decide +kernel
theorem dX10_hasMany_11 : decode cX10_hasMany 11 = .ok (.iconst 5, 1) := by decide +kernel
theorem dX10_hasMany_12 : decode cX10_hasMany 12 = .ok (.if_icmp .ne 7, 3) := by decide +kernel
theorem dX10_hasMany_15 : decode cX10_hasMany 15 = .ok (.iconst 1, 1) := by decide +kernel
theorem dX10_hasMany_16 : decode cX10_hasMany 16 = .ok (.goto 4, 3) := by decide +kernel
theorem dX10_hasMany_19 : decode cX10_hasMany 19 = .ok (.iconst 0, 1) := by decide +kernel
theorem dX10_hasMany_20 : decode cX10_hasMany 20 = .ok (.ireturn, 1) := by decide +kernel
theorem dX10_sizeOf_0 : decode cX10_sizeOf 0 = .ok (.iload_n 0, 1) := by decide +kernel
theorem dX10_sizeOf_1 : decode cX10_sizeOf 1 = .ok (.tableswitch 53 0 5 #[39, 43, 53, 39, 41, 47], 39) := by decide +kernel
theorem dX10_sizeOf_40 : decode cX10_sizeOf 40 = .ok (.iconst 3, 1) := by decide +kernel
theorem dX10_sizeOf_41 : decode cX10_sizeOf 41 = .ok (.ireturn, 1) := by decide +kernel
theorem dX10_sizeOf_42 : decode cX10_sizeOf 42 = .ok (.iconst 4, 1) := by decide +kernel
theorem dX10_sizeOf_43 : decode cX10_sizeOf 43 = .ok (.ireturn, 1) := by decide +kernel
theorem dX10_sizeOf_44 : decode cX10_sizeOf 44 = .ok (.iconst 2, 1) := by decide +kernel
theorem dX10_sizeOf_45 : decode cX10_sizeOf 45 = .ok (.iload_n 1, 1) := by decide +kernel
theorem dX10_sizeOf_46 : decode cX10_sizeOf 46 = .ok (.iadd, 1) := by decide +kernel
theorem dX10_sizeOf_47 : decode cX10_sizeOf 47 = .ok (.ireturn, 1) := by decide +kernel
theorem dX10_sizeOf_48 : decode cX10_sizeOf 48 = .ok (.iconst 2, 1) := by decide +kernel
theorem dX10_sizeOf_49 : decode cX10_sizeOf 49 = .ok (.iconst 2, 1) := by decide +kernel
theorem dX10_sizeOf_50 : decode cX10_sizeOf 50 = .ok (.iload_n 1, 1) := by decide +kernel
theorem dX10_sizeOf_51 : decode cX10_sizeOf 51 = .ok (.imul, 1) := by decide +kernel
theorem dX10_sizeOf_52 : decode cX10_sizeOf 52 = .ok (.iadd, 1) := by decide +kernel
theorem dX10_sizeOf_53 : decode cX10_sizeOf 53 = .ok (.ireturn, 1) := by decide +kernel
theorem dX10_sizeOf_54 : decode cX10_sizeOf 54 = .ok (.iconst 2, 1) := by decide +kernel
theorem dX10_sizeOf_55 : decode cX10_sizeOf 55 = .ok (.iload_n 1, 1) := by decide +kernel
theorem dX10_sizeOf_56 : decode cX10_sizeOf 56 = .ok (.iconst 3, 1) := by decide +kernel
theorem dX10_sizeOf_57 : decode cX10_sizeOf 57 = .ok (.iadd, 1) := by decide +kernel
theorem dX10_sizeOf_58 : decode cX10_sizeOf 58 = .ok (.iconst 4, 1) := by decide +kernel
theorem dX10_sizeOf_59 : decode cX10_sizeOf 59 = .ok (.idiv, 1) := by decide +kernel
theorem dX10_sizeOf_60 : decode cX10_sizeOf 60 = .ok (.iadd, 1) := by decide +kernel
theorem dX10_sizeOf_61 : decode cX10_sizeOf 61 = .ok (.ireturn, 1) := by decide +kernel
theorem dX10_sizeAt_0 : decode cX10_sizeAt 0 = .ok (.aload_n 0, 1) := by decide +kernel
theorem dX10_sizeAt_1 : decode cX10_sizeAt 1 = .ok (.iload_n 1, 1) := by decide +kernel
theorem dX10_sizeAt_2 : decode cX10_sizeAt 2 = .ok (.iconst 1, 1) := by decide +kernel
theorem dX10_sizeAt_3 : decode cX10_sizeAt 3 = .ok (.invokevirtual 71, 3) := by decide +kernel
theorem dX10_sizeAt_6 : decode cX10_sizeAt 6 = .ok (.aload_n 0, 1) := by decide +kernel
theorem dX10_sizeAt_7 : decode cX10_sizeAt 7 = .ok (.iload_n 1, 1) := by decide +kernel
theorem dX10_sizeAt_8 : decode cX10_sizeAt 8 = .ok (.iconst 3, 1) := by decide +kernel
theorem dX10_sizeAt_9 : decode cX10_sizeAt 9 = .ok (.invokevirtual 71, 3) := by decide +kernel
theorem dX10_sizeAt_12 : decode cX10_sizeAt 12 = .ok (.invokestatic 75, 3) := by decide +kernel
theorem dX10_sizeAt_15 : decode cX10_sizeAt 15 = .ok (.ireturn, 1) := by decide +kernel
theorem dX10_linksOf_0 : decode cX10_linksOf 0 = .ok (.aload_n 0, 1) := by decide +kernel
theorem dX10_linksOf_1 : decode cX10_linksOf 1 = .ok (.iload_n 1, 1) := by decide +kernel
theorem dX10_linksOf_2 : decode cX10_linksOf 2 = .ok (.iconst 1, 1) := by decide +kernel
theorem dX10_linksOf_3 : decode cX10_linksOf 3 = .ok (.invokevirtual 71, 3) := by decide +kernel
theorem dX10_linksOf_6 : decode cX10_linksOf 6 = .ok (.istore_n 2, 1) := by decide +kernel
theorem dX10_linksOf_7 : decode cX10_linksOf 7 = .ok (.iload_n 2, 1) := by decide +kernel
theorem dX10_linksOf_8 : decode cX10_linksOf 8 = .ok (.ifCond .ne 7, 3) := by decide +kernel
theorem dX10_linksOf_11 : decode cX10_linksOf 11 = .ok (.iconst 2, 1) := by decide +kernel
theorem dX10_linksOf_12 : decode cX10_linksOf 12 = .ok (.goto 32, 3) := by decide +kernel
theorem dX10_linksOf_15 : decode cX10_linksOf 15 = .ok (.iload_n 2, 1) := by decide +kernel
theorem dX10_linksOf_16 : decode cX10_linksOf 16 = .ok (.iconst 3, 1) := by decide +kernel
theorem dX10_linksOf_17 : decode cX10_linksOf 17 = .ok (.if_icmp .eq 8, 3) := by decide +kernel
theorem dX10_linksOf_20 : decode cX10_linksOf 20 = .ok (.iload_n 2, 1) := by decide +kernel
theorem dX10_linksOf_21 : decode cX10_linksOf 21 = .ok (.iconst 4, 1) := by decide +kernel
theorem dX10_linksOf_22 : decode cX10_linksOf 22 = .ok (.if_icmp .ne 7, 3) := by decide +kernel
theorem dX10_linksOf_25 : decode cX10_linksOf 25 = .ok (.iconst 1, 1) := by decide +kernel
theorem dX10_linksOf_26 : decode cX10_linksOf 26 = .ok (.goto 18, 3) := by decide +kernel
theorem dX10_linksOf_29 : decode cX10_linksOf 29 = .ok (.iload_n 2, 1) := by decide +kernel
theorem dX10_linksOf_30 : decode cX10_linksOf 30 = .ok (.iconst 2, 1) := by decide +kernel
theorem dX10_linksOf_31 : decode cX10_linksOf 31 = .ok (.if_icmp .ne 7, 3) := by decide +kernel
theorem dX10_linksOf_34 : decode cX10_linksOf 34 = .ok (.iconst 0, 1) := by decide +kernel
theorem dX10_linksOf_35 : decode cX10_linksOf 35 = .ok (.goto 9, 3) := by decide +kernel
theorem dX10_linksOf_38 : decode cX10_linksOf 38 = .ok (.aload_n 0, 1) := by decide +kernel
theorem dX10_linksOf_39 : decode cX10_linksOf 39 = .ok (.iload_n 1, 1) := by decide +kernel
theorem dX10_linksOf_40 : decode cX10_linksOf 40 = .ok (.iconst 3, 1) := by decide +kernel
theorem dX10_linksOf_41 : decode cX10_linksOf 41 = .ok (.invokevirtual 71, 3) := by decide +kernel
theorem dX10_linksOf_44 : decode cX10_linksOf 44 = .ok (.ireturn, 1) := by decide +kernel
theorem dX10_linkAt_0 : decode cX10_linkAt 0 = .ok (.aload_n 0, 1) := by decide +kernel
theorem dX10_linkAt_1 : decode cX10_linkAt 1 = .ok (.iload_n 1, 1) := by decide +kernel
theorem dX10_linkAt_2 : decode cX10_linkAt 2 = .ok (.iconst 1, 1) := by decide +kernel
theorem dX10_linkAt_3 : decode cX10_linkAt 3 = .ok (.invokevirtual 71, 3) := by decide +kernel
theorem dX10_linkAt_6 : decode cX10_linkAt 6 = .ok (.istore_n 3, 1) := by decide +kernel
theorem dX10_linkAt_7 : decode cX10_linkAt 7 = .ok (.sipush 6100, 3) := by decide +kernel
theorem dX10_linkAt_10 : decode cX10_linkAt 10 = .ok (.aload_n 0, 1) := by decide +kernel
theorem dX10_linkAt_11 : decode cX10_linkAt 11 = .ok (.iload_n 1, 1) := by decide +kernel
theorem dX10_linkAt_12 : decode cX10_linkAt 12 = .ok (.iconst 2, 1) := by decide +kernel
theorem dX10_linkAt_13 : decode cX10_linkAt 13 = .ok (.invokevirtual 71, 3) := by decide +kernel
theorem dX10_linkAt_16 : decode cX10_linkAt 16 = .ok (.iadd, 1) := by decide +kernel
theorem dX10_linkAt_17 : decode cX10_linkAt 17 = .ok (.iload_n 3, 1) := by decide +kernel
theorem dX10_linkAt_18 : decode cX10_linkAt 18 = .ok (.iconst 1, 1) := by decide +kernel
theorem dX10_linkAt_19 : decode cX10_linkAt 19 = .ok (.if_icmp .eq 8, 3) := by decide +kernel
theorem dX10_linkAt_22 : decode cX10_linkAt 22 = .ok (.iload_n 3, 1) := by decide +kernel
theorem dX10_linkAt_23 : decode cX10_linkAt 23 = .ok (.iconst 5, 1) := by decide +kernel
theorem dX10_linkAt_24 : decode cX10_linkAt 24 = .ok (.if_icmp .ne 7, 3) := by decide +kernel
theorem dX10_linkAt_27 : decode cX10_linkAt 27 = .ok (.iconst 2, 1) := by decide +kernel
theorem dX10_linkAt_28 : decode cX10_linkAt 28 = .ok (.goto 4, 3) := by decide +kernel
theorem dX10_linkAt_31 : decode cX10_linkAt 31 = .ok (.iconst 1, 1) := by decide +kernel
theorem dX10_linkAt_32 : decode cX10_linkAt 32 = .ok (.iadd, 1) := by decide +kernel
theorem dX10_linkAt_33 : decode cX10_linkAt 33 = .ok (.iload_n 2, 1) := by decide +kernel
theorem dX10_linkAt_34 : decode cX10_linkAt 34 = .ok (.iadd, 1) := by decide +kernel
theorem dX10_linkAt_35 : decode cX10_linkAt 35 = .ok (.ireturn, 1) := by decide +kernel
theorem dX10_weakAt_0 : decode cX10_weakAt 0 = .ok (.sipush 6100, 3) := by decide +kernel
theorem dX10_weakAt_3 : decode cX10_weakAt 3 = .ok (.aload_n 0, 1) := by decide +kernel
theorem dX10_weakAt_4 : decode cX10_weakAt 4 = .ok (.iload_n 1, 1) := by decide +kernel
theorem dX10_weakAt_5 : decode cX10_weakAt 5 = .ok (.iconst 2, 1) := by decide +kernel
theorem dX10_weakAt_6 : decode cX10_weakAt 6 = .ok (.invokevirtual 71, 3) := by decide +kernel
theorem dX10_weakAt_9 : decode cX10_weakAt 9 = .ok (.iadd, 1) := by decide +kernel
theorem dX10_weakAt_10 : decode cX10_weakAt 10 = .ok (.iconst 2, 1) := by decide +kernel
theorem dX10_weakAt_11 : decode cX10_weakAt 11 = .ok (.iadd, 1) := by decide +kernel
theorem dX10_weakAt_12 : decode cX10_weakAt 12 = .ok (.ireturn, 1) := by decide +kernel
theorem dX10_answers_0 : decode cX10_answers 0 = .ok (.aload_n 0, 1) := by decide +kernel
theorem dX10_answers_1 : decode cX10_answers 1 = .ok (.iload_n 1, 1) := by decide +kernel
theorem dX10_answers_2 : decode cX10_answers 2 = .ok (.i2l, 1) := by decide +kernel
theorem dX10_answers_3 : decode cX10_answers 3 = .ok (.ldc2_w 78, 3) := by decide +kernel
theorem dX10_answers_6 : decode cX10_answers 6 = .ok (.ldc2_w 80, 3) := by decide +kernel
theorem dX10_answers_9 : decode cX10_answers 9 = .ok (.invokestatic 63, 3) := by decide +kernel
theorem dX10_answers_12 : decode cX10_answers 12 = .ok (.ifCond .eq 10, 3) := by decide +kernel
theorem dX10_answers_15 : decode cX10_answers 15 = .ok (.bipush (-10), 2) := by decide +kernel
theorem dX10_answers_17 : decode cX10_answers 17 = .ok (.iload_n 1, 1) := by decide +kernel
theorem dX10_answers_18 : decode cX10_answers 18 = .ok (.isub, 1) := by decide +kernel
theorem dX10_answers_19 : decode cX10_answers 19 = .ok (.goto 4, 3) := by decide +kernel
theorem dX10_answers_22 : decode cX10_answers 22 = .ok (.iconst 0, 1) := by decide +kernel
theorem dX10_answers_23 : decode cX10_answers 23 = .ok (.putfield 49, 3) := by decide +kernel
theorem dX10_answers_26 : decode cX10_answers 26 = .ok (.iload_n 1, 1) := by decide +kernel
theorem dX10_answers_27 : decode cX10_answers 27 = .ok (.ireturn, 1) := by decide +kernel
theorem dX10_fails_0 : decode cX10_fails 0 = .ok (.bipush (-10), 2) := by decide +kernel
theorem dX10_fails_2 : decode cX10_fails 2 = .ok (.iload_n 0, 1) := by decide +kernel
theorem dX10_fails_3 : decode cX10_fails 3 = .ok (.isub, 1) := by decide +kernel
theorem dX10_fails_4 : decode cX10_fails 4 = .ok (.ireturn, 1) := by decide +kernel
theorem dX10_mark_0 : decode cX10_mark 0 = .ok (.iload_n 1, 1) := by decide +kernel
theorem dX10_mark_1 : decode cX10_mark 1 = .ok (.iconst (-1), 1) := by decide +kernel
theorem dX10_mark_2 : decode cX10_mark 2 = .ok (.if_icmp .eq 12, 3) := by decide +kernel
theorem dX10_mark_5 : decode cX10_mark 5 = .ok (.aload_n 0, 1) := by decide +kernel
theorem dX10_mark_6 : decode cX10_mark 6 = .ok (.iload_n 1, 1) := by decide +kernel
theorem dX10_mark_7 : decode cX10_mark 7 = .ok (.iconst 5, 1) := by decide +kernel
theorem dX10_mark_8 : decode cX10_mark 8 = .ok (.invokevirtual 71, 3) := by decide +kernel
theorem dX10_mark_11 : decode cX10_mark 11 = .ok (.ifCond .le 4, 3) := by decide +kernel
theorem dX10_mark_14 : decode cX10_mark 14 = .ok (.return_, 1) := by decide +kernel
theorem dX10_mark_15 : decode cX10_mark 15 = .ok (.aload_n 0, 1) := by decide +kernel
theorem dX10_mark_16 : decode cX10_mark 16 = .ok (.getfield 9, 3) := by decide +kernel
theorem dX10_mark_19 : decode cX10_mark 19 = .ok (.sipush 600, 3) := by decide +kernel
theorem dX10_mark_22 : decode cX10_mark 22 = .ok (.aload_n 0, 1) := by decide +kernel
theorem dX10_mark_23 : decode cX10_mark 23 = .ok (.getfield 9, 3) := by decide +kernel
theorem dX10_mark_26 : decode cX10_mark 26 = .ok (.iconst 4, 1) := by decide +kernel
theorem dX10_mark_27 : decode cX10_mark 27 = .ok (.iaload, 1) := by decide +kernel
theorem dX10_mark_28 : decode cX10_mark 28 = .ok (.iadd, 1) := by decide +kernel
theorem dX10_mark_29 : decode cX10_mark 29 = .ok (.iload_n 1, 1) := by decide +kernel
theorem dX10_mark_30 : decode cX10_mark 30 = .ok (.iastore, 1) := by decide +kernel
theorem dX10_mark_31 : decode cX10_mark 31 = .ok (.aload_n 0, 1) := by decide +kernel
theorem dX10_mark_32 : decode cX10_mark 32 = .ok (.getfield 9, 3) := by decide +kernel
theorem dX10_mark_35 : decode cX10_mark 35 = .ok (.iconst 4, 1) := by decide +kernel
theorem dX10_mark_36 : decode cX10_mark 36 = .ok (.dup2, 1) := by decide +kernel
theorem dX10_mark_37 : decode cX10_mark 37 = .ok (.iaload, 1) := by decide +kernel
theorem dX10_mark_38 : decode cX10_mark 38 = .ok (.iconst 1, 1) := by decide +kernel
theorem dX10_mark_39 : decode cX10_mark 39 = .ok (.iadd, 1) := by decide +kernel
theorem dX10_mark_40 : decode cX10_mark 40 = .ok (.iastore, 1) := by decide +kernel
theorem dX10_mark_41 : decode cX10_mark 41 = .ok (.aload_n 0, 1) := by decide +kernel
theorem dX10_mark_42 : decode cX10_mark 42 = .ok (.iload_n 1, 1) := by decide +kernel
theorem dX10_mark_43 : decode cX10_mark 43 = .ok (.iconst 5, 1) := by decide +kernel
theorem dX10_mark_44 : decode cX10_mark 44 = .ok (.aload_n 0, 1) := by decide +kernel
theorem dX10_mark_45 : decode cX10_mark 45 = .ok (.getfield 9, 3) := by decide +kernel
theorem dX10_mark_48 : decode cX10_mark 48 = .ok (.iconst 4, 1) := by decide +kernel
theorem dX10_mark_49 : decode cX10_mark 49 = .ok (.iaload, 1) := by decide +kernel
theorem dX10_mark_50 : decode cX10_mark 50 = .ok (.invokevirtual 82, 3) := by decide +kernel
theorem dX10_mark_53 : decode cX10_mark 53 = .ok (.aload_n 0, 1) := by decide +kernel
theorem dX10_mark_54 : decode cX10_mark 54 = .ok (.iload_n 1, 1) := by decide +kernel
theorem dX10_mark_55 : decode cX10_mark 55 = .ok (.bipush 6, 2) := by decide +kernel
theorem dX10_mark_57 : decode cX10_mark 57 = .ok (.iload_n 2, 1) := by decide +kernel
theorem dX10_mark_58 : decode cX10_mark 58 = .ok (.invokevirtual 82, 3) := by decide +kernel
theorem dX10_mark_61 : decode cX10_mark 61 = .ok (.aload_n 0, 1) := by decide +kernel
theorem dX10_mark_62 : decode cX10_mark 62 = .ok (.iload_n 1, 1) := by decide +kernel
theorem dX10_mark_63 : decode cX10_mark 63 = .ok (.bipush 7, 2) := by decide +kernel
theorem dX10_mark_65 : decode cX10_mark 65 = .ok (.iload_n 3, 1) := by decide +kernel
theorem dX10_mark_66 : decode cX10_mark 66 = .ok (.invokevirtual 82, 3) := by decide +kernel
theorem dX10_mark_69 : decode cX10_mark 69 = .ok (.aload_n 0, 1) := by decide +kernel
theorem dX10_mark_70 : decode cX10_mark 70 = .ok (.iload_n 1, 1) := by decide +kernel
theorem dX10_mark_71 : decode cX10_mark 71 = .ok (.bipush 8, 2) := by decide +kernel
theorem dX10_mark_73 : decode cX10_mark 73 = .ok (.iload 4, 2) := by decide +kernel
theorem dX10_mark_75 : decode cX10_mark 75 = .ok (.invokevirtual 82, 3) := by decide +kernel
theorem dX10_mark_78 : decode cX10_mark 78 = .ok (.aload_n 0, 1) := by decide +kernel
theorem dX10_mark_79 : decode cX10_mark 79 = .ok (.iload_n 1, 1) := by decide +kernel
theorem dX10_mark_80 : decode cX10_mark 80 = .ok (.bipush 9, 2) := by decide +kernel
theorem dX10_mark_82 : decode cX10_mark 82 = .ok (.iconst 0, 1) := by decide +kernel
theorem dX10_mark_83 : decode cX10_mark 83 = .ok (.invokevirtual 82, 3) := by decide +kernel
theorem dX10_mark_86 : decode cX10_mark 86 = .ok (.return_, 1) := by decide +kernel
theorem dX10_begin_0 : decode cX10_begin 0 = .ok (.aload_n 0, 1) := by decide +kernel
theorem dX10_begin_1 : decode cX10_begin 1 = .ok (.getfield 9, 3) := by decide +kernel
theorem dX10_begin_4 : decode cX10_begin 4 = .ok (.iconst 3, 1) := by decide +kernel
theorem dX10_begin_5 : decode cX10_begin 5 = .ok (.iconst 1, 1) := by decide +kernel
theorem dX10_begin_6 : decode cX10_begin 6 = .ok (.iastore, 1) := by decide +kernel
theorem dX10_begin_7 : decode cX10_begin 7 = .ok (.aload_n 0, 1) := by decide +kernel
theorem dX10_begin_8 : decode cX10_begin 8 = .ok (.getfield 9, 3) := by decide +kernel
theorem dX10_begin_11 : decode cX10_begin 11 = .ok (.iconst 4, 1) := by decide +kernel
theorem dX10_begin_12 : decode cX10_begin 12 = .ok (.iconst 0, 1) := by decide +kernel
theorem dX10_begin_13 : decode cX10_begin 13 = .ok (.iastore, 1) := by decide +kernel
theorem dX10_begin_14 : decode cX10_begin 14 = .ok (.aload_n 0, 1) := by decide +kernel
theorem dX10_begin_15 : decode cX10_begin 15 = .ok (.getfield 9, 3) := by decide +kernel
theorem dX10_begin_18 : decode cX10_begin 18 = .ok (.bipush 17, 2) := by decide +kernel
theorem dX10_begin_20 : decode cX10_begin 20 = .ok (.iconst 0, 1) := by decide +kernel
theorem dX10_begin_21 : decode cX10_begin 21 = .ok (.iastore, 1) := by decide +kernel
theorem dX10_begin_22 : decode cX10_begin 22 = .ok (.iconst 0, 1) := by decide +kernel
theorem dX10_begin_23 : decode cX10_begin 23 = .ok (.istore_n 1, 1) := by decide +kernel
theorem dX10_begin_24 : decode cX10_begin 24 = .ok (.iload_n 1, 1) := by decide +kernel
theorem dX10_begin_25 : decode cX10_begin 25 = .ok (.bipush 24, 2) := by decide +kernel
theorem dX10_begin_27 : decode cX10_begin 27 = .ok (.if_icmp .ge 25, 3) := by decide +kernel
theorem dX10_begin_30 : decode cX10_begin 30 = .ok (.aload_n 0, 1) := by decide +kernel
theorem dX10_begin_31 : decode cX10_begin 31 = .ok (.aload_n 0, 1) := by decide +kernel
theorem dX10_begin_32 : decode cX10_begin 32 = .ok (.getfield 9, 3) := by decide +kernel
theorem dX10_begin_35 : decode cX10_begin 35 = .ok (.bipush 20, 2) := by decide +kernel
theorem dX10_begin_37 : decode cX10_begin 37 = .ok (.iload_n 1, 1) := by decide +kernel
theorem dX10_begin_38 : decode cX10_begin 38 = .ok (.iadd, 1) := by decide +kernel
theorem dX10_begin_39 : decode cX10_begin 39 = .ok (.iaload, 1) := by decide +kernel
theorem dX10_begin_40 : decode cX10_begin 40 = .ok (.iconst 0, 1) := by decide +kernel
theorem dX10_begin_41 : decode cX10_begin 41 = .ok (.iload_n 1, 1) := by decide +kernel
theorem dX10_begin_42 : decode cX10_begin 42 = .ok (.iconst (-1), 1) := by decide +kernel
theorem dX10_begin_43 : decode cX10_begin 43 = .ok (.invokevirtual 86, 3) := by decide +kernel
theorem dX10_begin_46 : decode cX10_begin 46 = .ok (.iinc 1 1, 3) := by decide +kernel
theorem dX10_begin_49 : decode cX10_begin 49 = .ok (.goto (-25), 3) := by decide +kernel
theorem dX10_begin_52 : decode cX10_begin 52 = .ok (.return_, 1) := by decide +kernel
theorem dX10_isLeft_0 : decode cX10_isLeft 0 = .ok (.aload_n 0, 1) := by decide +kernel
theorem dX10_isLeft_1 : decode cX10_isLeft 1 = .ok (.getfield 9, 3) := by decide +kernel
theorem dX10_isLeft_4 : decode cX10_isLeft 4 = .ok (.bipush 17, 2) := by decide +kernel
theorem dX10_isLeft_6 : decode cX10_isLeft 6 = .ok (.iaload, 1) := by decide +kernel
theorem dX10_isLeft_7 : decode cX10_isLeft 7 = .ok (.aload_n 0, 1) := by decide +kernel
theorem dX10_isLeft_8 : decode cX10_isLeft 8 = .ok (.getfield 9, 3) := by decide +kernel
theorem dX10_isLeft_11 : decode cX10_isLeft 11 = .ok (.iconst 4, 1) := by decide +kernel
theorem dX10_isLeft_12 : decode cX10_isLeft 12 = .ok (.iaload, 1) := by decide +kernel
theorem dX10_isLeft_13 : decode cX10_isLeft 13 = .ok (.if_icmp .ge 62, 3) := by decide +kernel
theorem dX10_isLeft_16 : decode cX10_isLeft 16 = .ok (.aload_n 0, 1) := by decide +kernel
theorem dX10_isLeft_17 : decode cX10_isLeft 17 = .ok (.aload_n 0, 1) := by decide +kernel
theorem dX10_isLeft_18 : decode cX10_isLeft 18 = .ok (.getfield 9, 3) := by decide +kernel
theorem dX10_isLeft_21 : decode cX10_isLeft 21 = .ok (.sipush 600, 3) := by decide +kernel
theorem dX10_isLeft_24 : decode cX10_isLeft 24 = .ok (.aload_n 0, 1) := by decide +kernel
theorem dX10_isLeft_25 : decode cX10_isLeft 25 = .ok (.getfield 9, 3) := by decide +kernel
theorem dX10_isLeft_28 : decode cX10_isLeft 28 = .ok (.bipush 17, 2) := by decide +kernel
theorem dX10_isLeft_30 : decode cX10_isLeft 30 = .ok (.iaload, 1) := by decide +kernel
theorem dX10_isLeft_31 : decode cX10_isLeft 31 = .ok (.iadd, 1) := by decide +kernel
theorem dX10_isLeft_32 : decode cX10_isLeft 32 = .ok (.iaload, 1) := by decide +kernel
theorem dX10_isLeft_33 : decode cX10_isLeft 33 = .ok (.bipush 9, 2) := by decide +kernel
theorem dX10_isLeft_35 : decode cX10_isLeft 35 = .ok (.invokevirtual 71, 3) := by decide +kernel
theorem dX10_isLeft_38 : decode cX10_isLeft 38 = .ok (.aload_n 0, 1) := by decide +kernel
theorem dX10_isLeft_39 : decode cX10_isLeft 39 = .ok (.aload_n 0, 1) := by decide +kernel
theorem dX10_isLeft_40 : decode cX10_isLeft 40 = .ok (.getfield 9, 3) := by decide +kernel
theorem dX10_isLeft_43 : decode cX10_isLeft 43 = .ok (.sipush 600, 3) := by decide +kernel
theorem dX10_isLeft_46 : decode cX10_isLeft 46 = .ok (.aload_n 0, 1) := by decide +kernel
theorem dX10_isLeft_47 : decode cX10_isLeft 47 = .ok (.getfield 9, 3) := by decide +kernel
theorem dX10_isLeft_50 : decode cX10_isLeft 50 = .ok (.bipush 17, 2) := by decide +kernel
theorem dX10_isLeft_52 : decode cX10_isLeft 52 = .ok (.iaload, 1) := by decide +kernel
theorem dX10_isLeft_53 : decode cX10_isLeft 53 = .ok (.iadd, 1) := by decide +kernel
theorem dX10_isLeft_54 : decode cX10_isLeft 54 = .ok (.iaload, 1) := by decide +kernel
theorem dX10_isLeft_55 : decode cX10_isLeft 55 = .ok (.invokevirtual 90, 3) := by decide +kernel
theorem dX10_isLeft_58 : decode cX10_isLeft 58 = .ok (.if_icmp .ne 17, 3) := by decide +kernel
theorem dX10_isLeft_61 : decode cX10_isLeft 61 = .ok (.aload_n 0, 1) := by decide +kernel
theorem dX10_isLeft_62 : decode cX10_isLeft 62 = .ok (.getfield 9, 3) := by decide +kernel
theorem dX10_isLeft_65 : decode cX10_isLeft 65 = .ok (.bipush 17, 2) := by decide +kernel
theorem dX10_isLeft_67 : decode cX10_isLeft 67 = .ok (.dup2, 1) := by decide +kernel
theorem dX10_isLeft_68 : decode cX10_isLeft 68 = .ok (.iaload, 1) := by decide +kernel
theorem dX10_isLeft_69 : decode cX10_isLeft 69 = .ok (.iconst 1, 1) := by decide +kernel
theorem dX10_isLeft_70 : decode cX10_isLeft 70 = .ok (.iadd, 1) := by decide +kernel
theorem dX10_isLeft_71 : decode cX10_isLeft 71 = .ok (.iastore, 1) := by decide +kernel
theorem dX10_isLeft_72 : decode cX10_isLeft 72 = .ok (.goto (-72), 3) := by decide +kernel
theorem dX10_isLeft_75 : decode cX10_isLeft 75 = .ok (.aload_n 0, 1) := by decide +kernel
theorem dX10_isLeft_76 : decode cX10_isLeft 76 = .ok (.getfield 9, 3) := by decide +kernel
theorem dX10_isLeft_79 : decode cX10_isLeft 79 = .ok (.bipush 17, 2) := by decide +kernel
theorem dX10_isLeft_81 : decode cX10_isLeft 81 = .ok (.iaload, 1) := by decide +kernel
theorem dX10_isLeft_82 : decode cX10_isLeft 82 = .ok (.aload_n 0, 1) := by decide +kernel
theorem dX10_isLeft_83 : decode cX10_isLeft 83 = .ok (.getfield 9, 3) := by decide +kernel
theorem dX10_isLeft_86 : decode cX10_isLeft 86 = .ok (.iconst 4, 1) := by decide +kernel
theorem dX10_isLeft_87 : decode cX10_isLeft 87 = .ok (.iaload, 1) := by decide +kernel
theorem dX10_isLeft_88 : decode cX10_isLeft 88 = .ok (.if_icmp .ge 7, 3) := by decide +kernel
theorem dX10_isLeft_91 : decode cX10_isLeft 91 = .ok (.iconst 1, 1) := by decide +kernel
theorem dX10_isLeft_92 : decode cX10_isLeft 92 = .ok (.goto 4, 3) := by decide +kernel
theorem dX10_isLeft_95 : decode cX10_isLeft 95 = .ok (.iconst 0, 1) := by decide +kernel
theorem dX10_isLeft_96 : decode cX10_isLeft 96 = .ok (.ireturn, 1) := by decide +kernel
theorem dX10_lookThrough_0 : decode cX10_lookThrough 0 = .ok (.iconst 0, 1) := by decide +kernel
theorem dX10_lookThrough_1 : decode cX10_lookThrough 1 = .ok (.istore_n 2, 1) := by decide +kernel
theorem dX10_lookThrough_2 : decode cX10_lookThrough 2 = .ok (.iload_n 2, 1) := by decide +kernel
theorem dX10_lookThrough_3 : decode cX10_lookThrough 3 = .ok (.iload_n 1, 1) := by decide +kernel
theorem dX10_lookThrough_4 : decode cX10_lookThrough 4 = .ok (.if_icmp .ge 74, 3) := by decide +kernel
theorem dX10_lookThrough_7 : decode cX10_lookThrough 7 = .ok (.aload_n 0, 1) := by decide +kernel
theorem dX10_lookThrough_8 : decode cX10_lookThrough 8 = .ok (.invokevirtual 94, 3) := by decide +kernel
theorem dX10_lookThrough_11 : decode cX10_lookThrough 11 = .ok (.iconst 1, 1) := by decide +kernel
theorem dX10_lookThrough_12 : decode cX10_lookThrough 12 = .ok (.if_icmp .ne 66, 3) := by decide +kernel
theorem dX10_lookThrough_15 : decode cX10_lookThrough 15 = .ok (.aload_n 0, 1) := by decide +kernel
theorem dX10_lookThrough_16 : decode cX10_lookThrough 16 = .ok (.getfield 9, 3) := by decide +kernel
theorem dX10_lookThrough_19 : decode cX10_lookThrough 19 = .ok (.sipush 600, 3) := by decide +kernel
theorem dX10_lookThrough_22 : decode cX10_lookThrough 22 = .ok (.aload_n 0, 1) := by decide +kernel
theorem dX10_lookThrough_23 : decode cX10_lookThrough 23 = .ok (.getfield 9, 3) := by decide +kernel
theorem dX10_lookThrough_26 : decode cX10_lookThrough 26 = .ok (.bipush 17, 2) := by decide +kernel
theorem dX10_lookThrough_28 : decode cX10_lookThrough 28 = .ok (.iaload, 1) := by decide +kernel
theorem dX10_lookThrough_29 : decode cX10_lookThrough 29 = .ok (.iadd, 1) := by decide +kernel
theorem dX10_lookThrough_30 : decode cX10_lookThrough 30 = .ok (.iaload, 1) := by decide +kernel
theorem dX10_lookThrough_31 : decode cX10_lookThrough 31 = .ok (.istore_n 3, 1) := by decide +kernel
theorem dX10_lookThrough_32 : decode cX10_lookThrough 32 = .ok (.aload_n 0, 1) := by decide +kernel
theorem dX10_lookThrough_33 : decode cX10_lookThrough 33 = .ok (.iload_n 3, 1) := by decide +kernel
theorem dX10_lookThrough_34 : decode cX10_lookThrough 34 = .ok (.bipush 9, 2) := by decide +kernel
theorem dX10_lookThrough_36 : decode cX10_lookThrough 36 = .ok (.invokevirtual 71, 3) := by decide +kernel
theorem dX10_lookThrough_39 : decode cX10_lookThrough 39 = .ok (.istore 4, 2) := by decide +kernel
theorem dX10_lookThrough_41 : decode cX10_lookThrough 41 = .ok (.aload_n 0, 1) := by decide +kernel
theorem dX10_lookThrough_42 : decode cX10_lookThrough 42 = .ok (.iload_n 3, 1) := by decide +kernel
theorem dX10_lookThrough_43 : decode cX10_lookThrough 43 = .ok (.bipush 9, 2) := by decide +kernel
theorem dX10_lookThrough_45 : decode cX10_lookThrough 45 = .ok (.iload 4, 2) := by decide +kernel
theorem dX10_lookThrough_47 : decode cX10_lookThrough 47 = .ok (.iconst 1, 1) := by decide +kernel
theorem dX10_lookThrough_48 : decode cX10_lookThrough 48 = .ok (.iadd, 1) := by decide +kernel
theorem dX10_lookThrough_49 : decode cX10_lookThrough 49 = .ok (.invokevirtual 82, 3) := by decide +kernel
theorem dX10_lookThrough_52 : decode cX10_lookThrough 52 = .ok (.aload_n 0, 1) := by decide +kernel
theorem dX10_lookThrough_53 : decode cX10_lookThrough 53 = .ok (.aload_n 0, 1) := by decide +kernel
theorem dX10_lookThrough_54 : decode cX10_lookThrough 54 = .ok (.getfield 9, 3) := by decide +kernel
theorem dX10_lookThrough_57 : decode cX10_lookThrough 57 = .ok (.aload_n 0, 1) := by decide +kernel
theorem dX10_lookThrough_58 : decode cX10_lookThrough 58 = .ok (.iload_n 3, 1) := by decide +kernel
theorem dX10_lookThrough_59 : decode cX10_lookThrough 59 = .ok (.iload 4, 2) := by decide +kernel
theorem dX10_lookThrough_61 : decode cX10_lookThrough 61 = .ok (.invokevirtual 98, 3) := by decide +kernel
theorem dX10_lookThrough_64 : decode cX10_lookThrough 64 = .ok (.iaload, 1) := by decide +kernel
theorem dX10_lookThrough_65 : decode cX10_lookThrough 65 = .ok (.iconst 1, 1) := by decide +kernel
theorem dX10_lookThrough_66 : decode cX10_lookThrough 66 = .ok (.iload_n 3, 1) := by decide +kernel
theorem dX10_lookThrough_67 : decode cX10_lookThrough 67 = .ok (.iload 4, 2) := by decide +kernel
theorem dX10_lookThrough_69 : decode cX10_lookThrough 69 = .ok (.invokevirtual 86, 3) := by decide +kernel
theorem dX10_lookThrough_72 : decode cX10_lookThrough 72 = .ok (.iinc 2 1, 3) := by decide +kernel
theorem dX10_lookThrough_75 : decode cX10_lookThrough 75 = .ok (.goto (-73), 3) := by decide +kernel
theorem dX10_lookThrough_78 : decode cX10_lookThrough 78 = .ok (.iload_n 2, 1) := by decide +kernel
theorem dX10_lookThrough_79 : decode cX10_lookThrough 79 = .ok (.ireturn, 1) := by decide +kernel
theorem dX10_stepped_0 : decode cX10_stepped 0 = .ok (.aload_n 0, 1) := by decide +kernel
theorem dX10_stepped_1 : decode cX10_stepped 1 = .ok (.getfield 9, 3) := by decide +kernel
theorem dX10_stepped_4 : decode cX10_stepped 4 = .ok (.iconst 3, 1) := by decide +kernel
theorem dX10_stepped_5 : decode cX10_stepped 5 = .ok (.iaload, 1) := by decide +kernel
theorem dX10_stepped_6 : decode cX10_stepped 6 = .ok (.ifCond .ne 7, 3) := by decide +kernel
theorem dX10_stepped_9 : decode cX10_stepped 9 = .ok (.aload_n 0, 1) := by decide +kernel
theorem dX10_stepped_10 : decode cX10_stepped 10 = .ok (.invokevirtual 101, 3) := by decide +kernel
theorem dX10_stepped_13 : decode cX10_stepped 13 = .ok (.aload_n 0, 1) := by decide +kernel
theorem dX10_stepped_14 : decode cX10_stepped 14 = .ok (.iload_n 1, 1) := by decide +kernel
theorem dX10_stepped_15 : decode cX10_stepped 15 = .ok (.invokevirtual 104, 3) := by decide +kernel
theorem dX10_stepped_18 : decode cX10_stepped 18 = .ok (.istore_n 2, 1) := by decide +kernel
theorem dX10_stepped_19 : decode cX10_stepped 19 = .ok (.aload_n 0, 1) := by decide +kernel
theorem dX10_stepped_20 : decode cX10_stepped 20 = .ok (.invokevirtual 94, 3) := by decide +kernel
theorem dX10_stepped_23 : decode cX10_stepped 23 = .ok (.ifCond .ne 7, 3) := by decide +kernel
theorem dX10_stepped_26 : decode cX10_stepped 26 = .ok (.aload_n 0, 1) := by decide +kernel
theorem dX10_stepped_27 : decode cX10_stepped 27 = .ok (.invokevirtual 107, 3) := by decide +kernel
theorem dX10_stepped_30 : decode cX10_stepped 30 = .ok (.iload_n 2, 1) := by decide +kernel
theorem dX10_stepped_31 : decode cX10_stepped 31 = .ok (.ireturn, 1) := by decide +kernel
theorem dX10_wholeCycle_0 : decode cX10_wholeCycle 0 = .ok (.aload_n 0, 1) := by decide +kernel
theorem dX10_wholeCycle_1 : decode cX10_wholeCycle 1 = .ok (.getfield 9, 3) := by decide +kernel
theorem dX10_wholeCycle_4 : decode cX10_wholeCycle 4 = .ok (.iconst 3, 1) := by decide +kernel
theorem dX10_wholeCycle_5 : decode cX10_wholeCycle 5 = .ok (.iaload, 1) := by decide +kernel
theorem dX10_wholeCycle_6 : decode cX10_wholeCycle 6 = .ok (.ifCond .ne 7, 3) := by decide +kernel
theorem dX10_wholeCycle_9 : decode cX10_wholeCycle 9 = .ok (.aload_n 0, 1) := by decide +kernel
theorem dX10_wholeCycle_10 : decode cX10_wholeCycle 10 = .ok (.invokevirtual 101, 3) := by decide +kernel
theorem dX10_wholeCycle_13 : decode cX10_wholeCycle 13 = .ok (.aload_n 0, 1) := by decide +kernel
theorem dX10_wholeCycle_14 : decode cX10_wholeCycle 14 = .ok (.ldc 110, 2) := by decide +kernel
theorem dX10_wholeCycle_16 : decode cX10_wholeCycle 16 = .ok (.invokevirtual 104, 3) := by decide +kernel
theorem dX10_wholeCycle_19 : decode cX10_wholeCycle 19 = .ok (.pop, 1) := by decide +kernel
theorem dX10_wholeCycle_20 : decode cX10_wholeCycle 20 = .ok (.aload_n 0, 1) := by decide +kernel
theorem dX10_wholeCycle_21 : decode cX10_wholeCycle 21 = .ok (.invokevirtual 107, 3) := by decide +kernel
theorem dX10_wholeCycle_24 : decode cX10_wholeCycle 24 = .ok (.aload_n 0, 1) := by decide +kernel
theorem dX10_wholeCycle_25 : decode cX10_wholeCycle 25 = .ok (.getfield 9, 3) := by decide +kernel
theorem dX10_wholeCycle_28 : decode cX10_wholeCycle 28 = .ok (.bipush 7, 2) := by decide +kernel
theorem dX10_wholeCycle_30 : decode cX10_wholeCycle 30 = .ok (.iaload, 1) := by decide +kernel
theorem dX10_wholeCycle_31 : decode cX10_wholeCycle 31 = .ok (.ireturn, 1) := by decide +kernel
theorem dX10_end_0 : decode cX10_end 0 = .ok (.aload_n 0, 1) := by decide +kernel
theorem dX10_end_1 : decode cX10_end 1 = .ok (.getfield 9, 3) := by decide +kernel
theorem dX10_end_4 : decode cX10_end 4 = .ok (.iconst 5, 1) := by decide +kernel
theorem dX10_end_5 : decode cX10_end 5 = .ok (.dup2, 1) := by decide +kernel
theorem dX10_end_6 : decode cX10_end 6 = .ok (.iaload, 1) := by decide +kernel
theorem dX10_end_7 : decode cX10_end 7 = .ok (.iconst 1, 1) := by decide +kernel
theorem dX10_end_8 : decode cX10_end 8 = .ok (.iadd, 1) := by decide +kernel
theorem dX10_end_9 : decode cX10_end 9 = .ok (.iastore, 1) := by decide +kernel
theorem dX10_end_10 : decode cX10_end 10 = .ok (.aload_n 0, 1) := by decide +kernel
theorem dX10_end_11 : decode cX10_end 11 = .ok (.getfield 9, 3) := by decide +kernel
theorem dX10_end_14 : decode cX10_end 14 = .ok (.bipush 6, 2) := by decide +kernel
theorem dX10_end_16 : decode cX10_end 16 = .ok (.aload_n 0, 1) := by decide +kernel
theorem dX10_end_17 : decode cX10_end 17 = .ok (.getfield 9, 3) := by decide +kernel
theorem dX10_end_20 : decode cX10_end 20 = .ok (.iconst 4, 1) := by decide +kernel
theorem dX10_end_21 : decode cX10_end 21 = .ok (.iaload, 1) := by decide +kernel
theorem dX10_end_22 : decode cX10_end 22 = .ok (.iastore, 1) := by decide +kernel
theorem dX10_end_23 : decode cX10_end 23 = .ok (.aload_n 0, 1) := by decide +kernel
theorem dX10_end_24 : decode cX10_end 24 = .ok (.getfield 9, 3) := by decide +kernel
theorem dX10_end_27 : decode cX10_end 27 = .ok (.bipush 7, 2) := by decide +kernel
theorem dX10_end_29 : decode cX10_end 29 = .ok (.iconst 0, 1) := by decide +kernel
theorem dX10_end_30 : decode cX10_end 30 = .ok (.iastore, 1) := by decide +kernel
theorem dX10_end_31 : decode cX10_end 31 = .ok (.aload_n 0, 1) := by decide +kernel
theorem dX10_end_32 : decode cX10_end 32 = .ok (.getfield 9, 3) := by decide +kernel
theorem dX10_end_35 : decode cX10_end 35 = .ok (.bipush 8, 2) := by decide +kernel
theorem dX10_end_37 : decode cX10_end 37 = .ok (.iconst 0, 1) := by decide +kernel
theorem dX10_end_38 : decode cX10_end 38 = .ok (.iastore, 1) := by decide +kernel
theorem dX10_end_39 : decode cX10_end 39 = .ok (.aload_n 0, 1) := by decide +kernel
theorem dX10_end_40 : decode cX10_end 40 = .ok (.invokevirtual 111, 3) := by decide +kernel
theorem dX10_end_43 : decode cX10_end 43 = .ok (.aload_n 0, 1) := by decide +kernel
theorem dX10_end_44 : decode cX10_end 44 = .ok (.invokevirtual 114, 3) := by decide +kernel
theorem dX10_end_47 : decode cX10_end 47 = .ok (.aload_n 0, 1) := by decide +kernel
theorem dX10_end_48 : decode cX10_end 48 = .ok (.getfield 9, 3) := by decide +kernel
theorem dX10_end_51 : decode cX10_end 51 = .ok (.bipush 7, 2) := by decide +kernel
theorem dX10_end_53 : decode cX10_end 53 = .ok (.iaload, 1) := by decide +kernel
theorem dX10_end_54 : decode cX10_end 54 = .ok (.istore_n 1, 1) := by decide +kernel
theorem dX10_end_55 : decode cX10_end 55 = .ok (.aload_n 0, 1) := by decide +kernel
theorem dX10_end_56 : decode cX10_end 56 = .ok (.getfield 9, 3) := by decide +kernel
theorem dX10_end_59 : decode cX10_end 59 = .ok (.bipush 9, 2) := by decide +kernel
theorem dX10_end_61 : decode cX10_end 61 = .ok (.dup2, 1) := by decide +kernel
theorem dX10_end_62 : decode cX10_end 62 = .ok (.iaload, 1) := by decide +kernel
theorem dX10_end_63 : decode cX10_end 63 = .ok (.iload_n 1, 1) := by decide +kernel
theorem dX10_end_64 : decode cX10_end 64 = .ok (.iadd, 1) := by decide +kernel
theorem dX10_end_65 : decode cX10_end 65 = .ok (.iastore, 1) := by decide +kernel
theorem dX10_end_66 : decode cX10_end 66 = .ok (.aload_n 0, 1) := by decide +kernel
theorem dX10_end_67 : decode cX10_end 67 = .ok (.invokevirtual 117, 3) := by decide +kernel
theorem dX10_end_70 : decode cX10_end 70 = .ok (.iconst 0, 1) := by decide +kernel
theorem dX10_end_71 : decode cX10_end 71 = .ok (.istore_n 2, 1) := by decide +kernel
theorem dX10_end_72 : decode cX10_end 72 = .ok (.iload_n 2, 1) := by decide +kernel
theorem dX10_end_73 : decode cX10_end 73 = .ok (.aload_n 0, 1) := by decide +kernel
theorem dX10_end_74 : decode cX10_end 74 = .ok (.getfield 9, 3) := by decide +kernel
theorem dX10_end_77 : decode cX10_end 77 = .ok (.iconst 4, 1) := by decide +kernel
theorem dX10_end_78 : decode cX10_end 78 = .ok (.iaload, 1) := by decide +kernel
theorem dX10_end_79 : decode cX10_end 79 = .ok (.if_icmp .ge 25, 3) := by decide +kernel
theorem dX10_end_82 : decode cX10_end 82 = .ok (.aload_n 0, 1) := by decide +kernel
theorem dX10_end_83 : decode cX10_end 83 = .ok (.aload_n 0, 1) := by decide +kernel
theorem dX10_end_84 : decode cX10_end 84 = .ok (.getfield 9, 3) := by decide +kernel
theorem dX10_end_87 : decode cX10_end 87 = .ok (.sipush 600, 3) := by decide +kernel
theorem dX10_end_90 : decode cX10_end 90 = .ok (.iload_n 2, 1) := by decide +kernel
theorem dX10_end_91 : decode cX10_end 91 = .ok (.iadd, 1) := by decide +kernel
theorem dX10_end_92 : decode cX10_end 92 = .ok (.iaload, 1) := by decide +kernel
theorem dX10_end_93 : decode cX10_end 93 = .ok (.iconst 5, 1) := by decide +kernel
theorem dX10_end_94 : decode cX10_end 94 = .ok (.iconst 0, 1) := by decide +kernel
theorem dX10_end_95 : decode cX10_end 95 = .ok (.invokevirtual 82, 3) := by decide +kernel
theorem dX10_end_98 : decode cX10_end 98 = .ok (.iinc 2 1, 3) := by decide +kernel
theorem dX10_end_101 : decode cX10_end 101 = .ok (.goto (-29), 3) := by decide +kernel
theorem dX10_end_104 : decode cX10_end 104 = .ok (.aload_n 0, 1) := by decide +kernel
theorem dX10_end_105 : decode cX10_end 105 = .ok (.getfield 9, 3) := by decide +kernel
theorem dX10_end_108 : decode cX10_end 108 = .ok (.iconst 4, 1) := by decide +kernel
theorem dX10_end_109 : decode cX10_end 109 = .ok (.iconst 0, 1) := by decide +kernel
theorem dX10_end_110 : decode cX10_end 110 = .ok (.iastore, 1) := by decide +kernel
theorem dX10_end_111 : decode cX10_end 111 = .ok (.aload_n 0, 1) := by decide +kernel
theorem dX10_end_112 : decode cX10_end 112 = .ok (.getfield 9, 3) := by decide +kernel
theorem dX10_end_115 : decode cX10_end 115 = .ok (.bipush 17, 2) := by decide +kernel
theorem dX10_end_117 : decode cX10_end 117 = .ok (.iconst 0, 1) := by decide +kernel
theorem dX10_end_118 : decode cX10_end 118 = .ok (.iastore, 1) := by decide +kernel
theorem dX10_end_119 : decode cX10_end 119 = .ok (.aload_n 0, 1) := by decide +kernel
theorem dX10_end_120 : decode cX10_end 120 = .ok (.getfield 9, 3) := by decide +kernel
theorem dX10_end_123 : decode cX10_end 123 = .ok (.iconst 3, 1) := by decide +kernel
theorem dX10_end_124 : decode cX10_end 124 = .ok (.iconst 0, 1) := by decide +kernel
theorem dX10_end_125 : decode cX10_end 125 = .ok (.iastore, 1) := by decide +kernel
theorem dX10_end_126 : decode cX10_end 126 = .ok (.return_, 1) := by decide +kernel
theorem dX10_giveBack_0 : decode cX10_giveBack 0 = .ok (.iconst 0, 1) := by decide +kernel
theorem dX10_giveBack_1 : decode cX10_giveBack 1 = .ok (.istore_n 1, 1) := by decide +kernel
theorem dX10_giveBack_2 : decode cX10_giveBack 2 = .ok (.iload_n 1, 1) := by decide +kernel
theorem dX10_giveBack_3 : decode cX10_giveBack 3 = .ok (.aload_n 0, 1) := by decide +kernel
theorem dX10_giveBack_4 : decode cX10_giveBack 4 = .ok (.getfield 9, 3) := by decide +kernel
theorem dX10_giveBack_7 : decode cX10_giveBack 7 = .ok (.iconst 1, 1) := by decide +kernel
theorem dX10_giveBack_8 : decode cX10_giveBack 8 = .ok (.iaload, 1) := by decide +kernel
theorem dX10_giveBack_9 : decode cX10_giveBack 9 = .ok (.if_icmp .ge 146, 3) := by decide +kernel
theorem dX10_giveBack_12 : decode cX10_giveBack 12 = .ok (.aload_n 0, 1) := by decide +kernel
theorem dX10_giveBack_13 : decode cX10_giveBack 13 = .ok (.iload_n 1, 1) := by decide +kernel
theorem dX10_giveBack_14 : decode cX10_giveBack 14 = .ok (.iconst 0, 1) := by decide +kernel
theorem dX10_giveBack_15 : decode cX10_giveBack 15 = .ok (.invokevirtual 71, 3) := by decide +kernel
theorem dX10_giveBack_18 : decode cX10_giveBack 18 = .ok (.iconst 1, 1) := by decide +kernel
theorem dX10_giveBack_19 : decode cX10_giveBack 19 = .ok (.if_icmp .ne 130, 3) := by decide +kernel
theorem dX10_giveBack_22 : decode cX10_giveBack 22 = .ok (.aload_n 0, 1) := by decide +kernel
theorem dX10_giveBack_23 : decode cX10_giveBack 23 = .ok (.iload_n 1, 1) := by decide +kernel
theorem dX10_giveBack_24 : decode cX10_giveBack 24 = .ok (.iconst 5, 1) := by decide +kernel
theorem dX10_giveBack_25 : decode cX10_giveBack 25 = .ok (.invokevirtual 71, 3) := by decide +kernel
theorem dX10_giveBack_28 : decode cX10_giveBack 28 = .ok (.ifCond .ne 121, 3) := by decide +kernel
theorem dX10_giveBack_31 : decode cX10_giveBack 31 = .ok (.aload_n 0, 1) := by decide +kernel
theorem dX10_giveBack_32 : decode cX10_giveBack 32 = .ok (.getfield 19, 3) := by decide +kernel
theorem dX10_giveBack_35 : decode cX10_giveBack 35 = .ok (.bipush 12, 2) := by decide +kernel
theorem dX10_giveBack_37 : decode cX10_giveBack 37 = .ok (.dup2, 1) := by decide +kernel
theorem dX10_giveBack_38 : decode cX10_giveBack 38 = .ok (.iaload, 1) := by decide +kernel
theorem dX10_giveBack_39 : decode cX10_giveBack 39 = .ok (.aload_n 0, 1) := by decide +kernel
theorem dX10_giveBack_40 : decode cX10_giveBack 40 = .ok (.iload_n 1, 1) := by decide +kernel
theorem dX10_giveBack_41 : decode cX10_giveBack 41 = .ok (.iconst 1, 1) := by decide +kernel
theorem dX10_giveBack_42 : decode cX10_giveBack 42 = .ok (.invokevirtual 71, 3) := by decide +kernel
theorem dX10_giveBack_45 : decode cX10_giveBack 45 = .ok (.iconst 4, 1) := by decide +kernel
theorem dX10_giveBack_46 : decode cX10_giveBack 46 = .ok (.if_icmp .ne 7, 3) := by decide +kernel
theorem dX10_giveBack_49 : decode cX10_giveBack 49 = .ok (.iconst 1, 1) := by decide +kernel
theorem dX10_giveBack_50 : decode cX10_giveBack 50 = .ok (.goto 4, 3) := by decide +kernel
theorem dX10_giveBack_53 : decode cX10_giveBack 53 = .ok (.iconst 0, 1) := by decide +kernel
theorem dX10_giveBack_54 : decode cX10_giveBack 54 = .ok (.iadd, 1) := by decide +kernel
theorem dX10_giveBack_55 : decode cX10_giveBack 55 = .ok (.iastore, 1) := by decide +kernel
theorem dX10_giveBack_56 : decode cX10_giveBack 56 = .ok (.aload_n 0, 1) := by decide +kernel
theorem dX10_giveBack_57 : decode cX10_giveBack 57 = .ok (.getfield 19, 3) := by decide +kernel
theorem dX10_giveBack_60 : decode cX10_giveBack 60 = .ok (.bipush 11, 2) := by decide +kernel
theorem dX10_giveBack_62 : decode cX10_giveBack 62 = .ok (.dup2, 1) := by decide +kernel
theorem dX10_giveBack_63 : decode cX10_giveBack 63 = .ok (.iaload, 1) := by decide +kernel
theorem dX10_giveBack_64 : decode cX10_giveBack 64 = .ok (.iconst 1, 1) := by decide +kernel
theorem dX10_giveBack_65 : decode cX10_giveBack 65 = .ok (.iadd, 1) := by decide +kernel
theorem dX10_giveBack_66 : decode cX10_giveBack 66 = .ok (.iastore, 1) := by decide +kernel
theorem dX10_giveBack_67 : decode cX10_giveBack 67 = .ok (.aload_n 0, 1) := by decide +kernel
theorem dX10_giveBack_68 : decode cX10_giveBack 68 = .ok (.iload_n 1, 1) := by decide +kernel
theorem dX10_giveBack_69 : decode cX10_giveBack 69 = .ok (.iconst 0, 1) := by decide +kernel
theorem dX10_giveBack_70 : decode cX10_giveBack 70 = .ok (.iconst 0, 1) := by decide +kernel
theorem dX10_giveBack_71 : decode cX10_giveBack 71 = .ok (.invokevirtual 82, 3) := by decide +kernel
theorem dX10_giveBack_74 : decode cX10_giveBack 74 = .ok (.aload_n 0, 1) := by decide +kernel
theorem dX10_giveBack_75 : decode cX10_giveBack 75 = .ok (.getfield 9, 3) := by decide +kernel
theorem dX10_giveBack_78 : decode cX10_giveBack 78 = .ok (.iconst 2, 1) := by decide +kernel
theorem dX10_giveBack_79 : decode cX10_giveBack 79 = .ok (.dup2, 1) := by decide +kernel
theorem dX10_giveBack_80 : decode cX10_giveBack 80 = .ok (.iaload, 1) := by decide +kernel
theorem dX10_giveBack_81 : decode cX10_giveBack 81 = .ok (.iconst 1, 1) := by decide +kernel
theorem dX10_giveBack_82 : decode cX10_giveBack 82 = .ok (.isub, 1) := by decide +kernel
theorem dX10_giveBack_83 : decode cX10_giveBack 83 = .ok (.iastore, 1) := by decide +kernel
theorem dX10_giveBack_84 : decode cX10_giveBack 84 = .ok (.aload_n 0, 1) := by decide +kernel
theorem dX10_giveBack_85 : decode cX10_giveBack 85 = .ok (.getfield 22, 3) := by decide +kernel
theorem dX10_giveBack_88 : decode cX10_giveBack 88 = .ok (.aload_n 0, 1) := by decide +kernel
theorem dX10_giveBack_89 : decode cX10_giveBack 89 = .ok (.getfield 9, 3) := by decide +kernel
theorem dX10_giveBack_92 : decode cX10_giveBack 92 = .ok (.bipush 7, 2) := by decide +kernel
theorem dX10_giveBack_94 : decode cX10_giveBack 94 = .ok (.iaload, 1) := by decide +kernel
theorem dX10_giveBack_95 : decode cX10_giveBack 95 = .ok (.iload_n 1, 1) := by decide +kernel
theorem dX10_giveBack_96 : decode cX10_giveBack 96 = .ok (.iastore, 1) := by decide +kernel
theorem dX10_giveBack_97 : decode cX10_giveBack 97 = .ok (.aload_n 0, 1) := by decide +kernel
theorem dX10_giveBack_98 : decode cX10_giveBack 98 = .ok (.getfield 9, 3) := by decide +kernel
theorem dX10_giveBack_101 : decode cX10_giveBack 101 = .ok (.bipush 7, 2) := by decide +kernel
theorem dX10_giveBack_103 : decode cX10_giveBack 103 = .ok (.dup2, 1) := by decide +kernel
theorem dX10_giveBack_104 : decode cX10_giveBack 104 = .ok (.iaload, 1) := by decide +kernel
theorem dX10_giveBack_105 : decode cX10_giveBack 105 = .ok (.iconst 1, 1) := by decide +kernel
theorem dX10_giveBack_106 : decode cX10_giveBack 106 = .ok (.iadd, 1) := by decide +kernel
theorem dX10_giveBack_107 : decode cX10_giveBack 107 = .ok (.iastore, 1) := by decide +kernel
theorem dX10_giveBack_108 : decode cX10_giveBack 108 = .ok (.bipush 44, 2) := by decide +kernel
theorem dX10_giveBack_110 : decode cX10_giveBack 110 = .ok (.istore_n 2, 1) := by decide +kernel
theorem dX10_giveBack_111 : decode cX10_giveBack 111 = .ok (.iload_n 2, 1) := by decide +kernel
theorem dX10_giveBack_112 : decode cX10_giveBack 112 = .ok (.bipush 76, 2) := by decide +kernel
theorem dX10_giveBack_114 : decode cX10_giveBack 114 = .ok (.if_icmp .ge 35, 3) := by decide +kernel
theorem dX10_giveBack_117 : decode cX10_giveBack 117 = .ok (.aload_n 0, 1) := by decide +kernel
theorem dX10_giveBack_118 : decode cX10_giveBack 118 = .ok (.getfield 9, 3) := by decide +kernel
theorem dX10_giveBack_121 : decode cX10_giveBack 121 = .ok (.iload_n 2, 1) := by decide +kernel
theorem dX10_giveBack_122 : decode cX10_giveBack 122 = .ok (.aload_n 0, 1) := by decide +kernel
theorem dX10_giveBack_123 : decode cX10_giveBack 123 = .ok (.getfield 9, 3) := by decide +kernel
theorem dX10_giveBack_126 : decode cX10_giveBack 126 = .ok (.iload_n 2, 1) := by decide +kernel
theorem dX10_giveBack_127 : decode cX10_giveBack 127 = .ok (.iaload, 1) := by decide +kernel
theorem dX10_giveBack_128 : decode cX10_giveBack 128 = .ok (.iload_n 1, 1) := by decide +kernel
theorem dX10_giveBack_129 : decode cX10_giveBack 129 = .ok (.if_icmp .ne 7, 3) := by decide +kernel
theorem dX10_giveBack_132 : decode cX10_giveBack 132 = .ok (.iconst (-1), 1) := by decide +kernel
theorem dX10_giveBack_133 : decode cX10_giveBack 133 = .ok (.goto 9, 3) := by decide +kernel
theorem dX10_giveBack_136 : decode cX10_giveBack 136 = .ok (.aload_n 0, 1) := by decide +kernel
theorem dX10_giveBack_137 : decode cX10_giveBack 137 = .ok (.getfield 9, 3) := by decide +kernel
theorem dX10_giveBack_140 : decode cX10_giveBack 140 = .ok (.iload_n 2, 1) := by decide +kernel
theorem dX10_giveBack_141 : decode cX10_giveBack 141 = .ok (.iaload, 1) := by decide +kernel
theorem dX10_giveBack_142 : decode cX10_giveBack 142 = .ok (.iastore, 1) := by decide +kernel
theorem dX10_giveBack_143 : decode cX10_giveBack 143 = .ok (.iinc 2 1, 3) := by decide +kernel
theorem dX10_giveBack_146 : decode cX10_giveBack 146 = .ok (.goto (-35), 3) := by decide +kernel
theorem dX10_giveBack_149 : decode cX10_giveBack 149 = .ok (.iinc 1 1, 3) := by decide +kernel
theorem dX10_giveBack_152 : decode cX10_giveBack 152 = .ok (.goto (-150), 3) := by decide +kernel
theorem dX10_giveBack_155 : decode cX10_giveBack 155 = .ok (.return_, 1) := by decide +kernel
theorem dX10_fade_0 : decode cX10_fade 0 = .ok (.iconst 0, 1) := by decide +kernel
theorem dX10_fade_1 : decode cX10_fade 1 = .ok (.istore_n 1, 1) := by decide +kernel
theorem dX10_fade_2 : decode cX10_fade 2 = .ok (.iload_n 1, 1) := by decide +kernel
theorem dX10_fade_3 : decode cX10_fade 3 = .ok (.aload_n 0, 1) := by decide +kernel
theorem dX10_fade_4 : decode cX10_fade 4 = .ok (.getfield 9, 3) := by decide +kernel
theorem dX10_fade_7 : decode cX10_fade 7 = .ok (.iconst 1, 1) := by decide +kernel
theorem dX10_fade_8 : decode cX10_fade 8 = .ok (.iaload, 1) := by decide +kernel
theorem dX10_fade_9 : decode cX10_fade 9 = .ok (.if_icmp .ge 201, 3) := by decide +kernel
theorem dX10_fade_12 : decode cX10_fade 12 = .ok (.aload_n 0, 1) := by decide +kernel
theorem dX10_fade_13 : decode cX10_fade 13 = .ok (.iload_n 1, 1) := by decide +kernel
theorem dX10_fade_14 : decode cX10_fade 14 = .ok (.iconst 0, 1) := by decide +kernel
theorem dX10_fade_15 : decode cX10_fade 15 = .ok (.invokevirtual 71, 3) := by decide +kernel
theorem dX10_fade_18 : decode cX10_fade 18 = .ok (.iconst 1, 1) := by decide +kernel
theorem dX10_fade_19 : decode cX10_fade 19 = .ok (.if_icmp .ne 27, 3) := by decide +kernel
theorem dX10_fade_22 : decode cX10_fade 22 = .ok (.aload_n 0, 1) := by decide +kernel
theorem dX10_fade_23 : decode cX10_fade 23 = .ok (.iload_n 1, 1) := by decide +kernel
theorem dX10_fade_24 : decode cX10_fade 24 = .ok (.iconst 1, 1) := by decide +kernel
theorem dX10_fade_25 : decode cX10_fade 25 = .ok (.invokevirtual 71, 3) := by decide +kernel
theorem dX10_fade_28 : decode cX10_fade 28 = .ok (.iconst 3, 1) := by decide +kernel
theorem dX10_fade_29 : decode cX10_fade 29 = .ok (.if_icmp .eq 13, 3) := by decide +kernel
theorem dX10_fade_32 : decode cX10_fade 32 = .ok (.aload_n 0, 1) := by decide +kernel
theorem dX10_fade_33 : decode cX10_fade 33 = .ok (.iload_n 1, 1) := by decide +kernel
theorem dX10_fade_34 : decode cX10_fade 34 = .ok (.iconst 1, 1) := by decide +kernel
theorem dX10_fade_35 : decode cX10_fade 35 = .ok (.invokevirtual 71, 3) := by decide +kernel
theorem dX10_fade_38 : decode cX10_fade 38 = .ok (.iconst 4, 1) := by decide +kernel
theorem dX10_fade_39 : decode cX10_fade 39 = .ok (.if_icmp .ne 7, 3) := by decide +kernel
theorem dX10_fade_42 : decode cX10_fade 42 = .ok (.iconst 1, 1) := by decide +kernel
theorem dX10_fade_43 : decode cX10_fade 43 = .ok (.goto 4, 3) := by decide +kernel
theorem dX10_fade_46 : decode cX10_fade 46 = .ok (.iconst 0, 1) := by decide +kernel
theorem dX10_fade_47 : decode cX10_fade 47 = .ok (.istore_n 2, 1) := by decide +kernel
theorem dX10_fade_48 : decode cX10_fade 48 = .ok (.iload_n 2, 1) := by decide +kernel
theorem dX10_fade_49 : decode cX10_fade 49 = .ok (.ifCond .eq 155, 3) := by decide +kernel
theorem dX10_fade_52 : decode cX10_fade 52 = .ok (.aload_n 0, 1) := by decide +kernel
theorem dX10_fade_53 : decode cX10_fade 53 = .ok (.getfield 9, 3) := by decide +kernel
theorem dX10_fade_56 : decode cX10_fade 56 = .ok (.aload_n 0, 1) := by decide +kernel
theorem dX10_fade_57 : decode cX10_fade 57 = .ok (.iload_n 1, 1) := by decide +kernel
theorem dX10_fade_58 : decode cX10_fade 58 = .ok (.invokevirtual 120, 3) := by decide +kernel
theorem dX10_fade_61 : decode cX10_fade 61 = .ok (.iaload, 1) := by decide +kernel
theorem dX10_fade_62 : decode cX10_fade 62 = .ok (.iconst (-1), 1) := by decide +kernel
theorem dX10_fade_63 : decode cX10_fade 63 = .ok (.if_icmp .eq 141, 3) := by decide +kernel
theorem dX10_fade_66 : decode cX10_fade 66 = .ok (.aload_n 0, 1) := by decide +kernel
theorem dX10_fade_67 : decode cX10_fade 67 = .ok (.aload_n 0, 1) := by decide +kernel
theorem dX10_fade_68 : decode cX10_fade 68 = .ok (.getfield 9, 3) := by decide +kernel
theorem dX10_fade_71 : decode cX10_fade 71 = .ok (.aload_n 0, 1) := by decide +kernel
theorem dX10_fade_72 : decode cX10_fade 72 = .ok (.iload_n 1, 1) := by decide +kernel
theorem dX10_fade_73 : decode cX10_fade 73 = .ok (.invokevirtual 120, 3) := by decide +kernel
theorem dX10_fade_76 : decode cX10_fade 76 = .ok (.iaload, 1) := by decide +kernel
theorem dX10_fade_77 : decode cX10_fade 77 = .ok (.iconst 0, 1) := by decide +kernel
theorem dX10_fade_78 : decode cX10_fade 78 = .ok (.invokevirtual 71, 3) := by decide +kernel
theorem dX10_fade_81 : decode cX10_fade 81 = .ok (.ifCond .ne 123, 3) := by decide +kernel
theorem dX10_fade_84 : decode cX10_fade 84 = .ok (.aload_n 0, 1) := by decide +kernel
theorem dX10_fade_85 : decode cX10_fade 85 = .ok (.getfield 9, 3) := by decide +kernel
theorem dX10_fade_88 : decode cX10_fade 88 = .ok (.aload_n 0, 1) := by decide +kernel
theorem dX10_fade_89 : decode cX10_fade 89 = .ok (.iload_n 1, 1) := by decide +kernel
theorem dX10_fade_90 : decode cX10_fade 90 = .ok (.invokevirtual 120, 3) := by decide +kernel
theorem dX10_fade_93 : decode cX10_fade 93 = .ok (.iconst (-1), 1) := by decide +kernel
theorem dX10_fade_94 : decode cX10_fade 94 = .ok (.iastore, 1) := by decide +kernel
theorem dX10_fade_95 : decode cX10_fade 95 = .ok (.aload_n 0, 1) := by decide +kernel
theorem dX10_fade_96 : decode cX10_fade 96 = .ok (.getfield 19, 3) := by decide +kernel
theorem dX10_fade_99 : decode cX10_fade 99 = .ok (.bipush 9, 2) := by decide +kernel
theorem dX10_fade_101 : decode cX10_fade 101 = .ok (.dup2, 1) := by decide +kernel
theorem dX10_fade_102 : decode cX10_fade 102 = .ok (.iaload, 1) := by decide +kernel
theorem dX10_fade_103 : decode cX10_fade 103 = .ok (.iconst 1, 1) := by decide +kernel
theorem dX10_fade_104 : decode cX10_fade 104 = .ok (.iadd, 1) := by decide +kernel
theorem dX10_fade_105 : decode cX10_fade 105 = .ok (.iastore, 1) := by decide +kernel
theorem dX10_fade_106 : decode cX10_fade 106 = .ok (.aload_n 0, 1) := by decide +kernel
theorem dX10_fade_107 : decode cX10_fade 107 = .ok (.iload_n 1, 1) := by decide +kernel
theorem dX10_fade_108 : decode cX10_fade 108 = .ok (.iconst 1, 1) := by decide +kernel
theorem dX10_fade_109 : decode cX10_fade 109 = .ok (.invokevirtual 71, 3) := by decide +kernel
theorem dX10_fade_112 : decode cX10_fade 112 = .ok (.iconst 4, 1) := by decide +kernel
theorem dX10_fade_113 : decode cX10_fade 113 = .ok (.if_icmp .ne 91, 3) := by decide +kernel
theorem dX10_fade_116 : decode cX10_fade 116 = .ok (.aload_n 0, 1) := by decide +kernel
theorem dX10_fade_117 : decode cX10_fade 117 = .ok (.getfield 19, 3) := by decide +kernel
theorem dX10_fade_120 : decode cX10_fade 120 = .ok (.bipush 10, 2) := by decide +kernel
theorem dX10_fade_122 : decode cX10_fade 122 = .ok (.dup2, 1) := by decide +kernel
theorem dX10_fade_123 : decode cX10_fade 123 = .ok (.iaload, 1) := by decide +kernel
theorem dX10_fade_124 : decode cX10_fade 124 = .ok (.iconst 1, 1) := by decide +kernel
theorem dX10_fade_125 : decode cX10_fade 125 = .ok (.iadd, 1) := by decide +kernel
theorem dX10_fade_126 : decode cX10_fade 126 = .ok (.iastore, 1) := by decide +kernel
theorem dX10_fade_127 : decode cX10_fade 127 = .ok (.aload_n 0, 1) := by decide +kernel
theorem dX10_fade_128 : decode cX10_fade 128 = .ok (.getfield 9, 3) := by decide +kernel
theorem dX10_fade_131 : decode cX10_fade 131 = .ok (.bipush 10, 2) := by decide +kernel
theorem dX10_fade_133 : decode cX10_fade 133 = .ok (.iaload, 1) := by decide +kernel
theorem dX10_fade_134 : decode cX10_fade 134 = .ok (.bipush 100, 2) := by decide +kernel
theorem dX10_fade_136 : decode cX10_fade 136 = .ok (.if_icmp .ge 57, 3) := by decide +kernel
theorem dX10_fade_139 : decode cX10_fade 139 = .ok (.bipush 100, 2) := by decide +kernel
theorem dX10_fade_141 : decode cX10_fade 141 = .ok (.iconst 3, 1) := by decide +kernel
theorem dX10_fade_142 : decode cX10_fade 142 = .ok (.aload_n 0, 1) := by decide +kernel
theorem dX10_fade_143 : decode cX10_fade 143 = .ok (.getfield 9, 3) := by decide +kernel
theorem dX10_fade_146 : decode cX10_fade 146 = .ok (.bipush 10, 2) := by decide +kernel
theorem dX10_fade_148 : decode cX10_fade 148 = .ok (.iaload, 1) := by decide +kernel
theorem dX10_fade_149 : decode cX10_fade 149 = .ok (.imul, 1) := by decide +kernel
theorem dX10_fade_150 : decode cX10_fade 150 = .ok (.iadd, 1) := by decide +kernel
theorem dX10_fade_151 : decode cX10_fade 151 = .ok (.istore_n 3, 1) := by decide +kernel
theorem dX10_fade_152 : decode cX10_fade 152 = .ok (.aload_n 0, 1) := by decide +kernel
theorem dX10_fade_153 : decode cX10_fade 153 = .ok (.getfield 9, 3) := by decide +kernel
theorem dX10_fade_156 : decode cX10_fade 156 = .ok (.iload_n 3, 1) := by decide +kernel
theorem dX10_fade_157 : decode cX10_fade 157 = .ok (.iload_n 1, 1) := by decide +kernel
theorem dX10_fade_158 : decode cX10_fade 158 = .ok (.iastore, 1) := by decide +kernel
theorem dX10_fade_159 : decode cX10_fade 159 = .ok (.aload_n 0, 1) := by decide +kernel
theorem dX10_fade_160 : decode cX10_fade 160 = .ok (.getfield 9, 3) := by decide +kernel
theorem dX10_fade_163 : decode cX10_fade 163 = .ok (.iload_n 3, 1) := by decide +kernel
theorem dX10_fade_164 : decode cX10_fade 164 = .ok (.iconst 1, 1) := by decide +kernel
theorem dX10_fade_165 : decode cX10_fade 165 = .ok (.iadd, 1) := by decide +kernel
theorem dX10_fade_166 : decode cX10_fade 166 = .ok (.aload_n 0, 1) := by decide +kernel
theorem dX10_fade_167 : decode cX10_fade 167 = .ok (.getfield 9, 3) := by decide +kernel
theorem dX10_fade_170 : decode cX10_fade 170 = .ok (.aload_n 0, 1) := by decide +kernel
theorem dX10_fade_171 : decode cX10_fade 171 = .ok (.iload_n 1, 1) := by decide +kernel
theorem dX10_fade_172 : decode cX10_fade 172 = .ok (.invokevirtual 120, 3) := by decide +kernel
theorem dX10_fade_175 : decode cX10_fade 175 = .ok (.iconst 1, 1) := by decide +kernel
theorem dX10_fade_176 : decode cX10_fade 176 = .ok (.iadd, 1) := by decide +kernel
theorem dX10_fade_177 : decode cX10_fade 177 = .ok (.iaload, 1) := by decide +kernel
theorem dX10_fade_178 : decode cX10_fade 178 = .ok (.iastore, 1) := by decide +kernel
theorem dX10_fade_179 : decode cX10_fade 179 = .ok (.aload_n 0, 1) := by decide +kernel
theorem dX10_fade_180 : decode cX10_fade 180 = .ok (.getfield 9, 3) := by decide +kernel
theorem dX10_fade_183 : decode cX10_fade 183 = .ok (.iload_n 3, 1) := by decide +kernel
theorem dX10_fade_184 : decode cX10_fade 184 = .ok (.iconst 2, 1) := by decide +kernel
theorem dX10_fade_185 : decode cX10_fade 185 = .ok (.iadd, 1) := by decide +kernel
theorem dX10_fade_186 : decode cX10_fade 186 = .ok (.aload_n 0, 1) := by decide +kernel
theorem dX10_fade_187 : decode cX10_fade 187 = .ok (.getfield 9, 3) := by decide +kernel
theorem dX10_fade_190 : decode cX10_fade 190 = .ok (.iconst 5, 1) := by decide +kernel
theorem dX10_fade_191 : decode cX10_fade 191 = .ok (.iaload, 1) := by decide +kernel
theorem dX10_fade_192 : decode cX10_fade 192 = .ok (.iastore, 1) := by decide +kernel
theorem dX10_fade_193 : decode cX10_fade 193 = .ok (.aload_n 0, 1) := by decide +kernel
theorem dX10_fade_194 : decode cX10_fade 194 = .ok (.getfield 9, 3) := by decide +kernel
theorem dX10_fade_197 : decode cX10_fade 197 = .ok (.bipush 10, 2) := by decide +kernel
theorem dX10_fade_199 : decode cX10_fade 199 = .ok (.dup2, 1) := by decide +kernel
theorem dX10_fade_200 : decode cX10_fade 200 = .ok (.iaload, 1) := by decide +kernel
theorem dX10_fade_201 : decode cX10_fade 201 = .ok (.iconst 1, 1) := by decide +kernel
theorem dX10_fade_202 : decode cX10_fade 202 = .ok (.iadd, 1) := by decide +kernel
theorem dX10_fade_203 : decode cX10_fade 203 = .ok (.iastore, 1) := by decide +kernel
theorem dX10_fade_204 : decode cX10_fade 204 = .ok (.iinc 1 1, 3) := by decide +kernel
theorem dX10_fade_207 : decode cX10_fade 207 = .ok (.goto (-205), 3) := by decide +kernel
theorem dX10_fade_210 : decode cX10_fade 210 = .ok (.return_, 1) := by decide +kernel
theorem dX10_write_0 : decode cX10_write 0 = .ok (.aload_n 0, 1) := by decide +kernel
theorem dX10_write_1 : decode cX10_write 1 = .ok (.getfield 9, 3) := by decide +kernel
theorem dX10_write_4 : decode cX10_write 4 = .ok (.sipush 10100, 3) := by decide +kernel
theorem dX10_write_7 : decode cX10_write 7 = .ok (.aload_n 0, 1) := by decide +kernel
theorem dX10_write_8 : decode cX10_write 8 = .ok (.getfield 9, 3) := by decide +kernel
theorem dX10_write_11 : decode cX10_write 11 = .ok (.bipush 15, 2) := by decide +kernel
theorem dX10_write_13 : decode cX10_write 13 = .ok (.iaload, 1) := by decide +kernel
theorem dX10_write_14 : decode cX10_write 14 = .ok (.iadd, 1) := by decide +kernel
theorem dX10_write_15 : decode cX10_write 15 = .ok (.iload_n 1, 1) := by decide +kernel
theorem dX10_write_16 : decode cX10_write 16 = .ok (.iastore, 1) := by decide +kernel
theorem dX10_write_17 : decode cX10_write 17 = .ok (.aload_n 0, 1) := by decide +kernel
theorem dX10_write_18 : decode cX10_write 18 = .ok (.getfield 9, 3) := by decide +kernel
theorem dX10_write_21 : decode cX10_write 21 = .ok (.sipush 18100, 3) := by decide +kernel
theorem dX10_write_24 : decode cX10_write 24 = .ok (.aload_n 0, 1) := by decide +kernel
theorem dX10_write_25 : decode cX10_write 25 = .ok (.getfield 9, 3) := by decide +kernel
theorem dX10_write_28 : decode cX10_write 28 = .ok (.bipush 15, 2) := by decide +kernel
theorem dX10_write_30 : decode cX10_write 30 = .ok (.iaload, 1) := by decide +kernel
theorem dX10_write_31 : decode cX10_write 31 = .ok (.iadd, 1) := by decide +kernel
theorem dX10_write_32 : decode cX10_write 32 = .ok (.iload_n 1, 1) := by decide +kernel
theorem dX10_write_33 : decode cX10_write 33 = .ok (.iastore, 1) := by decide +kernel
theorem dX10_write_34 : decode cX10_write 34 = .ok (.aload_n 0, 1) := by decide +kernel
theorem dX10_write_35 : decode cX10_write 35 = .ok (.getfield 9, 3) := by decide +kernel
theorem dX10_write_38 : decode cX10_write 38 = .ok (.bipush 15, 2) := by decide +kernel
theorem dX10_write_40 : decode cX10_write 40 = .ok (.dup2, 1) := by decide +kernel
theorem dX10_write_41 : decode cX10_write 41 = .ok (.iaload, 1) := by decide +kernel
theorem dX10_write_42 : decode cX10_write 42 = .ok (.iconst 1, 1) := by decide +kernel
theorem dX10_write_43 : decode cX10_write 43 = .ok (.iadd, 1) := by decide +kernel
theorem dX10_write_44 : decode cX10_write 44 = .ok (.iastore, 1) := by decide +kernel
theorem dX10_write_45 : decode cX10_write 45 = .ok (.return_, 1) := by decide +kernel
theorem dX10_slide_0 : decode cX10_slide 0 = .ok (.aload_n 0, 1) := by decide +kernel
theorem dX10_slide_1 : decode cX10_slide 1 = .ok (.getfield 9, 3) := by decide +kernel
theorem dX10_slide_4 : decode cX10_slide 4 = .ok (.bipush 15, 2) := by decide +kernel
theorem dX10_slide_6 : decode cX10_slide 6 = .ok (.iconst 0, 1) := by decide +kernel
theorem dX10_slide_7 : decode cX10_slide 7 = .ok (.iastore, 1) := by decide +kernel
theorem dX10_slide_8 : decode cX10_slide 8 = .ok (.iconst 0, 1) := by decide +kernel
theorem dX10_slide_9 : decode cX10_slide 9 = .ok (.istore_n 1, 1) := by decide +kernel
theorem dX10_slide_10 : decode cX10_slide 10 = .ok (.iload_n 1, 1) := by decide +kernel
theorem dX10_slide_11 : decode cX10_slide 11 = .ok (.bipush 24, 2) := by decide +kernel
theorem dX10_slide_13 : decode cX10_slide 13 = .ok (.if_icmp .ge 22, 3) := by decide +kernel
theorem dX10_slide_16 : decode cX10_slide 16 = .ok (.aload_n 0, 1) := by decide +kernel
theorem dX10_slide_17 : decode cX10_slide 17 = .ok (.aload_n 0, 1) := by decide +kernel
theorem dX10_slide_18 : decode cX10_slide 18 = .ok (.getfield 9, 3) := by decide +kernel
theorem dX10_slide_21 : decode cX10_slide 21 = .ok (.bipush 20, 2) := by decide +kernel
theorem dX10_slide_23 : decode cX10_slide 23 = .ok (.iload_n 1, 1) := by decide +kernel
theorem dX10_slide_24 : decode cX10_slide 24 = .ok (.iadd, 1) := by decide +kernel
theorem dX10_slide_25 : decode cX10_slide 25 = .ok (.iaload, 1) := by decide +kernel
theorem dX10_slide_26 : decode cX10_slide 26 = .ok (.invokevirtual 123, 3) := by decide +kernel
theorem dX10_slide_29 : decode cX10_slide 29 = .ok (.iinc 1 1, 3) := by decide +kernel
theorem dX10_slide_32 : decode cX10_slide 32 = .ok (.goto (-22), 3) := by decide +kernel
theorem dX10_slide_35 : decode cX10_slide 35 = .ok (.aload_n 0, 1) := by decide +kernel
theorem dX10_slide_36 : decode cX10_slide 36 = .ok (.aload_n 0, 1) := by decide +kernel
theorem dX10_slide_37 : decode cX10_slide 37 = .ok (.getfield 9, 3) := by decide +kernel
theorem dX10_slide_40 : decode cX10_slide 40 = .ok (.bipush 6, 2) := by decide +kernel
theorem dX10_slide_42 : decode cX10_slide 42 = .ok (.iaload, 1) := by decide +kernel
theorem dX10_slide_43 : decode cX10_slide 43 = .ok (.invokevirtual 123, 3) := by decide +kernel
theorem dX10_slide_46 : decode cX10_slide 46 = .ok (.iconst 0, 1) := by decide +kernel
theorem dX10_slide_47 : decode cX10_slide 47 = .ok (.istore_n 1, 1) := by decide +kernel
theorem dX10_slide_48 : decode cX10_slide 48 = .ok (.iconst 0, 1) := by decide +kernel
theorem dX10_slide_49 : decode cX10_slide 49 = .ok (.istore_n 2, 1) := by decide +kernel
theorem dX10_slide_50 : decode cX10_slide 50 = .ok (.iload_n 2, 1) := by decide +kernel
theorem dX10_slide_51 : decode cX10_slide 51 = .ok (.aload_n 0, 1) := by decide +kernel
theorem dX10_slide_52 : decode cX10_slide 52 = .ok (.getfield 9, 3) := by decide +kernel
theorem dX10_slide_55 : decode cX10_slide 55 = .ok (.bipush 16, 2) := by decide +kernel
theorem dX10_slide_57 : decode cX10_slide 57 = .ok (.iaload, 1) := by decide +kernel
theorem dX10_slide_58 : decode cX10_slide 58 = .ok (.if_icmp .ge 149, 3) := by decide +kernel
theorem dX10_slide_61 : decode cX10_slide 61 = .ok (.aload_n 0, 1) := by decide +kernel
theorem dX10_slide_62 : decode cX10_slide 62 = .ok (.getfield 9, 3) := by decide +kernel
theorem dX10_slide_65 : decode cX10_slide 65 = .ok (.sipush 6100, 3) := by decide +kernel
theorem dX10_slide_68 : decode cX10_slide 68 = .ok (.iload_n 2, 1) := by decide +kernel
theorem dX10_slide_69 : decode cX10_slide 69 = .ok (.iadd, 1) := by decide +kernel
theorem dX10_slide_70 : decode cX10_slide 70 = .ok (.iaload, 1) := by decide +kernel
theorem dX10_slide_71 : decode cX10_slide 71 = .ok (.iconst 3, 1) := by decide +kernel
theorem dX10_slide_72 : decode cX10_slide 72 = .ok (.ishr, 1) := by decide +kernel
theorem dX10_slide_73 : decode cX10_slide 73 = .ok (.istore_n 3, 1) := by decide +kernel
theorem dX10_slide_74 : decode cX10_slide 74 = .ok (.aload_n 0, 1) := by decide +kernel
theorem dX10_slide_75 : decode cX10_slide 75 = .ok (.iload_n 3, 1) := by decide +kernel
theorem dX10_slide_76 : decode cX10_slide 76 = .ok (.invokevirtual 126, 3) := by decide +kernel
theorem dX10_slide_79 : decode cX10_slide 79 = .ok (.istore 4, 2) := by decide +kernel
theorem dX10_slide_81 : decode cX10_slide 81 = .ok (.aload_n 0, 1) := by decide +kernel
theorem dX10_slide_82 : decode cX10_slide 82 = .ok (.iload_n 3, 1) := by decide +kernel
theorem dX10_slide_83 : decode cX10_slide 83 = .ok (.iconst 0, 1) := by decide +kernel
theorem dX10_slide_84 : decode cX10_slide 84 = .ok (.invokevirtual 71, 3) := by decide +kernel
theorem dX10_slide_87 : decode cX10_slide 87 = .ok (.iconst 1, 1) := by decide +kernel
theorem dX10_slide_88 : decode cX10_slide 88 = .ok (.if_icmp .ne 111, 3) := by decide +kernel
theorem dX10_slide_91 : decode cX10_slide 91 = .ok (.aload_n 0, 1) := by decide +kernel
theorem dX10_slide_92 : decode cX10_slide 92 = .ok (.iload_n 3, 1) := by decide +kernel
theorem dX10_slide_93 : decode cX10_slide 93 = .ok (.iconst 4, 1) := by decide +kernel
theorem dX10_slide_94 : decode cX10_slide 94 = .ok (.iload_n 2, 1) := by decide +kernel
theorem dX10_slide_95 : decode cX10_slide 95 = .ok (.iload_n 1, 1) := by decide +kernel
theorem dX10_slide_96 : decode cX10_slide 96 = .ok (.isub, 1) := by decide +kernel
theorem dX10_slide_97 : decode cX10_slide 97 = .ok (.invokevirtual 82, 3) := by decide +kernel
theorem dX10_slide_100 : decode cX10_slide 100 = .ok (.aload_n 0, 1) := by decide +kernel
theorem dX10_slide_101 : decode cX10_slide 101 = .ok (.getfield 9, 3) := by decide +kernel
theorem dX10_slide_104 : decode cX10_slide 104 = .ok (.bipush 8, 2) := by decide +kernel
theorem dX10_slide_106 : decode cX10_slide 106 = .ok (.dup2, 1) := by decide +kernel
theorem dX10_slide_107 : decode cX10_slide 107 = .ok (.iaload, 1) := by decide +kernel
theorem dX10_slide_108 : decode cX10_slide 108 = .ok (.iload_n 2, 1) := by decide +kernel
theorem dX10_slide_109 : decode cX10_slide 109 = .ok (.iload_n 1, 1) := by decide +kernel
theorem dX10_slide_110 : decode cX10_slide 110 = .ok (.if_icmp .le 7, 3) := by decide +kernel
theorem dX10_slide_113 : decode cX10_slide 113 = .ok (.iconst 1, 1) := by decide +kernel
theorem dX10_slide_114 : decode cX10_slide 114 = .ok (.goto 4, 3) := by decide +kernel
theorem dX10_slide_117 : decode cX10_slide 117 = .ok (.iconst 0, 1) := by decide +kernel
theorem dX10_slide_118 : decode cX10_slide 118 = .ok (.iadd, 1) := by decide +kernel
theorem dX10_slide_119 : decode cX10_slide 119 = .ok (.iastore, 1) := by decide +kernel
theorem dX10_slide_120 : decode cX10_slide 120 = .ok (.aload_n 0, 1) := by decide +kernel
theorem dX10_slide_121 : decode cX10_slide 121 = .ok (.getfield 19, 3) := by decide +kernel
theorem dX10_slide_124 : decode cX10_slide 124 = .ok (.bipush 13, 2) := by decide +kernel
theorem dX10_slide_126 : decode cX10_slide 126 = .ok (.dup2, 1) := by decide +kernel
theorem dX10_slide_127 : decode cX10_slide 127 = .ok (.iaload, 1) := by decide +kernel
theorem dX10_slide_128 : decode cX10_slide 128 = .ok (.iload_n 2, 1) := by decide +kernel
theorem dX10_slide_129 : decode cX10_slide 129 = .ok (.iload_n 1, 1) := by decide +kernel
theorem dX10_slide_130 : decode cX10_slide 130 = .ok (.if_icmp .le 7, 3) := by decide +kernel
theorem dX10_slide_133 : decode cX10_slide 133 = .ok (.iconst 1, 1) := by decide +kernel
theorem dX10_slide_134 : decode cX10_slide 134 = .ok (.goto 4, 3) := by decide +kernel
theorem dX10_slide_137 : decode cX10_slide 137 = .ok (.iconst 0, 1) := by decide +kernel
theorem dX10_slide_138 : decode cX10_slide 138 = .ok (.iadd, 1) := by decide +kernel
theorem dX10_slide_139 : decode cX10_slide 139 = .ok (.iastore, 1) := by decide +kernel
theorem dX10_slide_140 : decode cX10_slide 140 = .ok (.aload_n 0, 1) := by decide +kernel
theorem dX10_slide_141 : decode cX10_slide 141 = .ok (.iload_n 3, 1) := by decide +kernel
theorem dX10_slide_142 : decode cX10_slide 142 = .ok (.iconst 2, 1) := by decide +kernel
theorem dX10_slide_143 : decode cX10_slide 143 = .ok (.iload_n 1, 1) := by decide +kernel
theorem dX10_slide_144 : decode cX10_slide 144 = .ok (.invokevirtual 82, 3) := by decide +kernel
theorem dX10_slide_147 : decode cX10_slide 147 = .ok (.iconst 0, 1) := by decide +kernel
theorem dX10_slide_148 : decode cX10_slide 148 = .ok (.istore 5, 2) := by decide +kernel
theorem dX10_slide_150 : decode cX10_slide 150 = .ok (.iload 5, 2) := by decide +kernel
theorem dX10_slide_152 : decode cX10_slide 152 = .ok (.iload 4, 2) := by decide +kernel
theorem dX10_slide_154 : decode cX10_slide 154 = .ok (.if_icmp .ge 35, 3) := by decide +kernel
theorem dX10_slide_157 : decode cX10_slide 157 = .ok (.aload_n 0, 1) := by decide +kernel
theorem dX10_slide_158 : decode cX10_slide 158 = .ok (.getfield 9, 3) := by decide +kernel
theorem dX10_slide_161 : decode cX10_slide 161 = .ok (.sipush 6100, 3) := by decide +kernel
theorem dX10_slide_164 : decode cX10_slide 164 = .ok (.iload_n 1, 1) := by decide +kernel
theorem dX10_slide_165 : decode cX10_slide 165 = .ok (.iadd, 1) := by decide +kernel
theorem dX10_slide_166 : decode cX10_slide 166 = .ok (.iload 5, 2) := by decide +kernel
theorem dX10_slide_168 : decode cX10_slide 168 = .ok (.iadd, 1) := by decide +kernel
theorem dX10_slide_169 : decode cX10_slide 169 = .ok (.aload_n 0, 1) := by decide +kernel
theorem dX10_slide_170 : decode cX10_slide 170 = .ok (.getfield 9, 3) := by decide +kernel
theorem dX10_slide_173 : decode cX10_slide 173 = .ok (.sipush 6100, 3) := by decide +kernel
theorem dX10_slide_176 : decode cX10_slide 176 = .ok (.iload_n 2, 1) := by decide +kernel
theorem dX10_slide_177 : decode cX10_slide 177 = .ok (.iadd, 1) := by decide +kernel
theorem dX10_slide_178 : decode cX10_slide 178 = .ok (.iload 5, 2) := by decide +kernel
theorem dX10_slide_180 : decode cX10_slide 180 = .ok (.iadd, 1) := by decide +kernel
theorem dX10_slide_181 : decode cX10_slide 181 = .ok (.iaload, 1) := by decide +kernel
theorem dX10_slide_182 : decode cX10_slide 182 = .ok (.iastore, 1) := by decide +kernel
theorem dX10_slide_183 : decode cX10_slide 183 = .ok (.iinc 5 1, 3) := by decide +kernel
theorem dX10_slide_186 : decode cX10_slide 186 = .ok (.goto (-36), 3) := by decide +kernel
theorem dX10_slide_189 : decode cX10_slide 189 = .ok (.iload_n 1, 1) := by decide +kernel
theorem dX10_slide_190 : decode cX10_slide 190 = .ok (.iload 4, 2) := by decide +kernel
theorem dX10_slide_192 : decode cX10_slide 192 = .ok (.iadd, 1) := by decide +kernel
theorem dX10_slide_193 : decode cX10_slide 193 = .ok (.istore_n 1, 1) := by decide +kernel
theorem dX10_slide_194 : decode cX10_slide 194 = .ok (.aload_n 0, 1) := by decide +kernel
theorem dX10_slide_195 : decode cX10_slide 195 = .ok (.iload_n 3, 1) := by decide +kernel
theorem dX10_slide_196 : decode cX10_slide 196 = .ok (.invokevirtual 129, 3) := by decide +kernel
theorem dX10_slide_199 : decode cX10_slide 199 = .ok (.iload_n 2, 1) := by decide +kernel
theorem dX10_slide_200 : decode cX10_slide 200 = .ok (.iload 4, 2) := by decide +kernel
theorem dX10_slide_202 : decode cX10_slide 202 = .ok (.iadd, 1) := by decide +kernel
theorem dX10_slide_203 : decode cX10_slide 203 = .ok (.istore_n 2, 1) := by decide +kernel
theorem dX10_slide_204 : decode cX10_slide 204 = .ok (.goto (-154), 3) := by decide +kernel
theorem dX10_slide_207 : decode cX10_slide 207 = .ok (.iload_n 1, 1) := by decide +kernel
theorem dX10_slide_208 : decode cX10_slide 208 = .ok (.istore_n 3, 1) := by decide +kernel
theorem dX10_slide_209 : decode cX10_slide 209 = .ok (.iload_n 3, 1) := by decide +kernel
theorem dX10_slide_210 : decode cX10_slide 210 = .ok (.aload_n 0, 1) := by decide +kernel
theorem dX10_slide_211 : decode cX10_slide 211 = .ok (.getfield 9, 3) := by decide +kernel
theorem dX10_slide_214 : decode cX10_slide 214 = .ok (.bipush 16, 2) := by decide +kernel
theorem dX10_slide_216 : decode cX10_slide 216 = .ok (.iaload, 1) := by decide +kernel
theorem dX10_slide_217 : decode cX10_slide 217 = .ok (.if_icmp .ge 20, 3) := by decide +kernel
theorem dX10_slide_220 : decode cX10_slide 220 = .ok (.aload_n 0, 1) := by decide +kernel
theorem dX10_slide_221 : decode cX10_slide 221 = .ok (.getfield 9, 3) := by decide +kernel
theorem dX10_slide_224 : decode cX10_slide 224 = .ok (.sipush 6100, 3) := by decide +kernel
theorem dX10_slide_227 : decode cX10_slide 227 = .ok (.iload_n 3, 1) := by decide +kernel
theorem dX10_slide_228 : decode cX10_slide 228 = .ok (.iadd, 1) := by decide +kernel
theorem dX10_slide_229 : decode cX10_slide 229 = .ok (.iconst 0, 1) := by decide +kernel
theorem dX10_slide_230 : decode cX10_slide 230 = .ok (.iastore, 1) := by decide +kernel
theorem dX10_slide_231 : decode cX10_slide 231 = .ok (.iinc 3 1, 3) := by decide +kernel
theorem dX10_slide_234 : decode cX10_slide 234 = .ok (.goto (-25), 3) := by decide +kernel
theorem dX10_slide_237 : decode cX10_slide 237 = .ok (.aload_n 0, 1) := by decide +kernel
theorem dX10_slide_238 : decode cX10_slide 238 = .ok (.getfield 9, 3) := by decide +kernel
theorem dX10_slide_241 : decode cX10_slide 241 = .ok (.bipush 16, 2) := by decide +kernel
theorem dX10_slide_243 : decode cX10_slide 243 = .ok (.iload_n 1, 1) := by decide +kernel
theorem dX10_slide_244 : decode cX10_slide 244 = .ok (.iastore, 1) := by decide +kernel
theorem dX10_slide_245 : decode cX10_slide 245 = .ok (.aload_n 0, 1) := by decide +kernel
theorem dX10_slide_246 : decode cX10_slide 246 = .ok (.aload_n 0, 1) := by decide +kernel
theorem dX10_slide_247 : decode cX10_slide 247 = .ok (.getfield 9, 3) := by decide +kernel
theorem dX10_slide_250 : decode cX10_slide 250 = .ok (.bipush 7, 2) := by decide +kernel
theorem dX10_slide_252 : decode cX10_slide 252 = .ok (.iaload, 1) := by decide +kernel
theorem dX10_slide_253 : decode cX10_slide 253 = .ok (.invokevirtual 123, 3) := by decide +kernel
theorem dX10_slide_256 : decode cX10_slide 256 = .ok (.iconst 0, 1) := by decide +kernel
theorem dX10_slide_257 : decode cX10_slide 257 = .ok (.istore_n 3, 1) := by decide +kernel
theorem dX10_slide_258 : decode cX10_slide 258 = .ok (.iload_n 3, 1) := by decide +kernel
theorem dX10_slide_259 : decode cX10_slide 259 = .ok (.aload_n 0, 1) := by decide +kernel
theorem dX10_slide_260 : decode cX10_slide 260 = .ok (.getfield 9, 3) := by decide +kernel
theorem dX10_slide_263 : decode cX10_slide 263 = .ok (.bipush 7, 2) := by decide +kernel
theorem dX10_slide_265 : decode cX10_slide 265 = .ok (.iaload, 1) := by decide +kernel
theorem dX10_slide_266 : decode cX10_slide 266 = .ok (.if_icmp .ge 19, 3) := by decide +kernel
theorem dX10_slide_269 : decode cX10_slide 269 = .ok (.aload_n 0, 1) := by decide +kernel
theorem dX10_slide_270 : decode cX10_slide 270 = .ok (.aload_n 0, 1) := by decide +kernel
theorem dX10_slide_271 : decode cX10_slide 271 = .ok (.getfield 22, 3) := by decide +kernel
theorem dX10_slide_274 : decode cX10_slide 274 = .ok (.iload_n 3, 1) := by decide +kernel
theorem dX10_slide_275 : decode cX10_slide 275 = .ok (.iaload, 1) := by decide +kernel
theorem dX10_slide_276 : decode cX10_slide 276 = .ok (.invokevirtual 123, 3) := by decide +kernel
theorem dX10_slide_279 : decode cX10_slide 279 = .ok (.iinc 3 1, 3) := by decide +kernel
theorem dX10_slide_282 : decode cX10_slide 282 = .ok (.goto (-24), 3) := by decide +kernel
theorem dX10_slide_285 : decode cX10_slide 285 = .ok (.aload_n 0, 1) := by decide +kernel
theorem dX10_slide_286 : decode cX10_slide 286 = .ok (.aload_n 0, 1) := by decide +kernel
theorem dX10_slide_287 : decode cX10_slide 287 = .ok (.invokevirtual 132, 3) := by decide +kernel
theorem dX10_slide_290 : decode cX10_slide 290 = .ok (.invokevirtual 123, 3) := by decide +kernel
theorem dX10_slide_293 : decode cX10_slide 293 = .ok (.return_, 1) := by decide +kernel
theorem dX10_writeCell_0 : decode cX10_writeCell 0 = .ok (.aload_n 0, 1) := by decide +kernel
theorem dX10_writeCell_1 : decode cX10_writeCell 1 = .ok (.iload_n 1, 1) := by decide +kernel
theorem dX10_writeCell_2 : decode cX10_writeCell 2 = .ok (.invokevirtual 123, 3) := by decide +kernel
theorem dX10_writeCell_5 : decode cX10_writeCell 5 = .ok (.aload_n 0, 1) := by decide +kernel
theorem dX10_writeCell_6 : decode cX10_writeCell 6 = .ok (.aload_n 0, 1) := by decide +kernel
theorem dX10_writeCell_7 : decode cX10_writeCell 7 = .ok (.iload_n 1, 1) := by decide +kernel
theorem dX10_writeCell_8 : decode cX10_writeCell 8 = .ok (.bipush 6, 2) := by decide +kernel
theorem dX10_writeCell_10 : decode cX10_writeCell 10 = .ok (.invokevirtual 71, 3) := by decide +kernel
theorem dX10_writeCell_13 : decode cX10_writeCell 13 = .ok (.invokevirtual 123, 3) := by decide +kernel
theorem dX10_writeCell_16 : decode cX10_writeCell 16 = .ok (.aload_n 0, 1) := by decide +kernel
theorem dX10_writeCell_17 : decode cX10_writeCell 17 = .ok (.aload_n 0, 1) := by decide +kernel
theorem dX10_writeCell_18 : decode cX10_writeCell 18 = .ok (.iload_n 1, 1) := by decide +kernel
theorem dX10_writeCell_19 : decode cX10_writeCell 19 = .ok (.bipush 7, 2) := by decide +kernel
theorem dX10_writeCell_21 : decode cX10_writeCell 21 = .ok (.invokevirtual 71, 3) := by decide +kernel
theorem dX10_writeCell_24 : decode cX10_writeCell 24 = .ok (.invokevirtual 123, 3) := by decide +kernel
theorem dX10_writeCell_27 : decode cX10_writeCell 27 = .ok (.aload_n 0, 1) := by decide +kernel
theorem dX10_writeCell_28 : decode cX10_writeCell 28 = .ok (.aload_n 0, 1) := by decide +kernel
theorem dX10_writeCell_29 : decode cX10_writeCell 29 = .ok (.iload_n 1, 1) := by decide +kernel
theorem dX10_writeCell_30 : decode cX10_writeCell 30 = .ok (.bipush 8, 2) := by decide +kernel
theorem dX10_writeCell_32 : decode cX10_writeCell 32 = .ok (.invokevirtual 71, 3) := by decide +kernel
theorem dX10_writeCell_35 : decode cX10_writeCell 35 = .ok (.invokevirtual 123, 3) := by decide +kernel
theorem dX10_writeCell_38 : decode cX10_writeCell 38 = .ok (.aload_n 0, 1) := by decide +kernel
theorem dX10_writeCell_39 : decode cX10_writeCell 39 = .ok (.aload_n 0, 1) := by decide +kernel
theorem dX10_writeCell_40 : decode cX10_writeCell 40 = .ok (.iload_n 1, 1) := by decide +kernel
theorem dX10_writeCell_41 : decode cX10_writeCell 41 = .ok (.iconst 5, 1) := by decide +kernel
theorem dX10_writeCell_42 : decode cX10_writeCell 42 = .ok (.invokevirtual 71, 3) := by decide +kernel
theorem dX10_writeCell_45 : decode cX10_writeCell 45 = .ok (.invokevirtual 123, 3) := by decide +kernel
theorem dX10_writeCell_48 : decode cX10_writeCell 48 = .ok (.aload_n 0, 1) := by decide +kernel
theorem dX10_writeCell_49 : decode cX10_writeCell 49 = .ok (.iload_n 1, 1) := by decide +kernel
theorem dX10_writeCell_50 : decode cX10_writeCell 50 = .ok (.invokevirtual 90, 3) := by decide +kernel
theorem dX10_writeCell_53 : decode cX10_writeCell 53 = .ok (.istore_n 2, 1) := by decide +kernel
theorem dX10_writeCell_54 : decode cX10_writeCell 54 = .ok (.aload_n 0, 1) := by decide +kernel
theorem dX10_writeCell_55 : decode cX10_writeCell 55 = .ok (.iload_n 2, 1) := by decide +kernel
theorem dX10_writeCell_56 : decode cX10_writeCell 56 = .ok (.invokevirtual 123, 3) := by decide +kernel
theorem dX10_writeCell_59 : decode cX10_writeCell 59 = .ok (.iconst 0, 1) := by decide +kernel
theorem dX10_writeCell_60 : decode cX10_writeCell 60 = .ok (.istore_n 3, 1) := by decide +kernel
theorem dX10_writeCell_61 : decode cX10_writeCell 61 = .ok (.iload_n 3, 1) := by decide +kernel
theorem dX10_writeCell_62 : decode cX10_writeCell 62 = .ok (.iload_n 2, 1) := by decide +kernel
theorem dX10_writeCell_63 : decode cX10_writeCell 63 = .ok (.if_icmp .ge 24, 3) := by decide +kernel
theorem dX10_writeCell_66 : decode cX10_writeCell 66 = .ok (.aload_n 0, 1) := by decide +kernel
theorem dX10_writeCell_67 : decode cX10_writeCell 67 = .ok (.aload_n 0, 1) := by decide +kernel
theorem dX10_writeCell_68 : decode cX10_writeCell 68 = .ok (.getfield 9, 3) := by decide +kernel
theorem dX10_writeCell_71 : decode cX10_writeCell 71 = .ok (.aload_n 0, 1) := by decide +kernel
theorem dX10_writeCell_72 : decode cX10_writeCell 72 = .ok (.iload_n 1, 1) := by decide +kernel
theorem dX10_writeCell_73 : decode cX10_writeCell 73 = .ok (.iload_n 3, 1) := by decide +kernel
theorem dX10_writeCell_74 : decode cX10_writeCell 74 = .ok (.invokevirtual 98, 3) := by decide +kernel
theorem dX10_writeCell_77 : decode cX10_writeCell 77 = .ok (.iaload, 1) := by decide +kernel
theorem dX10_writeCell_78 : decode cX10_writeCell 78 = .ok (.invokevirtual 123, 3) := by decide +kernel
theorem dX10_writeCell_81 : decode cX10_writeCell 81 = .ok (.iinc 3 1, 3) := by decide +kernel
theorem dX10_writeCell_84 : decode cX10_writeCell 84 = .ok (.goto (-23), 3) := by decide +kernel
theorem dX10_writeCell_87 : decode cX10_writeCell 87 = .ok (.return_, 1) := by decide +kernel
theorem dX10_reached_0 : decode cX10_reached 0 = .ok (.iconst 0, 1) := by decide +kernel
theorem dX10_reached_1 : decode cX10_reached 1 = .ok (.istore_n 1, 1) := by decide +kernel
theorem dX10_reached_2 : decode cX10_reached 2 = .ok (.iload_n 1, 1) := by decide +kernel
theorem dX10_reached_3 : decode cX10_reached 3 = .ok (.sipush 500, 3) := by decide +kernel
theorem dX10_reached_6 : decode cX10_reached 6 = .ok (.if_icmp .ge 16, 3) := by decide +kernel
theorem dX10_reached_9 : decode cX10_reached 9 = .ok (.aload_n 0, 1) := by decide +kernel
theorem dX10_reached_10 : decode cX10_reached 10 = .ok (.getfield 28, 3) := by decide +kernel
theorem dX10_reached_13 : decode cX10_reached 13 = .ok (.iload_n 1, 1) := by decide +kernel
theorem dX10_reached_14 : decode cX10_reached 14 = .ok (.iconst 0, 1) := by decide +kernel
theorem dX10_reached_15 : decode cX10_reached 15 = .ok (.bastore, 1) := by decide +kernel
theorem dX10_reached_16 : decode cX10_reached 16 = .ok (.iinc 1 1, 3) := by decide +kernel
theorem dX10_reached_19 : decode cX10_reached 19 = .ok (.goto (-17), 3) := by decide +kernel
theorem dX10_reached_22 : decode cX10_reached 22 = .ok (.iconst 0, 1) := by decide +kernel
theorem dX10_reached_23 : decode cX10_reached 23 = .ok (.istore_n 1, 1) := by decide +kernel
theorem dX10_reached_24 : decode cX10_reached 24 = .ok (.iconst 0, 1) := by decide +kernel
theorem dX10_reached_25 : decode cX10_reached 25 = .ok (.istore_n 2, 1) := by decide +kernel
theorem dX10_reached_26 : decode cX10_reached 26 = .ok (.iload_n 2, 1) := by decide +kernel
theorem dX10_reached_27 : decode cX10_reached 27 = .ok (.bipush 24, 2) := by decide +kernel
theorem dX10_reached_29 : decode cX10_reached 29 = .ok (.if_icmp .ge 24, 3) := by decide +kernel
theorem dX10_reached_32 : decode cX10_reached 32 = .ok (.aload_n 0, 1) := by decide +kernel
theorem dX10_reached_33 : decode cX10_reached 33 = .ok (.aload_n 0, 1) := by decide +kernel
theorem dX10_reached_34 : decode cX10_reached 34 = .ok (.getfield 9, 3) := by decide +kernel
theorem dX10_reached_37 : decode cX10_reached 37 = .ok (.bipush 20, 2) := by decide +kernel
theorem dX10_reached_39 : decode cX10_reached 39 = .ok (.iload_n 2, 1) := by decide +kernel
theorem dX10_reached_40 : decode cX10_reached 40 = .ok (.iadd, 1) := by decide +kernel
theorem dX10_reached_41 : decode cX10_reached 41 = .ok (.iaload, 1) := by decide +kernel
theorem dX10_reached_42 : decode cX10_reached 42 = .ok (.iload_n 1, 1) := by decide +kernel
theorem dX10_reached_43 : decode cX10_reached 43 = .ok (.invokevirtual 135, 3) := by decide +kernel
theorem dX10_reached_46 : decode cX10_reached 46 = .ok (.istore_n 1, 1) := by decide +kernel
theorem dX10_reached_47 : decode cX10_reached 47 = .ok (.iinc 2 1, 3) := by decide +kernel
theorem dX10_reached_50 : decode cX10_reached 50 = .ok (.goto (-24), 3) := by decide +kernel
theorem dX10_reached_53 : decode cX10_reached 53 = .ok (.iconst 0, 1) := by decide +kernel
theorem dX10_reached_54 : decode cX10_reached 54 = .ok (.istore_n 2, 1) := by decide +kernel
theorem dX10_reached_55 : decode cX10_reached 55 = .ok (.iconst 0, 1) := by decide +kernel
theorem dX10_reached_56 : decode cX10_reached 56 = .ok (.istore_n 3, 1) := by decide +kernel
theorem dX10_reached_57 : decode cX10_reached 57 = .ok (.iload_n 3, 1) := by decide +kernel
theorem dX10_reached_58 : decode cX10_reached 58 = .ok (.iload_n 1, 1) := by decide +kernel
theorem dX10_reached_59 : decode cX10_reached 59 = .ok (.if_icmp .ge 69, 3) := by decide +kernel
theorem dX10_reached_62 : decode cX10_reached 62 = .ok (.aload_n 0, 1) := by decide +kernel
theorem dX10_reached_63 : decode cX10_reached 63 = .ok (.getfield 25, 3) := by decide +kernel
theorem dX10_reached_66 : decode cX10_reached 66 = .ok (.iload_n 3, 1) := by decide +kernel
theorem dX10_reached_67 : decode cX10_reached 67 = .ok (.iaload, 1) := by decide +kernel
theorem dX10_reached_68 : decode cX10_reached 68 = .ok (.istore 4, 2) := by decide +kernel
theorem dX10_reached_70 : decode cX10_reached 70 = .ok (.iload_n 2, 1) := by decide +kernel
theorem dX10_reached_71 : decode cX10_reached 71 = .ok (.aload_n 0, 1) := by decide +kernel
theorem dX10_reached_72 : decode cX10_reached 72 = .ok (.iload 4, 2) := by decide +kernel
theorem dX10_reached_74 : decode cX10_reached 74 = .ok (.invokevirtual 126, 3) := by decide +kernel
theorem dX10_reached_77 : decode cX10_reached 77 = .ok (.iadd, 1) := by decide +kernel
theorem dX10_reached_78 : decode cX10_reached 78 = .ok (.istore_n 2, 1) := by decide +kernel
theorem dX10_reached_79 : decode cX10_reached 79 = .ok (.aload_n 0, 1) := by decide +kernel
theorem dX10_reached_80 : decode cX10_reached 80 = .ok (.iload 4, 2) := by decide +kernel
theorem dX10_reached_82 : decode cX10_reached 82 = .ok (.invokevirtual 90, 3) := by decide +kernel
theorem dX10_reached_85 : decode cX10_reached 85 = .ok (.istore 5, 2) := by decide +kernel
theorem dX10_reached_87 : decode cX10_reached 87 = .ok (.iconst 0, 1) := by decide +kernel
theorem dX10_reached_88 : decode cX10_reached 88 = .ok (.istore 6, 2) := by decide +kernel
theorem dX10_reached_90 : decode cX10_reached 90 = .ok (.iload 6, 2) := by decide +kernel
theorem dX10_reached_92 : decode cX10_reached 92 = .ok (.iload 5, 2) := by decide +kernel
theorem dX10_reached_94 : decode cX10_reached 94 = .ok (.if_icmp .ge 28, 3) := by decide +kernel
theorem dX10_reached_97 : decode cX10_reached 97 = .ok (.aload_n 0, 1) := by decide +kernel
theorem dX10_reached_98 : decode cX10_reached 98 = .ok (.aload_n 0, 1) := by decide +kernel
theorem dX10_reached_99 : decode cX10_reached 99 = .ok (.getfield 9, 3) := by decide +kernel
theorem dX10_reached_102 : decode cX10_reached 102 = .ok (.aload_n 0, 1) := by decide +kernel
theorem dX10_reached_103 : decode cX10_reached 103 = .ok (.iload 4, 2) := by decide +kernel
theorem dX10_reached_105 : decode cX10_reached 105 = .ok (.iload 6, 2) := by decide +kernel
theorem dX10_reached_107 : decode cX10_reached 107 = .ok (.invokevirtual 98, 3) := by decide +kernel
theorem dX10_reached_110 : decode cX10_reached 110 = .ok (.iaload, 1) := by decide +kernel
theorem dX10_reached_111 : decode cX10_reached 111 = .ok (.iload_n 1, 1) := by decide +kernel
theorem dX10_reached_112 : decode cX10_reached 112 = .ok (.invokevirtual 135, 3) := by decide +kernel
theorem dX10_reached_115 : decode cX10_reached 115 = .ok (.istore_n 1, 1) := by decide +kernel
theorem dX10_reached_116 : decode cX10_reached 116 = .ok (.iinc 6 1, 3) := by decide +kernel
theorem dX10_reached_119 : decode cX10_reached 119 = .ok (.goto (-29), 3) := by decide +kernel
theorem dX10_reached_122 : decode cX10_reached 122 = .ok (.iinc 3 1, 3) := by decide +kernel
theorem dX10_reached_125 : decode cX10_reached 125 = .ok (.goto (-68), 3) := by decide +kernel
theorem dX10_reached_128 : decode cX10_reached 128 = .ok (.iload_n 2, 1) := by decide +kernel
theorem dX10_reached_129 : decode cX10_reached 129 = .ok (.ireturn, 1) := by decide +kernel
theorem dX10_comes_0 : decode cX10_comes 0 = .ok (.iload_n 1, 1) := by decide +kernel
theorem dX10_comes_1 : decode cX10_comes 1 = .ok (.iconst (-1), 1) := by decide +kernel
theorem dX10_comes_2 : decode cX10_comes 2 = .ok (.if_icmp .eq 12, 3) := by decide +kernel
theorem dX10_comes_5 : decode cX10_comes 5 = .ok (.aload_n 0, 1) := by decide +kernel
theorem dX10_comes_6 : decode cX10_comes 6 = .ok (.getfield 28, 3) := by decide +kernel
theorem dX10_comes_9 : decode cX10_comes 9 = .ok (.iload_n 1, 1) := by decide +kernel
theorem dX10_comes_10 : decode cX10_comes 10 = .ok (.baload, 1) := by decide +kernel
theorem dX10_comes_11 : decode cX10_comes 11 = .ok (.ifCond .eq 5, 3) := by decide +kernel
theorem dX10_comes_14 : decode cX10_comes 14 = .ok (.iload_n 2, 1) := by decide +kernel
theorem dX10_comes_15 : decode cX10_comes 15 = .ok (.ireturn, 1) := by decide +kernel
theorem dX10_comes_16 : decode cX10_comes 16 = .ok (.aload_n 0, 1) := by decide +kernel
theorem dX10_comes_17 : decode cX10_comes 17 = .ok (.getfield 28, 3) := by decide +kernel
theorem dX10_comes_20 : decode cX10_comes 20 = .ok (.iload_n 1, 1) := by decide +kernel
theorem dX10_comes_21 : decode cX10_comes 21 = .ok (.iconst 1, 1) := by decide +kernel
theorem dX10_comes_22 : decode cX10_comes 22 = .ok (.bastore, 1) := by decide +kernel
theorem dX10_comes_23 : decode cX10_comes 23 = .ok (.aload_n 0, 1) := by decide +kernel
theorem dX10_comes_24 : decode cX10_comes 24 = .ok (.getfield 25, 3) := by decide +kernel
theorem dX10_comes_27 : decode cX10_comes 27 = .ok (.iload_n 2, 1) := by decide +kernel
theorem dX10_comes_28 : decode cX10_comes 28 = .ok (.iload_n 1, 1) := by decide +kernel
theorem dX10_comes_29 : decode cX10_comes 29 = .ok (.iastore, 1) := by decide +kernel
theorem dX10_comes_30 : decode cX10_comes 30 = .ok (.iload_n 2, 1) := by decide +kernel
theorem dX10_comes_31 : decode cX10_comes 31 = .ok (.iconst 1, 1) := by decide +kernel
theorem dX10_comes_32 : decode cX10_comes 32 = .ok (.iadd, 1) := by decide +kernel
theorem dX10_comes_33 : decode cX10_comes 33 = .ok (.ireturn, 1) := by decide +kernel
theorem dX10_makes_0 : decode cX10_makes 0 = .ok (.iload_n 1, 1) := by decide +kernel
theorem dX10_makes_1 : decode cX10_makes 1 = .ok (.invokestatic 138, 3) := by decide +kernel
theorem dX10_makes_4 : decode cX10_makes 4 = .ok (.ifCond .eq 7, 3) := by decide +kernel
theorem dX10_makes_7 : decode cX10_makes 7 = .ok (.iload_n 2, 1) := by decide +kernel
theorem dX10_makes_8 : decode cX10_makes 8 = .ok (.goto 4, 3) := by decide +kernel
theorem dX10_makes_11 : decode cX10_makes 11 = .ok (.iconst 0, 1) := by decide +kernel
theorem dX10_makes_12 : decode cX10_makes 12 = .ok (.istore_n 3, 1) := by decide +kernel
theorem dX10_makes_13 : decode cX10_makes 13 = .ok (.iload_n 3, 1) := by decide +kernel
theorem dX10_makes_14 : decode cX10_makes 14 = .ok (.ifCond .ge 8, 3) := by decide +kernel
theorem dX10_makes_17 : decode cX10_makes 17 = .ok (.iconst 4, 1) := by decide +kernel
theorem dX10_makes_18 : decode cX10_makes 18 = .ok (.invokestatic 141, 3) := by decide +kernel
theorem dX10_makes_21 : decode cX10_makes 21 = .ok (.ireturn, 1) := by decide +kernel
theorem dX10_makes_22 : decode cX10_makes 22 = .ok (.aload_n 0, 1) := by decide +kernel
theorem dX10_makes_23 : decode cX10_makes 23 = .ok (.getfield 9, 3) := by decide +kernel
theorem dX10_makes_26 : decode cX10_makes 26 = .ok (.iconst 1, 1) := by decide +kernel
theorem dX10_makes_27 : decode cX10_makes 27 = .ok (.iaload, 1) := by decide +kernel
theorem dX10_makes_28 : decode cX10_makes 28 = .ok (.sipush 500, 3) := by decide +kernel
theorem dX10_makes_31 : decode cX10_makes 31 = .ok (.if_icmp .ne 9, 3) := by decide +kernel
theorem dX10_makes_34 : decode cX10_makes 34 = .ok (.bipush 6, 2) := by decide +kernel
theorem dX10_makes_36 : decode cX10_makes 36 = .ok (.invokestatic 141, 3) := by decide +kernel
theorem dX10_makes_39 : decode cX10_makes 39 = .ok (.ireturn, 1) := by decide +kernel
theorem dX10_makes_40 : decode cX10_makes 40 = .ok (.iload_n 1, 1) := by decide +kernel
theorem dX10_makes_41 : decode cX10_makes 41 = .ok (.iload_n 3, 1) := by decide +kernel
theorem dX10_makes_42 : decode cX10_makes 42 = .ok (.invokestatic 75, 3) := by decide +kernel
theorem dX10_makes_45 : decode cX10_makes 45 = .ok (.istore 4, 2) := by decide +kernel
theorem dX10_makes_47 : decode cX10_makes 47 = .ok (.iload 4, 2) := by decide +kernel
theorem dX10_makes_49 : decode cX10_makes 49 = .ok (.aload_n 0, 1) := by decide +kernel
theorem dX10_makes_50 : decode cX10_makes 50 = .ok (.getfield 9, 3) := by decide +kernel
theorem dX10_makes_53 : decode cX10_makes 53 = .ok (.iconst 0, 1) := by decide +kernel
theorem dX10_makes_54 : decode cX10_makes 54 = .ok (.iaload, 1) := by decide +kernel
theorem dX10_makes_55 : decode cX10_makes 55 = .ok (.aload_n 0, 1) := by decide +kernel
theorem dX10_makes_56 : decode cX10_makes 56 = .ok (.getfield 9, 3) := by decide +kernel
theorem dX10_makes_59 : decode cX10_makes 59 = .ok (.bipush 16, 2) := by decide +kernel
theorem dX10_makes_61 : decode cX10_makes 61 = .ok (.iaload, 1) := by decide +kernel
theorem dX10_makes_62 : decode cX10_makes 62 = .ok (.isub, 1) := by decide +kernel
theorem dX10_makes_63 : decode cX10_makes 63 = .ok (.if_icmp .le 64, 3) := by decide +kernel
theorem dX10_makes_66 : decode cX10_makes 66 = .ok (.aload_n 0, 1) := by decide +kernel
theorem dX10_makes_67 : decode cX10_makes 67 = .ok (.invokevirtual 144, 3) := by decide +kernel
theorem dX10_makes_70 : decode cX10_makes 70 = .ok (.iload 4, 2) := by decide +kernel
theorem dX10_makes_72 : decode cX10_makes 72 = .ok (.iadd, 1) := by decide +kernel
theorem dX10_makes_73 : decode cX10_makes 73 = .ok (.aload_n 0, 1) := by decide +kernel
theorem dX10_makes_74 : decode cX10_makes 74 = .ok (.getfield 9, 3) := by decide +kernel
theorem dX10_makes_77 : decode cX10_makes 77 = .ok (.iconst 0, 1) := by decide +kernel
theorem dX10_makes_78 : decode cX10_makes 78 = .ok (.iaload, 1) := by decide +kernel
theorem dX10_makes_79 : decode cX10_makes 79 = .ok (.if_icmp .le 9, 3) := by decide +kernel
theorem dX10_makes_82 : decode cX10_makes 82 = .ok (.bipush 6, 2) := by decide +kernel
theorem dX10_makes_84 : decode cX10_makes 84 = .ok (.invokestatic 141, 3) := by decide +kernel
theorem dX10_makes_87 : decode cX10_makes 87 = .ok (.ireturn, 1) := by decide +kernel
theorem dX10_makes_88 : decode cX10_makes 88 = .ok (.aload_n 0, 1) := by decide +kernel
theorem dX10_makes_89 : decode cX10_makes 89 = .ok (.getfield 9, 3) := by decide +kernel
theorem dX10_makes_92 : decode cX10_makes 92 = .ok (.iconst 3, 1) := by decide +kernel
theorem dX10_makes_93 : decode cX10_makes 93 = .ok (.iaload, 1) := by decide +kernel
theorem dX10_makes_94 : decode cX10_makes 94 = .ok (.iconst 1, 1) := by decide +kernel
theorem dX10_makes_95 : decode cX10_makes 95 = .ok (.if_icmp .ne 8, 3) := by decide +kernel
theorem dX10_makes_98 : decode cX10_makes 98 = .ok (.aload_n 0, 1) := by decide +kernel
theorem dX10_makes_99 : decode cX10_makes 99 = .ok (.invokevirtual 147, 3) := by decide +kernel
theorem dX10_makes_102 : decode cX10_makes 102 = .ok (.pop, 1) := by decide +kernel
theorem dX10_makes_103 : decode cX10_makes 103 = .ok (.iload 4, 2) := by decide +kernel
theorem dX10_makes_105 : decode cX10_makes 105 = .ok (.aload_n 0, 1) := by decide +kernel
theorem dX10_makes_106 : decode cX10_makes 106 = .ok (.getfield 9, 3) := by decide +kernel
theorem dX10_makes_109 : decode cX10_makes 109 = .ok (.iconst 0, 1) := by decide +kernel
theorem dX10_makes_110 : decode cX10_makes 110 = .ok (.iaload, 1) := by decide +kernel
theorem dX10_makes_111 : decode cX10_makes 111 = .ok (.aload_n 0, 1) := by decide +kernel
theorem dX10_makes_112 : decode cX10_makes 112 = .ok (.getfield 9, 3) := by decide +kernel
theorem dX10_makes_115 : decode cX10_makes 115 = .ok (.bipush 16, 2) := by decide +kernel
theorem dX10_makes_117 : decode cX10_makes 117 = .ok (.iaload, 1) := by decide +kernel
theorem dX10_makes_118 : decode cX10_makes 118 = .ok (.isub, 1) := by decide +kernel
theorem dX10_makes_119 : decode cX10_makes 119 = .ok (.if_icmp .le 8, 3) := by decide +kernel
theorem dX10_makes_122 : decode cX10_makes 122 = .ok (.aload_n 0, 1) := by decide +kernel
theorem dX10_makes_123 : decode cX10_makes 123 = .ok (.invokevirtual 147, 3) := by decide +kernel
theorem dX10_makes_126 : decode cX10_makes 126 = .ok (.pop, 1) := by decide +kernel
theorem dX10_makes_127 : decode cX10_makes 127 = .ok (.aload_n 0, 1) := by decide +kernel
theorem dX10_makes_128 : decode cX10_makes 128 = .ok (.getfield 9, 3) := by decide +kernel
theorem dX10_makes_131 : decode cX10_makes 131 = .ok (.iconst 1, 1) := by decide +kernel
theorem dX10_makes_132 : decode cX10_makes 132 = .ok (.iaload, 1) := by decide +kernel
theorem dX10_makes_133 : decode cX10_makes 133 = .ok (.istore 5, 2) := by decide +kernel
theorem dX10_makes_135 : decode cX10_makes 135 = .ok (.aload_n 0, 1) := by decide +kernel
theorem dX10_makes_136 : decode cX10_makes 136 = .ok (.getfield 9, 3) := by decide +kernel
theorem dX10_makes_139 : decode cX10_makes 139 = .ok (.iconst 1, 1) := by decide +kernel
theorem dX10_makes_140 : decode cX10_makes 140 = .ok (.dup2, 1) := by decide +kernel
theorem dX10_makes_141 : decode cX10_makes 141 = .ok (.iaload, 1) := by decide +kernel
theorem dX10_makes_142 : decode cX10_makes 142 = .ok (.iconst 1, 1) := by decide +kernel
theorem dX10_makes_143 : decode cX10_makes 143 = .ok (.iadd, 1) := by decide +kernel
theorem dX10_makes_144 : decode cX10_makes 144 = .ok (.iastore, 1) := by decide +kernel
theorem dX10_makes_145 : decode cX10_makes 145 = .ok (.aload_n 0, 1) := by decide +kernel
theorem dX10_makes_146 : decode cX10_makes 146 = .ok (.getfield 9, 3) := by decide +kernel
theorem dX10_makes_149 : decode cX10_makes 149 = .ok (.iconst 2, 1) := by decide +kernel
theorem dX10_makes_150 : decode cX10_makes 150 = .ok (.dup2, 1) := by decide +kernel
theorem dX10_makes_151 : decode cX10_makes 151 = .ok (.iaload, 1) := by decide +kernel
theorem dX10_makes_152 : decode cX10_makes 152 = .ok (.iconst 1, 1) := by decide +kernel
theorem dX10_makes_153 : decode cX10_makes 153 = .ok (.iadd, 1) := by decide +kernel
theorem dX10_makes_154 : decode cX10_makes 154 = .ok (.iastore, 1) := by decide +kernel
theorem dX10_makes_155 : decode cX10_makes 155 = .ok (.aload_n 0, 1) := by decide +kernel
theorem dX10_makes_156 : decode cX10_makes 156 = .ok (.iload 5, 2) := by decide +kernel
theorem dX10_makes_158 : decode cX10_makes 158 = .ok (.iconst 0, 1) := by decide +kernel
theorem dX10_makes_159 : decode cX10_makes 159 = .ok (.iconst 1, 1) := by decide +kernel
theorem dX10_makes_160 : decode cX10_makes 160 = .ok (.invokevirtual 82, 3) := by decide +kernel
theorem dX10_makes_163 : decode cX10_makes 163 = .ok (.aload_n 0, 1) := by decide +kernel
theorem dX10_makes_164 : decode cX10_makes 164 = .ok (.iload 5, 2) := by decide +kernel
theorem dX10_makes_166 : decode cX10_makes 166 = .ok (.iconst 1, 1) := by decide +kernel
theorem dX10_makes_167 : decode cX10_makes 167 = .ok (.iload_n 1, 1) := by decide +kernel
theorem dX10_makes_168 : decode cX10_makes 168 = .ok (.invokevirtual 82, 3) := by decide +kernel
theorem dX10_makes_171 : decode cX10_makes 171 = .ok (.aload_n 0, 1) := by decide +kernel
theorem dX10_makes_172 : decode cX10_makes 172 = .ok (.iload 5, 2) := by decide +kernel
theorem dX10_makes_174 : decode cX10_makes 174 = .ok (.iconst 2, 1) := by decide +kernel
theorem dX10_makes_175 : decode cX10_makes 175 = .ok (.aload_n 0, 1) := by decide +kernel
theorem dX10_makes_176 : decode cX10_makes 176 = .ok (.getfield 9, 3) := by decide +kernel
theorem dX10_makes_179 : decode cX10_makes 179 = .ok (.bipush 16, 2) := by decide +kernel
theorem dX10_makes_181 : decode cX10_makes 181 = .ok (.iaload, 1) := by decide +kernel
theorem dX10_makes_182 : decode cX10_makes 182 = .ok (.invokevirtual 82, 3) := by decide +kernel
theorem dX10_makes_185 : decode cX10_makes 185 = .ok (.aload_n 0, 1) := by decide +kernel
theorem dX10_makes_186 : decode cX10_makes 186 = .ok (.iload 5, 2) := by decide +kernel
theorem dX10_makes_188 : decode cX10_makes 188 = .ok (.iconst 3, 1) := by decide +kernel
theorem dX10_makes_189 : decode cX10_makes 189 = .ok (.iload_n 3, 1) := by decide +kernel
theorem dX10_makes_190 : decode cX10_makes 190 = .ok (.invokevirtual 82, 3) := by decide +kernel
theorem dX10_makes_193 : decode cX10_makes 193 = .ok (.aload_n 0, 1) := by decide +kernel
theorem dX10_makes_194 : decode cX10_makes 194 = .ok (.iload 5, 2) := by decide +kernel
theorem dX10_makes_196 : decode cX10_makes 196 = .ok (.iconst 4, 1) := by decide +kernel
theorem dX10_makes_197 : decode cX10_makes 197 = .ok (.iconst 0, 1) := by decide +kernel
theorem dX10_makes_198 : decode cX10_makes 198 = .ok (.invokevirtual 82, 3) := by decide +kernel
theorem dX10_makes_201 : decode cX10_makes 201 = .ok (.aload_n 0, 1) := by decide +kernel
theorem dX10_makes_202 : decode cX10_makes 202 = .ok (.iload 5, 2) := by decide +kernel
theorem dX10_makes_204 : decode cX10_makes 204 = .ok (.iconst 5, 1) := by decide +kernel
theorem dX10_makes_205 : decode cX10_makes 205 = .ok (.iconst 0, 1) := by decide +kernel
theorem dX10_makes_206 : decode cX10_makes 206 = .ok (.invokevirtual 82, 3) := by decide +kernel
theorem dX10_makes_209 : decode cX10_makes 209 = .ok (.aload_n 0, 1) := by decide +kernel
theorem dX10_makes_210 : decode cX10_makes 210 = .ok (.getfield 9, 3) := by decide +kernel
theorem dX10_makes_213 : decode cX10_makes 213 = .ok (.sipush 6100, 3) := by decide +kernel
theorem dX10_makes_216 : decode cX10_makes 216 = .ok (.aload_n 0, 1) := by decide +kernel
theorem dX10_makes_217 : decode cX10_makes 217 = .ok (.getfield 9, 3) := by decide +kernel
theorem dX10_makes_220 : decode cX10_makes 220 = .ok (.bipush 16, 2) := by decide +kernel
theorem dX10_makes_222 : decode cX10_makes 222 = .ok (.iaload, 1) := by decide +kernel
theorem dX10_makes_223 : decode cX10_makes 223 = .ok (.iadd, 1) := by decide +kernel
theorem dX10_makes_224 : decode cX10_makes 224 = .ok (.bipush 8, 2) := by decide +kernel
theorem dX10_makes_226 : decode cX10_makes 226 = .ok (.iload 5, 2) := by decide +kernel
theorem dX10_makes_228 : decode cX10_makes 228 = .ok (.imul, 1) := by decide +kernel
theorem dX10_makes_229 : decode cX10_makes 229 = .ok (.iload_n 1, 1) := by decide +kernel
theorem dX10_makes_230 : decode cX10_makes 230 = .ok (.iadd, 1) := by decide +kernel
theorem dX10_makes_231 : decode cX10_makes 231 = .ok (.iastore, 1) := by decide +kernel
theorem dX10_makes_232 : decode cX10_makes 232 = .ok (.iload_n 1, 1) := by decide +kernel
theorem dX10_makes_233 : decode cX10_makes 233 = .ok (.invokestatic 138, 3) := by decide +kernel
theorem dX10_makes_236 : decode cX10_makes 236 = .ok (.ifCond .eq 22, 3) := by decide +kernel
theorem dX10_makes_239 : decode cX10_makes 239 = .ok (.aload_n 0, 1) := by decide +kernel
theorem dX10_makes_240 : decode cX10_makes 240 = .ok (.getfield 9, 3) := by decide +kernel
theorem dX10_makes_243 : decode cX10_makes 243 = .ok (.sipush 6100, 3) := by decide +kernel
theorem dX10_makes_246 : decode cX10_makes 246 = .ok (.aload_n 0, 1) := by decide +kernel
theorem dX10_makes_247 : decode cX10_makes 247 = .ok (.getfield 9, 3) := by decide +kernel
theorem dX10_makes_250 : decode cX10_makes 250 = .ok (.bipush 16, 2) := by decide +kernel
theorem dX10_makes_252 : decode cX10_makes 252 = .ok (.iaload, 1) := by decide +kernel
theorem dX10_makes_253 : decode cX10_makes 253 = .ok (.iadd, 1) := by decide +kernel
theorem dX10_makes_254 : decode cX10_makes 254 = .ok (.iconst 1, 1) := by decide +kernel
theorem dX10_makes_255 : decode cX10_makes 255 = .ok (.iadd, 1) := by decide +kernel
theorem dX10_makes_256 : decode cX10_makes 256 = .ok (.iload_n 3, 1) := by decide +kernel
theorem dX10_makes_257 : decode cX10_makes 257 = .ok (.iastore, 1) := by decide +kernel
theorem dX10_makes_258 : decode cX10_makes 258 = .ok (.aload_n 0, 1) := by decide +kernel
theorem dX10_makes_259 : decode cX10_makes 259 = .ok (.iload 5, 2) := by decide +kernel
theorem dX10_makes_261 : decode cX10_makes 261 = .ok (.invokevirtual 90, 3) := by decide +kernel
theorem dX10_makes_264 : decode cX10_makes 264 = .ok (.istore 6, 2) := by decide +kernel
theorem dX10_makes_266 : decode cX10_makes 266 = .ok (.iconst 0, 1) := by decide +kernel
theorem dX10_makes_267 : decode cX10_makes 267 = .ok (.istore 7, 2) := by decide +kernel
theorem dX10_makes_269 : decode cX10_makes 269 = .ok (.iload 7, 2) := by decide +kernel
theorem dX10_makes_271 : decode cX10_makes 271 = .ok (.iload 6, 2) := by decide +kernel
theorem dX10_makes_273 : decode cX10_makes 273 = .ok (.if_icmp .ge 23, 3) := by decide +kernel
theorem dX10_makes_276 : decode cX10_makes 276 = .ok (.aload_n 0, 1) := by decide +kernel
theorem dX10_makes_277 : decode cX10_makes 277 = .ok (.getfield 9, 3) := by decide +kernel
theorem dX10_makes_280 : decode cX10_makes 280 = .ok (.aload_n 0, 1) := by decide +kernel
theorem dX10_makes_281 : decode cX10_makes 281 = .ok (.iload 5, 2) := by decide +kernel
theorem dX10_makes_283 : decode cX10_makes 283 = .ok (.iload 7, 2) := by decide +kernel
theorem dX10_makes_285 : decode cX10_makes 285 = .ok (.invokevirtual 98, 3) := by decide +kernel
theorem dX10_makes_288 : decode cX10_makes 288 = .ok (.iconst (-1), 1) := by decide +kernel
theorem dX10_makes_289 : decode cX10_makes 289 = .ok (.iastore, 1) := by decide +kernel
theorem dX10_makes_290 : decode cX10_makes 290 = .ok (.iinc 7 1, 3) := by decide +kernel
theorem dX10_makes_293 : decode cX10_makes 293 = .ok (.goto (-24), 3) := by decide +kernel
theorem dX10_makes_296 : decode cX10_makes 296 = .ok (.iload_n 1, 1) := by decide +kernel
theorem dX10_makes_297 : decode cX10_makes 297 = .ok (.iconst 3, 1) := by decide +kernel
theorem dX10_makes_298 : decode cX10_makes 298 = .ok (.if_icmp .eq 8, 3) := by decide +kernel
theorem dX10_makes_301 : decode cX10_makes 301 = .ok (.iload_n 1, 1) := by decide +kernel
theorem dX10_makes_302 : decode cX10_makes 302 = .ok (.iconst 4, 1) := by decide +kernel
theorem dX10_makes_303 : decode cX10_makes 303 = .ok (.if_icmp .ne 15, 3) := by decide +kernel
theorem dX10_makes_306 : decode cX10_makes 306 = .ok (.aload_n 0, 1) := by decide +kernel
theorem dX10_makes_307 : decode cX10_makes 307 = .ok (.getfield 9, 3) := by decide +kernel
theorem dX10_makes_310 : decode cX10_makes 310 = .ok (.aload_n 0, 1) := by decide +kernel
theorem dX10_makes_311 : decode cX10_makes 311 = .ok (.iload 5, 2) := by decide +kernel
theorem dX10_makes_313 : decode cX10_makes 313 = .ok (.invokevirtual 120, 3) := by decide +kernel
theorem dX10_makes_316 : decode cX10_makes 316 = .ok (.iconst (-1), 1) := by decide +kernel
theorem dX10_makes_317 : decode cX10_makes 317 = .ok (.iastore, 1) := by decide +kernel
theorem dX10_makes_318 : decode cX10_makes 318 = .ok (.aload_n 0, 1) := by decide +kernel
theorem dX10_makes_319 : decode cX10_makes 319 = .ok (.getfield 9, 3) := by decide +kernel
theorem dX10_makes_322 : decode cX10_makes 322 = .ok (.bipush 16, 2) := by decide +kernel
theorem dX10_makes_324 : decode cX10_makes 324 = .ok (.dup2, 1) := by decide +kernel
theorem dX10_makes_325 : decode cX10_makes 325 = .ok (.iaload, 1) := by decide +kernel
theorem dX10_makes_326 : decode cX10_makes 326 = .ok (.iload 4, 2) := by decide +kernel
theorem dX10_makes_328 : decode cX10_makes 328 = .ok (.iadd, 1) := by decide +kernel
theorem dX10_makes_329 : decode cX10_makes 329 = .ok (.iastore, 1) := by decide +kernel
theorem dX10_makes_330 : decode cX10_makes 330 = .ok (.aload_n 0, 1) := by decide +kernel
theorem dX10_makes_331 : decode cX10_makes 331 = .ok (.getfield 9, 3) := by decide +kernel
theorem dX10_makes_334 : decode cX10_makes 334 = .ok (.iconst 3, 1) := by decide +kernel
theorem dX10_makes_335 : decode cX10_makes 335 = .ok (.iaload, 1) := by decide +kernel
theorem dX10_makes_336 : decode cX10_makes 336 = .ok (.iconst 1, 1) := by decide +kernel
theorem dX10_makes_337 : decode cX10_makes 337 = .ok (.if_icmp .ne 12, 3) := by decide +kernel
theorem dX10_makes_340 : decode cX10_makes 340 = .ok (.aload_n 0, 1) := by decide +kernel
theorem dX10_makes_341 : decode cX10_makes 341 = .ok (.iload 5, 2) := by decide +kernel
theorem dX10_makes_343 : decode cX10_makes 343 = .ok (.iconst 5, 1) := by decide +kernel
theorem dX10_makes_344 : decode cX10_makes 344 = .ok (.iconst (-1), 1) := by decide +kernel
theorem dX10_makes_345 : decode cX10_makes 345 = .ok (.iconst (-1), 1) := by decide +kernel
theorem dX10_makes_346 : decode cX10_makes 346 = .ok (.invokevirtual 86, 3) := by decide +kernel
theorem dX10_makes_349 : decode cX10_makes 349 = .ok (.iload 5, 2) := by decide +kernel
theorem dX10_makes_351 : decode cX10_makes 351 = .ok (.ireturn, 1) := by decide +kernel
theorem dX10_make_0 : decode cX10_make 0 = .ok (.iload_n 1, 1) := by decide +kernel
theorem dX10_make_1 : decode cX10_make 1 = .ok (.i2l, 1) := by decide +kernel
theorem dX10_make_2 : decode cX10_make 2 = .ok (.lconst 0, 1) := by decide +kernel
theorem dX10_make_3 : decode cX10_make 3 = .ok (.ldc2_w 150, 3) := by decide +kernel
theorem dX10_make_6 : decode cX10_make 6 = .ok (.invokestatic 63, 3) := by decide +kernel
theorem dX10_make_9 : decode cX10_make 9 = .ok (.ifCond .eq 17, 3) := by decide +kernel
theorem dX10_make_12 : decode cX10_make 12 = .ok (.iload_n 1, 1) := by decide +kernel
theorem dX10_make_13 : decode cX10_make 13 = .ok (.invokestatic 138, 3) := by decide +kernel
theorem dX10_make_16 : decode cX10_make 16 = .ok (.ifCond .eq 13, 3) := by decide +kernel
theorem dX10_make_19 : decode cX10_make 19 = .ok (.iload_n 2, 1) := by decide +kernel
theorem dX10_make_20 : decode cX10_make 20 = .ok (.sipush 300, 3) := by decide +kernel
theorem dX10_make_23 : decode cX10_make 23 = .ok (.if_icmp .le 6, 3) := by decide +kernel
theorem dX10_make_26 : decode cX10_make 26 = .ok (.bipush (-102), 2) := by decide +kernel
theorem dX10_make_28 : decode cX10_make 28 = .ok (.ireturn, 1) := by decide +kernel
theorem dX10_make_29 : decode cX10_make 29 = .ok (.aload_n 0, 1) := by decide +kernel
theorem dX10_make_30 : decode cX10_make 30 = .ok (.aload_n 0, 1) := by decide +kernel
theorem dX10_make_31 : decode cX10_make 31 = .ok (.iload_n 1, 1) := by decide +kernel
theorem dX10_make_32 : decode cX10_make 32 = .ok (.iload_n 2, 1) := by decide +kernel
theorem dX10_make_33 : decode cX10_make 33 = .ok (.invokevirtual 152, 3) := by decide +kernel
theorem dX10_make_36 : decode cX10_make 36 = .ok (.invokevirtual 155, 3) := by decide +kernel
theorem dX10_make_39 : decode cX10_make 39 = .ok (.ireturn, 1) := by decide +kernel
theorem dX10_kind_0 : decode cX10_kind 0 = .ok (.aload_n 0, 1) := by decide +kernel
theorem dX10_kind_1 : decode cX10_kind 1 = .ok (.iload_n 1, 1) := by decide +kernel
theorem dX10_kind_2 : decode cX10_kind 2 = .ok (.invokevirtual 67, 3) := by decide +kernel
theorem dX10_kind_5 : decode cX10_kind 5 = .ok (.ifCond .ne 8, 3) := by decide +kernel
theorem dX10_kind_8 : decode cX10_kind 8 = .ok (.bipush (-101), 2) := by decide +kernel
theorem dX10_kind_10 : decode cX10_kind 10 = .ok (.goto 28, 3) := by decide +kernel
theorem dX10_kind_13 : decode cX10_kind 13 = .ok (.aload_n 0, 1) := by decide +kernel
theorem dX10_kind_14 : decode cX10_kind 14 = .ok (.aload_n 0, 1) := by decide +kernel
theorem dX10_kind_15 : decode cX10_kind 15 = .ok (.iload_n 1, 1) := by decide +kernel
theorem dX10_kind_16 : decode cX10_kind 16 = .ok (.invokevirtual 158, 3) := by decide +kernel
theorem dX10_kind_19 : decode cX10_kind 19 = .ok (.ifCond .eq 10, 3) := by decide +kernel
theorem dX10_kind_22 : decode cX10_kind 22 = .ok (.iconst 1, 1) := by decide +kernel
theorem dX10_kind_23 : decode cX10_kind 23 = .ok (.invokestatic 141, 3) := by decide +kernel
theorem dX10_kind_26 : decode cX10_kind 26 = .ok (.goto 9, 3) := by decide +kernel
theorem dX10_kind_29 : decode cX10_kind 29 = .ok (.aload_n 0, 1) := by decide +kernel
theorem dX10_kind_30 : decode cX10_kind 30 = .ok (.iload_n 1, 1) := by decide +kernel
theorem dX10_kind_31 : decode cX10_kind 31 = .ok (.iconst 1, 1) := by decide +kernel
theorem dX10_kind_32 : decode cX10_kind 32 = .ok (.invokevirtual 71, 3) := by decide +kernel
theorem dX10_kind_35 : decode cX10_kind 35 = .ok (.invokevirtual 155, 3) := by decide +kernel
theorem dX10_kind_38 : decode cX10_kind 38 = .ok (.ireturn, 1) := by decide +kernel
theorem dX10_place_0 : decode cX10_place 0 = .ok (.aload_n 0, 1) := by decide +kernel
theorem dX10_place_1 : decode cX10_place 1 = .ok (.iload_n 1, 1) := by decide +kernel
theorem dX10_place_2 : decode cX10_place 2 = .ok (.invokevirtual 67, 3) := by decide +kernel
theorem dX10_place_5 : decode cX10_place 5 = .ok (.ifCond .ne 8, 3) := by decide +kernel
theorem dX10_place_8 : decode cX10_place 8 = .ok (.bipush (-101), 2) := by decide +kernel
theorem dX10_place_10 : decode cX10_place 10 = .ok (.goto 28, 3) := by decide +kernel
theorem dX10_place_13 : decode cX10_place 13 = .ok (.aload_n 0, 1) := by decide +kernel
theorem dX10_place_14 : decode cX10_place 14 = .ok (.aload_n 0, 1) := by decide +kernel
theorem dX10_place_15 : decode cX10_place 15 = .ok (.iload_n 1, 1) := by decide +kernel
theorem dX10_place_16 : decode cX10_place 16 = .ok (.invokevirtual 158, 3) := by decide +kernel
theorem dX10_place_19 : decode cX10_place 19 = .ok (.ifCond .eq 10, 3) := by decide +kernel
theorem dX10_place_22 : decode cX10_place 22 = .ok (.iconst 1, 1) := by decide +kernel
theorem dX10_place_23 : decode cX10_place 23 = .ok (.invokestatic 141, 3) := by decide +kernel
theorem dX10_place_26 : decode cX10_place 26 = .ok (.goto 9, 3) := by decide +kernel
theorem dX10_place_29 : decode cX10_place 29 = .ok (.aload_n 0, 1) := by decide +kernel
theorem dX10_place_30 : decode cX10_place 30 = .ok (.iload_n 1, 1) := by decide +kernel
theorem dX10_place_31 : decode cX10_place 31 = .ok (.iconst 2, 1) := by decide +kernel
theorem dX10_place_32 : decode cX10_place 32 = .ok (.invokevirtual 71, 3) := by decide +kernel
theorem dX10_place_35 : decode cX10_place 35 = .ok (.invokevirtual 155, 3) := by decide +kernel
theorem dX10_place_38 : decode cX10_place 38 = .ok (.ireturn, 1) := by decide +kernel
theorem dX10_measure_0 : decode cX10_measure 0 = .ok (.aload_n 0, 1) := by decide +kernel
theorem dX10_measure_1 : decode cX10_measure 1 = .ok (.iload_n 1, 1) := by decide +kernel
theorem dX10_measure_2 : decode cX10_measure 2 = .ok (.invokevirtual 67, 3) := by decide +kernel
theorem dX10_measure_5 : decode cX10_measure 5 = .ok (.ifCond .ne 6, 3) := by decide +kernel
theorem dX10_measure_8 : decode cX10_measure 8 = .ok (.bipush (-101), 2) := by decide +kernel
theorem dX10_measure_10 : decode cX10_measure 10 = .ok (.ireturn, 1) := by decide +kernel
theorem dX10_measure_11 : decode cX10_measure 11 = .ok (.aload_n 0, 1) := by decide +kernel
theorem dX10_measure_12 : decode cX10_measure 12 = .ok (.iload_n 1, 1) := by decide +kernel
theorem dX10_measure_13 : decode cX10_measure 13 = .ok (.invokevirtual 158, 3) := by decide +kernel
theorem dX10_measure_16 : decode cX10_measure 16 = .ok (.ifCond .eq 12, 3) := by decide +kernel
theorem dX10_measure_19 : decode cX10_measure 19 = .ok (.aload_n 0, 1) := by decide +kernel
theorem dX10_measure_20 : decode cX10_measure 20 = .ok (.iconst 1, 1) := by decide +kernel
theorem dX10_measure_21 : decode cX10_measure 21 = .ok (.invokestatic 141, 3) := by decide +kernel
theorem dX10_measure_24 : decode cX10_measure 24 = .ok (.invokevirtual 155, 3) := by decide +kernel
theorem dX10_measure_27 : decode cX10_measure 27 = .ok (.ireturn, 1) := by decide +kernel
theorem dX10_measure_28 : decode cX10_measure 28 = .ok (.aload_n 0, 1) := by decide +kernel
theorem dX10_measure_29 : decode cX10_measure 29 = .ok (.iload_n 1, 1) := by decide +kernel
theorem dX10_measure_30 : decode cX10_measure 30 = .ok (.iconst 1, 1) := by decide +kernel
theorem dX10_measure_31 : decode cX10_measure 31 = .ok (.invokevirtual 71, 3) := by decide +kernel
theorem dX10_measure_34 : decode cX10_measure 34 = .ok (.istore_n 2, 1) := by decide +kernel
theorem dX10_measure_35 : decode cX10_measure 35 = .ok (.aload_n 0, 1) := by decide +kernel
theorem dX10_measure_36 : decode cX10_measure 36 = .ok (.getfield 19, 3) := by decide +kernel
theorem dX10_measure_39 : decode cX10_measure 39 = .ok (.iconst 0, 1) := by decide +kernel
theorem dX10_measure_40 : decode cX10_measure 40 = .ok (.dup2, 1) := by decide +kernel
theorem dX10_measure_41 : decode cX10_measure 41 = .ok (.iaload, 1) := by decide +kernel
theorem dX10_measure_42 : decode cX10_measure 42 = .ok (.iload_n 2, 1) := by decide +kernel
theorem dX10_measure_43 : decode cX10_measure 43 = .ok (.ifCond .eq 13, 3) := by decide +kernel
theorem dX10_measure_46 : decode cX10_measure 46 = .ok (.iload_n 2, 1) := by decide +kernel
theorem dX10_measure_47 : decode cX10_measure 47 = .ok (.iconst 3, 1) := by decide +kernel
theorem dX10_measure_48 : decode cX10_measure 48 = .ok (.if_icmp .eq 8, 3) := by decide +kernel
theorem dX10_measure_51 : decode cX10_measure 51 = .ok (.iload_n 2, 1) := by decide +kernel
theorem dX10_measure_52 : decode cX10_measure 52 = .ok (.iconst 4, 1) := by decide +kernel
theorem dX10_measure_53 : decode cX10_measure 53 = .ok (.if_icmp .ne 7, 3) := by decide +kernel
theorem dX10_measure_56 : decode cX10_measure 56 = .ok (.iconst 1, 1) := by decide +kernel
theorem dX10_measure_57 : decode cX10_measure 57 = .ok (.goto 4, 3) := by decide +kernel
theorem dX10_measure_60 : decode cX10_measure 60 = .ok (.iconst 0, 1) := by decide +kernel
theorem dX10_measure_61 : decode cX10_measure 61 = .ok (.iadd, 1) := by decide +kernel
theorem dX10_measure_62 : decode cX10_measure 62 = .ok (.iastore, 1) := by decide +kernel
theorem dX10_measure_63 : decode cX10_measure 63 = .ok (.aload_n 0, 1) := by decide +kernel
theorem dX10_measure_64 : decode cX10_measure 64 = .ok (.getfield 19, 3) := by decide +kernel
theorem dX10_measure_67 : decode cX10_measure 67 = .ok (.iconst 1, 1) := by decide +kernel
theorem dX10_measure_68 : decode cX10_measure 68 = .ok (.dup2, 1) := by decide +kernel
theorem dX10_measure_69 : decode cX10_measure 69 = .ok (.iaload, 1) := by decide +kernel
theorem dX10_measure_70 : decode cX10_measure 70 = .ok (.iload_n 2, 1) := by decide +kernel
theorem dX10_measure_71 : decode cX10_measure 71 = .ok (.iconst 4, 1) := by decide +kernel
theorem dX10_measure_72 : decode cX10_measure 72 = .ok (.if_icmp .ne 7, 3) := by decide +kernel
theorem dX10_measure_75 : decode cX10_measure 75 = .ok (.iconst 1, 1) := by decide +kernel
theorem dX10_measure_76 : decode cX10_measure 76 = .ok (.goto 4, 3) := by decide +kernel
theorem dX10_measure_79 : decode cX10_measure 79 = .ok (.iconst 0, 1) := by decide +kernel
theorem dX10_measure_80 : decode cX10_measure 80 = .ok (.iadd, 1) := by decide +kernel
theorem dX10_measure_81 : decode cX10_measure 81 = .ok (.iastore, 1) := by decide +kernel
theorem dX10_measure_82 : decode cX10_measure 82 = .ok (.aload_n 0, 1) := by decide +kernel
theorem dX10_measure_83 : decode cX10_measure 83 = .ok (.getfield 19, 3) := by decide +kernel
theorem dX10_measure_86 : decode cX10_measure 86 = .ok (.iconst 2, 1) := by decide +kernel
theorem dX10_measure_87 : decode cX10_measure 87 = .ok (.dup2, 1) := by decide +kernel
theorem dX10_measure_88 : decode cX10_measure 88 = .ok (.iaload, 1) := by decide +kernel
theorem dX10_measure_89 : decode cX10_measure 89 = .ok (.iload_n 2, 1) := by decide +kernel
theorem dX10_measure_90 : decode cX10_measure 90 = .ok (.iconst 1, 1) := by decide +kernel
theorem dX10_measure_91 : decode cX10_measure 91 = .ok (.if_icmp .eq 8, 3) := by decide +kernel
theorem dX10_measure_94 : decode cX10_measure 94 = .ok (.iload_n 2, 1) := by decide +kernel
theorem dX10_measure_95 : decode cX10_measure 95 = .ok (.iconst 5, 1) := by decide +kernel
theorem dX10_measure_96 : decode cX10_measure 96 = .ok (.if_icmp .ne 7, 3) := by decide +kernel
theorem dX10_measure_99 : decode cX10_measure 99 = .ok (.iconst 1, 1) := by decide +kernel
theorem dX10_measure_100 : decode cX10_measure 100 = .ok (.goto 4, 3) := by decide +kernel
theorem dX10_measure_103 : decode cX10_measure 103 = .ok (.iconst 0, 1) := by decide +kernel
theorem dX10_measure_104 : decode cX10_measure 104 = .ok (.iadd, 1) := by decide +kernel
theorem dX10_measure_105 : decode cX10_measure 105 = .ok (.iastore, 1) := by decide +kernel
theorem dX10_measure_106 : decode cX10_measure 106 = .ok (.aload_n 0, 1) := by decide +kernel
theorem dX10_measure_107 : decode cX10_measure 107 = .ok (.getfield 19, 3) := by decide +kernel
theorem dX10_measure_110 : decode cX10_measure 110 = .ok (.iconst 3, 1) := by decide +kernel
theorem dX10_measure_111 : decode cX10_measure 111 = .ok (.dup2, 1) := by decide +kernel
theorem dX10_measure_112 : decode cX10_measure 112 = .ok (.iaload, 1) := by decide +kernel
theorem dX10_measure_113 : decode cX10_measure 113 = .ok (.iload_n 2, 1) := by decide +kernel
theorem dX10_measure_114 : decode cX10_measure 114 = .ok (.iconst 5, 1) := by decide +kernel
theorem dX10_measure_115 : decode cX10_measure 115 = .ok (.if_icmp .ne 7, 3) := by decide +kernel
theorem dX10_measure_118 : decode cX10_measure 118 = .ok (.iconst 1, 1) := by decide +kernel
theorem dX10_measure_119 : decode cX10_measure 119 = .ok (.goto 4, 3) := by decide +kernel
theorem dX10_measure_122 : decode cX10_measure 122 = .ok (.iconst 0, 1) := by decide +kernel
theorem dX10_measure_123 : decode cX10_measure 123 = .ok (.iadd, 1) := by decide +kernel
theorem dX10_measure_124 : decode cX10_measure 124 = .ok (.iastore, 1) := by decide +kernel
theorem dX10_measure_125 : decode cX10_measure 125 = .ok (.aload_n 0, 1) := by decide +kernel
theorem dX10_measure_126 : decode cX10_measure 126 = .ok (.getfield 19, 3) := by decide +kernel
theorem dX10_measure_129 : decode cX10_measure 129 = .ok (.iconst 4, 1) := by decide +kernel
theorem dX10_measure_130 : decode cX10_measure 130 = .ok (.dup2, 1) := by decide +kernel
theorem dX10_measure_131 : decode cX10_measure 131 = .ok (.iaload, 1) := by decide +kernel
theorem dX10_measure_132 : decode cX10_measure 132 = .ok (.iload_n 2, 1) := by decide +kernel
theorem dX10_measure_133 : decode cX10_measure 133 = .ok (.iconst 2, 1) := by decide +kernel
theorem dX10_measure_134 : decode cX10_measure 134 = .ok (.if_icmp .ne 7, 3) := by decide +kernel
theorem dX10_measure_137 : decode cX10_measure 137 = .ok (.iconst 1, 1) := by decide +kernel
theorem dX10_measure_138 : decode cX10_measure 138 = .ok (.goto 4, 3) := by decide +kernel
theorem dX10_measure_141 : decode cX10_measure 141 = .ok (.iconst 0, 1) := by decide +kernel
theorem dX10_measure_142 : decode cX10_measure 142 = .ok (.iadd, 1) := by decide +kernel
theorem dX10_measure_143 : decode cX10_measure 143 = .ok (.iastore, 1) := by decide +kernel
theorem dX10_measure_144 : decode cX10_measure 144 = .ok (.aload_n 0, 1) := by decide +kernel
theorem dX10_measure_145 : decode cX10_measure 145 = .ok (.aload_n 0, 1) := by decide +kernel
theorem dX10_measure_146 : decode cX10_measure 146 = .ok (.iload_n 1, 1) := by decide +kernel
theorem dX10_measure_147 : decode cX10_measure 147 = .ok (.invokevirtual 126, 3) := by decide +kernel
theorem dX10_measure_150 : decode cX10_measure 150 = .ok (.invokevirtual 155, 3) := by decide +kernel
theorem dX10_measure_153 : decode cX10_measure 153 = .ok (.ireturn, 1) := by decide +kernel
theorem dX10_links_0 : decode cX10_links 0 = .ok (.aload_n 0, 1) := by decide +kernel
theorem dX10_links_1 : decode cX10_links 1 = .ok (.iload_n 1, 1) := by decide +kernel
theorem dX10_links_2 : decode cX10_links 2 = .ok (.invokevirtual 67, 3) := by decide +kernel
theorem dX10_links_5 : decode cX10_links 5 = .ok (.ifCond .ne 6, 3) := by decide +kernel
theorem dX10_links_8 : decode cX10_links 8 = .ok (.bipush (-101), 2) := by decide +kernel
theorem dX10_links_10 : decode cX10_links 10 = .ok (.ireturn, 1) := by decide +kernel
theorem dX10_links_11 : decode cX10_links 11 = .ok (.aload_n 0, 1) := by decide +kernel
theorem dX10_links_12 : decode cX10_links 12 = .ok (.iload_n 1, 1) := by decide +kernel
theorem dX10_links_13 : decode cX10_links 13 = .ok (.invokevirtual 158, 3) := by decide +kernel
theorem dX10_links_16 : decode cX10_links 16 = .ok (.ifCond .eq 12, 3) := by decide +kernel
theorem dX10_links_19 : decode cX10_links 19 = .ok (.aload_n 0, 1) := by decide +kernel
theorem dX10_links_20 : decode cX10_links 20 = .ok (.iconst 1, 1) := by decide +kernel
theorem dX10_links_21 : decode cX10_links 21 = .ok (.invokestatic 141, 3) := by decide +kernel
theorem dX10_links_24 : decode cX10_links 24 = .ok (.invokevirtual 155, 3) := by decide +kernel
theorem dX10_links_27 : decode cX10_links 27 = .ok (.ireturn, 1) := by decide +kernel
theorem dX10_links_28 : decode cX10_links 28 = .ok (.aload_n 0, 1) := by decide +kernel
theorem dX10_links_29 : decode cX10_links 29 = .ok (.iload_n 1, 1) := by decide +kernel
theorem dX10_links_30 : decode cX10_links 30 = .ok (.iconst 1, 1) := by decide +kernel
theorem dX10_links_31 : decode cX10_links 31 = .ok (.invokevirtual 71, 3) := by decide +kernel
theorem dX10_links_34 : decode cX10_links 34 = .ok (.istore_n 2, 1) := by decide +kernel
theorem dX10_links_35 : decode cX10_links 35 = .ok (.aload_n 0, 1) := by decide +kernel
theorem dX10_links_36 : decode cX10_links 36 = .ok (.getfield 19, 3) := by decide +kernel
theorem dX10_links_39 : decode cX10_links 39 = .ok (.iconst 5, 1) := by decide +kernel
theorem dX10_links_40 : decode cX10_links 40 = .ok (.dup2, 1) := by decide +kernel
theorem dX10_links_41 : decode cX10_links 41 = .ok (.iaload, 1) := by decide +kernel
theorem dX10_links_42 : decode cX10_links 42 = .ok (.iload_n 2, 1) := by decide +kernel
theorem dX10_links_43 : decode cX10_links 43 = .ok (.ifCond .eq 13, 3) := by decide +kernel
theorem dX10_links_46 : decode cX10_links 46 = .ok (.iload_n 2, 1) := by decide +kernel
theorem dX10_links_47 : decode cX10_links 47 = .ok (.iconst 3, 1) := by decide +kernel
theorem dX10_links_48 : decode cX10_links 48 = .ok (.if_icmp .eq 8, 3) := by decide +kernel
theorem dX10_links_51 : decode cX10_links 51 = .ok (.iload_n 2, 1) := by decide +kernel
theorem dX10_links_52 : decode cX10_links 52 = .ok (.iconst 4, 1) := by decide +kernel
theorem dX10_links_53 : decode cX10_links 53 = .ok (.if_icmp .ne 7, 3) := by decide +kernel
theorem dX10_links_56 : decode cX10_links 56 = .ok (.iconst 1, 1) := by decide +kernel
theorem dX10_links_57 : decode cX10_links 57 = .ok (.goto 4, 3) := by decide +kernel
theorem dX10_links_60 : decode cX10_links 60 = .ok (.iconst 0, 1) := by decide +kernel
theorem dX10_links_61 : decode cX10_links 61 = .ok (.iadd, 1) := by decide +kernel
theorem dX10_links_62 : decode cX10_links 62 = .ok (.iastore, 1) := by decide +kernel
theorem dX10_links_63 : decode cX10_links 63 = .ok (.aload_n 0, 1) := by decide +kernel
theorem dX10_links_64 : decode cX10_links 64 = .ok (.getfield 19, 3) := by decide +kernel
theorem dX10_links_67 : decode cX10_links 67 = .ok (.bipush 6, 2) := by decide +kernel
theorem dX10_links_69 : decode cX10_links 69 = .ok (.dup2, 1) := by decide +kernel
theorem dX10_links_70 : decode cX10_links 70 = .ok (.iaload, 1) := by decide +kernel
theorem dX10_links_71 : decode cX10_links 71 = .ok (.iload_n 2, 1) := by decide +kernel
theorem dX10_links_72 : decode cX10_links 72 = .ok (.iconst 3, 1) := by decide +kernel
theorem dX10_links_73 : decode cX10_links 73 = .ok (.if_icmp .eq 8, 3) := by decide +kernel
theorem dX10_links_76 : decode cX10_links 76 = .ok (.iload_n 2, 1) := by decide +kernel
theorem dX10_links_77 : decode cX10_links 77 = .ok (.iconst 4, 1) := by decide +kernel
theorem dX10_links_78 : decode cX10_links 78 = .ok (.if_icmp .ne 7, 3) := by decide +kernel
theorem dX10_links_81 : decode cX10_links 81 = .ok (.iconst 1, 1) := by decide +kernel
theorem dX10_links_82 : decode cX10_links 82 = .ok (.goto 4, 3) := by decide +kernel
theorem dX10_links_85 : decode cX10_links 85 = .ok (.iconst 0, 1) := by decide +kernel
theorem dX10_links_86 : decode cX10_links 86 = .ok (.iadd, 1) := by decide +kernel
theorem dX10_links_87 : decode cX10_links 87 = .ok (.iastore, 1) := by decide +kernel
theorem dX10_links_88 : decode cX10_links 88 = .ok (.aload_n 0, 1) := by decide +kernel
theorem dX10_links_89 : decode cX10_links 89 = .ok (.getfield 19, 3) := by decide +kernel
theorem dX10_links_92 : decode cX10_links 92 = .ok (.bipush 7, 2) := by decide +kernel
theorem dX10_links_94 : decode cX10_links 94 = .ok (.dup2, 1) := by decide +kernel
theorem dX10_links_95 : decode cX10_links 95 = .ok (.iaload, 1) := by decide +kernel
theorem dX10_links_96 : decode cX10_links 96 = .ok (.iload_n 2, 1) := by decide +kernel
theorem dX10_links_97 : decode cX10_links 97 = .ok (.iconst 1, 1) := by decide +kernel
theorem dX10_links_98 : decode cX10_links 98 = .ok (.if_icmp .eq 8, 3) := by decide +kernel
theorem dX10_links_101 : decode cX10_links 101 = .ok (.iload_n 2, 1) := by decide +kernel
theorem dX10_links_102 : decode cX10_links 102 = .ok (.iconst 5, 1) := by decide +kernel
theorem dX10_links_103 : decode cX10_links 103 = .ok (.if_icmp .ne 7, 3) := by decide +kernel
theorem dX10_links_106 : decode cX10_links 106 = .ok (.iconst 1, 1) := by decide +kernel
theorem dX10_links_107 : decode cX10_links 107 = .ok (.goto 4, 3) := by decide +kernel
theorem dX10_links_110 : decode cX10_links 110 = .ok (.iconst 0, 1) := by decide +kernel
theorem dX10_links_111 : decode cX10_links 111 = .ok (.iadd, 1) := by decide +kernel
theorem dX10_links_112 : decode cX10_links 112 = .ok (.iastore, 1) := by decide +kernel
theorem dX10_links_113 : decode cX10_links 113 = .ok (.aload_n 0, 1) := by decide +kernel
theorem dX10_links_114 : decode cX10_links 114 = .ok (.getfield 19, 3) := by decide +kernel
theorem dX10_links_117 : decode cX10_links 117 = .ok (.bipush 8, 2) := by decide +kernel
theorem dX10_links_119 : decode cX10_links 119 = .ok (.dup2, 1) := by decide +kernel
theorem dX10_links_120 : decode cX10_links 120 = .ok (.iaload, 1) := by decide +kernel
theorem dX10_links_121 : decode cX10_links 121 = .ok (.iload_n 2, 1) := by decide +kernel
theorem dX10_links_122 : decode cX10_links 122 = .ok (.iconst 2, 1) := by decide +kernel
theorem dX10_links_123 : decode cX10_links 123 = .ok (.if_icmp .ne 7, 3) := by decide +kernel
theorem dX10_links_126 : decode cX10_links 126 = .ok (.iconst 1, 1) := by decide +kernel
theorem dX10_links_127 : decode cX10_links 127 = .ok (.goto 4, 3) := by decide +kernel
theorem dX10_links_130 : decode cX10_links 130 = .ok (.iconst 0, 1) := by decide +kernel
theorem dX10_links_131 : decode cX10_links 131 = .ok (.iadd, 1) := by decide +kernel
theorem dX10_links_132 : decode cX10_links 132 = .ok (.iastore, 1) := by decide +kernel
theorem dX10_links_133 : decode cX10_links 133 = .ok (.aload_n 0, 1) := by decide +kernel
theorem dX10_links_134 : decode cX10_links 134 = .ok (.aload_n 0, 1) := by decide +kernel
theorem dX10_links_135 : decode cX10_links 135 = .ok (.iload_n 1, 1) := by decide +kernel
theorem dX10_links_136 : decode cX10_links 136 = .ok (.invokevirtual 90, 3) := by decide +kernel
theorem dX10_links_139 : decode cX10_links 139 = .ok (.invokevirtual 155, 3) := by decide +kernel
theorem dX10_links_142 : decode cX10_links 142 = .ok (.ireturn, 1) := by decide +kernel
theorem dX10_relinks_0 : decode cX10_relinks 0 = .ok (.aload_n 0, 1) := by decide +kernel
theorem dX10_relinks_1 : decode cX10_relinks 1 = .ok (.iload_n 1, 1) := by decide +kernel
theorem dX10_relinks_2 : decode cX10_relinks 2 = .ok (.iload_n 2, 1) := by decide +kernel
theorem dX10_relinks_3 : decode cX10_relinks 3 = .ok (.invokevirtual 98, 3) := by decide +kernel
theorem dX10_relinks_6 : decode cX10_relinks 6 = .ok (.istore 4, 2) := by decide +kernel
theorem dX10_relinks_8 : decode cX10_relinks 8 = .ok (.aload_n 0, 1) := by decide +kernel
theorem dX10_relinks_9 : decode cX10_relinks 9 = .ok (.getfield 9, 3) := by decide +kernel
theorem dX10_relinks_12 : decode cX10_relinks 12 = .ok (.iconst 3, 1) := by decide +kernel
theorem dX10_relinks_13 : decode cX10_relinks 13 = .ok (.iaload, 1) := by decide +kernel
theorem dX10_relinks_14 : decode cX10_relinks 14 = .ok (.iconst 1, 1) := by decide +kernel
theorem dX10_relinks_15 : decode cX10_relinks 15 = .ok (.if_icmp .ne 17, 3) := by decide +kernel
theorem dX10_relinks_18 : decode cX10_relinks 18 = .ok (.aload_n 0, 1) := by decide +kernel
theorem dX10_relinks_19 : decode cX10_relinks 19 = .ok (.aload_n 0, 1) := by decide +kernel
theorem dX10_relinks_20 : decode cX10_relinks 20 = .ok (.getfield 9, 3) := by decide +kernel
theorem dX10_relinks_23 : decode cX10_relinks 23 = .ok (.iload 4, 2) := by decide +kernel
theorem dX10_relinks_25 : decode cX10_relinks 25 = .ok (.iaload, 1) := by decide +kernel
theorem dX10_relinks_26 : decode cX10_relinks 26 = .ok (.iconst 2, 1) := by decide +kernel
theorem dX10_relinks_27 : decode cX10_relinks 27 = .ok (.iload_n 1, 1) := by decide +kernel
theorem dX10_relinks_28 : decode cX10_relinks 28 = .ok (.iload_n 2, 1) := by decide +kernel
theorem dX10_relinks_29 : decode cX10_relinks 29 = .ok (.invokevirtual 86, 3) := by decide +kernel
theorem dX10_relinks_32 : decode cX10_relinks 32 = .ok (.aload_n 0, 1) := by decide +kernel
theorem dX10_relinks_33 : decode cX10_relinks 33 = .ok (.getfield 9, 3) := by decide +kernel
theorem dX10_relinks_36 : decode cX10_relinks 36 = .ok (.iload 4, 2) := by decide +kernel
theorem dX10_relinks_38 : decode cX10_relinks 38 = .ok (.iload_n 3, 1) := by decide +kernel
theorem dX10_relinks_39 : decode cX10_relinks 39 = .ok (.iastore, 1) := by decide +kernel
theorem dX10_relinks_40 : decode cX10_relinks 40 = .ok (.aload_n 0, 1) := by decide +kernel
theorem dX10_relinks_41 : decode cX10_relinks 41 = .ok (.getfield 9, 3) := by decide +kernel
theorem dX10_relinks_44 : decode cX10_relinks 44 = .ok (.iconst 3, 1) := by decide +kernel
theorem dX10_relinks_45 : decode cX10_relinks 45 = .ok (.iaload, 1) := by decide +kernel
theorem dX10_relinks_46 : decode cX10_relinks 46 = .ok (.iconst 1, 1) := by decide +kernel
theorem dX10_relinks_47 : decode cX10_relinks 47 = .ok (.if_icmp .ne 11, 3) := by decide +kernel
theorem dX10_relinks_50 : decode cX10_relinks 50 = .ok (.aload_n 0, 1) := by decide +kernel
theorem dX10_relinks_51 : decode cX10_relinks 51 = .ok (.iload_n 3, 1) := by decide +kernel
theorem dX10_relinks_52 : decode cX10_relinks 52 = .ok (.iconst 3, 1) := by decide +kernel
theorem dX10_relinks_53 : decode cX10_relinks 53 = .ok (.iload_n 1, 1) := by decide +kernel
theorem dX10_relinks_54 : decode cX10_relinks 54 = .ok (.iload_n 2, 1) := by decide +kernel
theorem dX10_relinks_55 : decode cX10_relinks 55 = .ok (.invokevirtual 86, 3) := by decide +kernel
theorem dX10_relinks_58 : decode cX10_relinks 58 = .ok (.return_, 1) := by decide +kernel
theorem dX10_linked_0 : decode cX10_linked 0 = .ok (.aload_n 0, 1) := by decide +kernel
theorem dX10_linked_1 : decode cX10_linked 1 = .ok (.iload_n 1, 1) := by decide +kernel
theorem dX10_linked_2 : decode cX10_linked 2 = .ok (.invokevirtual 158, 3) := by decide +kernel
theorem dX10_linked_5 : decode cX10_linked 5 = .ok (.ifCond .eq 8, 3) := by decide +kernel
theorem dX10_linked_8 : decode cX10_linked 8 = .ok (.iconst 1, 1) := by decide +kernel
theorem dX10_linked_9 : decode cX10_linked 9 = .ok (.invokestatic 141, 3) := by decide +kernel
theorem dX10_linked_12 : decode cX10_linked 12 = .ok (.ireturn, 1) := by decide +kernel
theorem dX10_linked_13 : decode cX10_linked 13 = .ok (.aload_n 0, 1) := by decide +kernel
theorem dX10_linked_14 : decode cX10_linked 14 = .ok (.iload_n 1, 1) := by decide +kernel
theorem dX10_linked_15 : decode cX10_linked 15 = .ok (.iconst 1, 1) := by decide +kernel
theorem dX10_linked_16 : decode cX10_linked 16 = .ok (.invokevirtual 71, 3) := by decide +kernel
theorem dX10_linked_19 : decode cX10_linked 19 = .ok (.iconst 2, 1) := by decide +kernel
theorem dX10_linked_20 : decode cX10_linked 20 = .ok (.if_icmp .ne 8, 3) := by decide +kernel
theorem dX10_linked_23 : decode cX10_linked 23 = .ok (.iconst 3, 1) := by decide +kernel
theorem dX10_linked_24 : decode cX10_linked 24 = .ok (.invokestatic 141, 3) := by decide +kernel
theorem dX10_linked_27 : decode cX10_linked 27 = .ok (.ireturn, 1) := by decide +kernel
theorem dX10_linked_28 : decode cX10_linked 28 = .ok (.iload_n 3, 1) := by decide +kernel
theorem dX10_linked_29 : decode cX10_linked 29 = .ok (.iconst (-1), 1) := by decide +kernel
theorem dX10_linked_30 : decode cX10_linked 30 = .ok (.if_icmp .eq 16, 3) := by decide +kernel
theorem dX10_linked_33 : decode cX10_linked 33 = .ok (.aload_n 0, 1) := by decide +kernel
theorem dX10_linked_34 : decode cX10_linked 34 = .ok (.iload_n 3, 1) := by decide +kernel
theorem dX10_linked_35 : decode cX10_linked 35 = .ok (.invokevirtual 158, 3) := by decide +kernel
theorem dX10_linked_38 : decode cX10_linked 38 = .ok (.ifCond .eq 8, 3) := by decide +kernel
theorem dX10_linked_41 : decode cX10_linked 41 = .ok (.iconst 1, 1) := by decide +kernel
theorem dX10_linked_42 : decode cX10_linked 42 = .ok (.invokestatic 141, 3) := by decide +kernel
theorem dX10_linked_45 : decode cX10_linked 45 = .ok (.ireturn, 1) := by decide +kernel
theorem dX10_linked_46 : decode cX10_linked 46 = .ok (.iload_n 2, 1) := by decide +kernel
theorem dX10_linked_47 : decode cX10_linked 47 = .ok (.i2l, 1) := by decide +kernel
theorem dX10_linked_48 : decode cX10_linked 48 = .ok (.lconst 0, 1) := by decide +kernel
theorem dX10_linked_49 : decode cX10_linked 49 = .ok (.aload_n 0, 1) := by decide +kernel
theorem dX10_linked_50 : decode cX10_linked 50 = .ok (.iload_n 1, 1) := by decide +kernel
theorem dX10_linked_51 : decode cX10_linked 51 = .ok (.invokevirtual 90, 3) := by decide +kernel
theorem dX10_linked_54 : decode cX10_linked 54 = .ok (.iconst 1, 1) := by decide +kernel
theorem dX10_linked_55 : decode cX10_linked 55 = .ok (.isub, 1) := by decide +kernel
theorem dX10_linked_56 : decode cX10_linked 56 = .ok (.i2l, 1) := by decide +kernel
theorem dX10_linked_57 : decode cX10_linked 57 = .ok (.invokestatic 63, 3) := by decide +kernel
theorem dX10_linked_60 : decode cX10_linked 60 = .ok (.ifCond .ne 8, 3) := by decide +kernel
theorem dX10_linked_63 : decode cX10_linked 63 = .ok (.iconst 2, 1) := by decide +kernel
theorem dX10_linked_64 : decode cX10_linked 64 = .ok (.invokestatic 141, 3) := by decide +kernel
theorem dX10_linked_67 : decode cX10_linked 67 = .ok (.ireturn, 1) := by decide +kernel
theorem dX10_linked_68 : decode cX10_linked 68 = .ok (.aload_n 0, 1) := by decide +kernel
theorem dX10_linked_69 : decode cX10_linked 69 = .ok (.iload_n 1, 1) := by decide +kernel
theorem dX10_linked_70 : decode cX10_linked 70 = .ok (.iload_n 2, 1) := by decide +kernel
theorem dX10_linked_71 : decode cX10_linked 71 = .ok (.iload_n 3, 1) := by decide +kernel
theorem dX10_linked_72 : decode cX10_linked 72 = .ok (.invokevirtual 161, 3) := by decide +kernel
theorem dX10_linked_75 : decode cX10_linked 75 = .ok (.iconst 1, 1) := by decide +kernel
theorem dX10_linked_76 : decode cX10_linked 76 = .ok (.ireturn, 1) := by decide +kernel
theorem dX10_link_0 : decode cX10_link 0 = .ok (.aload_n 0, 1) := by decide +kernel
theorem dX10_link_1 : decode cX10_link 1 = .ok (.iload_n 1, 1) := by decide +kernel
theorem dX10_link_2 : decode cX10_link 2 = .ok (.invokevirtual 67, 3) := by decide +kernel
theorem dX10_link_5 : decode cX10_link 5 = .ok (.ifCond .eq 11, 3) := by decide +kernel
theorem dX10_link_8 : decode cX10_link 8 = .ok (.aload_n 0, 1) := by decide +kernel
theorem dX10_link_9 : decode cX10_link 9 = .ok (.iload_n 3, 1) := by decide +kernel
theorem dX10_link_10 : decode cX10_link 10 = .ok (.invokevirtual 164, 3) := by decide +kernel
theorem dX10_link_13 : decode cX10_link 13 = .ok (.ifCond .ne 8, 3) := by decide +kernel
theorem dX10_link_16 : decode cX10_link 16 = .ok (.bipush (-101), 2) := by decide +kernel
theorem dX10_link_18 : decode cX10_link 18 = .ok (.goto 14, 3) := by decide +kernel
theorem dX10_link_21 : decode cX10_link 21 = .ok (.aload_n 0, 1) := by decide +kernel
theorem dX10_link_22 : decode cX10_link 22 = .ok (.aload_n 0, 1) := by decide +kernel
theorem dX10_link_23 : decode cX10_link 23 = .ok (.iload_n 1, 1) := by decide +kernel
theorem dX10_link_24 : decode cX10_link 24 = .ok (.iload_n 2, 1) := by decide +kernel
theorem dX10_link_25 : decode cX10_link 25 = .ok (.iload_n 3, 1) := by decide +kernel
theorem dX10_link_26 : decode cX10_link 26 = .ok (.invokevirtual 167, 3) := by decide +kernel
theorem dX10_link_29 : decode cX10_link 29 = .ok (.invokevirtual 155, 3) := by decide +kernel
theorem dX10_link_32 : decode cX10_link 32 = .ok (.ireturn, 1) := by decide +kernel
theorem dX10_gets_0 : decode cX10_gets 0 = .ok (.aload_n 0, 1) := by decide +kernel
theorem dX10_gets_1 : decode cX10_gets 1 = .ok (.iload_n 1, 1) := by decide +kernel
theorem dX10_gets_2 : decode cX10_gets 2 = .ok (.invokevirtual 158, 3) := by decide +kernel
theorem dX10_gets_5 : decode cX10_gets 5 = .ok (.ifCond .eq 5, 3) := by decide +kernel
theorem dX10_gets_8 : decode cX10_gets 8 = .ok (.iconst 1, 1) := by decide +kernel
theorem dX10_gets_9 : decode cX10_gets 9 = .ok (.ireturn, 1) := by decide +kernel
theorem dX10_gets_10 : decode cX10_gets 10 = .ok (.aload_n 0, 1) := by decide +kernel
theorem dX10_gets_11 : decode cX10_gets 11 = .ok (.iload_n 1, 1) := by decide +kernel
theorem dX10_gets_12 : decode cX10_gets 12 = .ok (.iconst 1, 1) := by decide +kernel
theorem dX10_gets_13 : decode cX10_gets 13 = .ok (.invokevirtual 71, 3) := by decide +kernel
theorem dX10_gets_16 : decode cX10_gets 16 = .ok (.iconst 2, 1) := by decide +kernel
theorem dX10_gets_17 : decode cX10_gets 17 = .ok (.if_icmp .ne 5, 3) := by decide +kernel
theorem dX10_gets_20 : decode cX10_gets 20 = .ok (.iconst 3, 1) := by decide +kernel
theorem dX10_gets_21 : decode cX10_gets 21 = .ok (.ireturn, 1) := by decide +kernel
theorem dX10_gets_22 : decode cX10_gets 22 = .ok (.iload_n 2, 1) := by decide +kernel
theorem dX10_gets_23 : decode cX10_gets 23 = .ok (.i2l, 1) := by decide +kernel
theorem dX10_gets_24 : decode cX10_gets 24 = .ok (.lconst 0, 1) := by decide +kernel
theorem dX10_gets_25 : decode cX10_gets 25 = .ok (.aload_n 0, 1) := by decide +kernel
theorem dX10_gets_26 : decode cX10_gets 26 = .ok (.iload_n 1, 1) := by decide +kernel
theorem dX10_gets_27 : decode cX10_gets 27 = .ok (.invokevirtual 90, 3) := by decide +kernel
theorem dX10_gets_30 : decode cX10_gets 30 = .ok (.iconst 1, 1) := by decide +kernel
theorem dX10_gets_31 : decode cX10_gets 31 = .ok (.isub, 1) := by decide +kernel
theorem dX10_gets_32 : decode cX10_gets 32 = .ok (.i2l, 1) := by decide +kernel
theorem dX10_gets_33 : decode cX10_gets 33 = .ok (.invokestatic 63, 3) := by decide +kernel
theorem dX10_gets_36 : decode cX10_gets 36 = .ok (.ifCond .ne 5, 3) := by decide +kernel
theorem dX10_gets_39 : decode cX10_gets 39 = .ok (.iconst 2, 1) := by decide +kernel
theorem dX10_gets_40 : decode cX10_gets 40 = .ok (.ireturn, 1) := by decide +kernel
theorem dX10_gets_41 : decode cX10_gets 41 = .ok (.aload_n 0, 1) := by decide +kernel
theorem dX10_gets_42 : decode cX10_gets 42 = .ok (.aload_n 0, 1) := by decide +kernel
theorem dX10_gets_43 : decode cX10_gets 43 = .ok (.getfield 9, 3) := by decide +kernel
theorem dX10_gets_46 : decode cX10_gets 46 = .ok (.aload_n 0, 1) := by decide +kernel
theorem dX10_gets_47 : decode cX10_gets 47 = .ok (.iload_n 1, 1) := by decide +kernel
theorem dX10_gets_48 : decode cX10_gets 48 = .ok (.iload_n 2, 1) := by decide +kernel
theorem dX10_gets_49 : decode cX10_gets 49 = .ok (.invokevirtual 98, 3) := by decide +kernel
theorem dX10_gets_52 : decode cX10_gets 52 = .ok (.iaload, 1) := by decide +kernel
theorem dX10_gets_53 : decode cX10_gets 53 = .ok (.putfield 171, 3) := by decide +kernel
theorem dX10_gets_56 : decode cX10_gets 56 = .ok (.iconst 0, 1) := by decide +kernel
theorem dX10_gets_57 : decode cX10_gets 57 = .ok (.ireturn, 1) := by decide +kernel
theorem dX10_by_0 : decode cX10_by 0 = .ok (.aload_n 0, 1) := by decide +kernel
theorem dX10_by_1 : decode cX10_by 1 = .ok (.iload_n 1, 1) := by decide +kernel
theorem dX10_by_2 : decode cX10_by 2 = .ok (.putfield 49, 3) := by decide +kernel
theorem dX10_by_5 : decode cX10_by 5 = .ok (.iload_n 1, 1) := by decide +kernel
theorem dX10_by_6 : decode cX10_by 6 = .ok (.ifCond .le 10, 3) := by decide +kernel
theorem dX10_by_9 : decode cX10_by 9 = .ok (.iload_n 1, 1) := by decide +kernel
theorem dX10_by_10 : decode cX10_by 10 = .ok (.invokestatic 141, 3) := by decide +kernel
theorem dX10_by_13 : decode cX10_by 13 = .ok (.goto 7, 3) := by decide +kernel
theorem dX10_by_16 : decode cX10_by 16 = .ok (.aload_n 0, 1) := by decide +kernel
theorem dX10_by_17 : decode cX10_by 17 = .ok (.getfield 171, 3) := by decide +kernel
theorem dX10_by_20 : decode cX10_by 20 = .ok (.ireturn, 1) := by decide +kernel
theorem dX10_get_0 : decode cX10_get 0 = .ok (.aload_n 0, 1) := by decide +kernel
theorem dX10_get_1 : decode cX10_get 1 = .ok (.iload_n 1, 1) := by decide +kernel
theorem dX10_get_2 : decode cX10_get 2 = .ok (.invokevirtual 67, 3) := by decide +kernel
theorem dX10_get_5 : decode cX10_get 5 = .ok (.ifCond .ne 8, 3) := by decide +kernel
theorem dX10_get_8 : decode cX10_get 8 = .ok (.bipush (-101), 2) := by decide +kernel
theorem dX10_get_10 : decode cX10_get 10 = .ok (.goto 13, 3) := by decide +kernel
theorem dX10_get_13 : decode cX10_get 13 = .ok (.aload_n 0, 1) := by decide +kernel
theorem dX10_get_14 : decode cX10_get 14 = .ok (.aload_n 0, 1) := by decide +kernel
theorem dX10_get_15 : decode cX10_get 15 = .ok (.iload_n 1, 1) := by decide +kernel
theorem dX10_get_16 : decode cX10_get 16 = .ok (.iload_n 2, 1) := by decide +kernel
theorem dX10_get_17 : decode cX10_get 17 = .ok (.invokevirtual 174, 3) := by decide +kernel
theorem dX10_get_20 : decode cX10_get 20 = .ok (.invokevirtual 177, 3) := by decide +kernel
theorem dX10_get_23 : decode cX10_get 23 = .ok (.ireturn, 1) := by decide +kernel
theorem dX10_isWeak_0 : decode cX10_isWeak 0 = .ok (.aload_n 0, 1) := by decide +kernel
theorem dX10_isWeak_1 : decode cX10_isWeak 1 = .ok (.iload_n 1, 1) := by decide +kernel
theorem dX10_isWeak_2 : decode cX10_isWeak 2 = .ok (.iconst 1, 1) := by decide +kernel
theorem dX10_isWeak_3 : decode cX10_isWeak 3 = .ok (.invokevirtual 71, 3) := by decide +kernel
theorem dX10_isWeak_6 : decode cX10_isWeak 6 = .ok (.iconst 3, 1) := by decide +kernel
theorem dX10_isWeak_7 : decode cX10_isWeak 7 = .ok (.if_icmp .eq 13, 3) := by decide +kernel
theorem dX10_isWeak_10 : decode cX10_isWeak 10 = .ok (.aload_n 0, 1) := by decide +kernel
theorem dX10_isWeak_11 : decode cX10_isWeak 11 = .ok (.iload_n 1, 1) := by decide +kernel
theorem dX10_isWeak_12 : decode cX10_isWeak 12 = .ok (.iconst 1, 1) := by decide +kernel
theorem dX10_isWeak_13 : decode cX10_isWeak 13 = .ok (.invokevirtual 71, 3) := by decide +kernel
theorem dX10_isWeak_16 : decode cX10_isWeak 16 = .ok (.iconst 4, 1) := by decide +kernel
theorem dX10_isWeak_17 : decode cX10_isWeak 17 = .ok (.if_icmp .ne 7, 3) := by decide +kernel
theorem dX10_isWeak_20 : decode cX10_isWeak 20 = .ok (.iconst 1, 1) := by decide +kernel
theorem dX10_isWeak_21 : decode cX10_isWeak 21 = .ok (.goto 4, 3) := by decide +kernel
theorem dX10_isWeak_24 : decode cX10_isWeak 24 = .ok (.iconst 0, 1) := by decide +kernel
theorem dX10_isWeak_25 : decode cX10_isWeak 25 = .ok (.ireturn, 1) := by decide +kernel
theorem dX10_weakens_0 : decode cX10_weakens 0 = .ok (.aload_n 0, 1) := by decide +kernel
theorem dX10_weakens_1 : decode cX10_weakens 1 = .ok (.iload_n 1, 1) := by decide +kernel
theorem dX10_weakens_2 : decode cX10_weakens 2 = .ok (.invokevirtual 158, 3) := by decide +kernel
theorem dX10_weakens_5 : decode cX10_weakens 5 = .ok (.ifCond .eq 8, 3) := by decide +kernel
theorem dX10_weakens_8 : decode cX10_weakens 8 = .ok (.iconst 1, 1) := by decide +kernel
theorem dX10_weakens_9 : decode cX10_weakens 9 = .ok (.invokestatic 141, 3) := by decide +kernel
theorem dX10_weakens_12 : decode cX10_weakens 12 = .ok (.ireturn, 1) := by decide +kernel
theorem dX10_weakens_13 : decode cX10_weakens 13 = .ok (.aload_n 0, 1) := by decide +kernel
theorem dX10_weakens_14 : decode cX10_weakens 14 = .ok (.iload_n 1, 1) := by decide +kernel
theorem dX10_weakens_15 : decode cX10_weakens 15 = .ok (.invokevirtual 180, 3) := by decide +kernel
theorem dX10_weakens_18 : decode cX10_weakens 18 = .ok (.ifCond .ne 8, 3) := by decide +kernel
theorem dX10_weakens_21 : decode cX10_weakens 21 = .ok (.iconst 3, 1) := by decide +kernel
theorem dX10_weakens_22 : decode cX10_weakens 22 = .ok (.invokestatic 141, 3) := by decide +kernel
theorem dX10_weakens_25 : decode cX10_weakens 25 = .ok (.ireturn, 1) := by decide +kernel
theorem dX10_weakens_26 : decode cX10_weakens 26 = .ok (.iload_n 2, 1) := by decide +kernel
theorem dX10_weakens_27 : decode cX10_weakens 27 = .ok (.iconst (-1), 1) := by decide +kernel
theorem dX10_weakens_28 : decode cX10_weakens 28 = .ok (.if_icmp .eq 16, 3) := by decide +kernel
theorem dX10_weakens_31 : decode cX10_weakens 31 = .ok (.aload_n 0, 1) := by decide +kernel
theorem dX10_weakens_32 : decode cX10_weakens 32 = .ok (.iload_n 2, 1) := by decide +kernel
theorem dX10_weakens_33 : decode cX10_weakens 33 = .ok (.invokevirtual 158, 3) := by decide +kernel
theorem dX10_weakens_36 : decode cX10_weakens 36 = .ok (.ifCond .eq 8, 3) := by decide +kernel
theorem dX10_weakens_39 : decode cX10_weakens 39 = .ok (.iconst 1, 1) := by decide +kernel
theorem dX10_weakens_40 : decode cX10_weakens 40 = .ok (.invokestatic 141, 3) := by decide +kernel
theorem dX10_weakens_43 : decode cX10_weakens 43 = .ok (.ireturn, 1) := by decide +kernel
theorem dX10_weakens_44 : decode cX10_weakens 44 = .ok (.aload_n 0, 1) := by decide +kernel
theorem dX10_weakens_45 : decode cX10_weakens 45 = .ok (.getfield 9, 3) := by decide +kernel
theorem dX10_weakens_48 : decode cX10_weakens 48 = .ok (.aload_n 0, 1) := by decide +kernel
theorem dX10_weakens_49 : decode cX10_weakens 49 = .ok (.iload_n 1, 1) := by decide +kernel
theorem dX10_weakens_50 : decode cX10_weakens 50 = .ok (.invokevirtual 120, 3) := by decide +kernel
theorem dX10_weakens_53 : decode cX10_weakens 53 = .ok (.iload_n 2, 1) := by decide +kernel
theorem dX10_weakens_54 : decode cX10_weakens 54 = .ok (.iastore, 1) := by decide +kernel
theorem dX10_weakens_55 : decode cX10_weakens 55 = .ok (.iconst 1, 1) := by decide +kernel
theorem dX10_weakens_56 : decode cX10_weakens 56 = .ok (.ireturn, 1) := by decide +kernel
theorem dX10_weaken_0 : decode cX10_weaken 0 = .ok (.aload_n 0, 1) := by decide +kernel
theorem dX10_weaken_1 : decode cX10_weaken 1 = .ok (.iload_n 1, 1) := by decide +kernel
theorem dX10_weaken_2 : decode cX10_weaken 2 = .ok (.invokevirtual 67, 3) := by decide +kernel
theorem dX10_weaken_5 : decode cX10_weaken 5 = .ok (.ifCond .eq 11, 3) := by decide +kernel
theorem dX10_weaken_8 : decode cX10_weaken 8 = .ok (.aload_n 0, 1) := by decide +kernel
theorem dX10_weaken_9 : decode cX10_weaken 9 = .ok (.iload_n 2, 1) := by decide +kernel
theorem dX10_weaken_10 : decode cX10_weaken 10 = .ok (.invokevirtual 164, 3) := by decide +kernel
theorem dX10_weaken_13 : decode cX10_weaken 13 = .ok (.ifCond .ne 8, 3) := by decide +kernel
theorem dX10_weaken_16 : decode cX10_weaken 16 = .ok (.bipush (-101), 2) := by decide +kernel
theorem dX10_weaken_18 : decode cX10_weaken 18 = .ok (.goto 13, 3) := by decide +kernel
theorem dX10_weaken_21 : decode cX10_weaken 21 = .ok (.aload_n 0, 1) := by decide +kernel
theorem dX10_weaken_22 : decode cX10_weaken 22 = .ok (.aload_n 0, 1) := by decide +kernel
theorem dX10_weaken_23 : decode cX10_weaken 23 = .ok (.iload_n 1, 1) := by decide +kernel
theorem dX10_weaken_24 : decode cX10_weaken 24 = .ok (.iload_n 2, 1) := by decide +kernel
theorem dX10_weaken_25 : decode cX10_weaken 25 = .ok (.invokevirtual 183, 3) := by decide +kernel
theorem dX10_weaken_28 : decode cX10_weaken 28 = .ok (.invokevirtual 155, 3) := by decide +kernel
theorem dX10_weaken_31 : decode cX10_weaken 31 = .ok (.ireturn, 1) := by decide +kernel
theorem dX10_looks_0 : decode cX10_looks 0 = .ok (.aload_n 0, 1) := by decide +kernel
theorem dX10_looks_1 : decode cX10_looks 1 = .ok (.iload_n 1, 1) := by decide +kernel
theorem dX10_looks_2 : decode cX10_looks 2 = .ok (.invokevirtual 158, 3) := by decide +kernel
theorem dX10_looks_5 : decode cX10_looks 5 = .ok (.ifCond .eq 5, 3) := by decide +kernel
theorem dX10_looks_8 : decode cX10_looks 8 = .ok (.iconst 1, 1) := by decide +kernel
theorem dX10_looks_9 : decode cX10_looks 9 = .ok (.ireturn, 1) := by decide +kernel
theorem dX10_looks_10 : decode cX10_looks 10 = .ok (.aload_n 0, 1) := by decide +kernel
theorem dX10_looks_11 : decode cX10_looks 11 = .ok (.iload_n 1, 1) := by decide +kernel
theorem dX10_looks_12 : decode cX10_looks 12 = .ok (.invokevirtual 180, 3) := by decide +kernel
theorem dX10_looks_15 : decode cX10_looks 15 = .ok (.ifCond .ne 5, 3) := by decide +kernel
theorem dX10_looks_18 : decode cX10_looks 18 = .ok (.iconst 3, 1) := by decide +kernel
theorem dX10_looks_19 : decode cX10_looks 19 = .ok (.ireturn, 1) := by decide +kernel
theorem dX10_looks_20 : decode cX10_looks 20 = .ok (.aload_n 0, 1) := by decide +kernel
theorem dX10_looks_21 : decode cX10_looks 21 = .ok (.aload_n 0, 1) := by decide +kernel
theorem dX10_looks_22 : decode cX10_looks 22 = .ok (.getfield 9, 3) := by decide +kernel
theorem dX10_looks_25 : decode cX10_looks 25 = .ok (.aload_n 0, 1) := by decide +kernel
theorem dX10_looks_26 : decode cX10_looks 26 = .ok (.iload_n 1, 1) := by decide +kernel
theorem dX10_looks_27 : decode cX10_looks 27 = .ok (.invokevirtual 120, 3) := by decide +kernel
theorem dX10_looks_30 : decode cX10_looks 30 = .ok (.iaload, 1) := by decide +kernel
theorem dX10_looks_31 : decode cX10_looks 31 = .ok (.putfield 171, 3) := by decide +kernel
theorem dX10_looks_34 : decode cX10_looks 34 = .ok (.aload_n 0, 1) := by decide +kernel
theorem dX10_looks_35 : decode cX10_looks 35 = .ok (.getfield 9, 3) := by decide +kernel
theorem dX10_looks_38 : decode cX10_looks 38 = .ok (.iconst 3, 1) := by decide +kernel
theorem dX10_looks_39 : decode cX10_looks 39 = .ok (.iaload, 1) := by decide +kernel
theorem dX10_looks_40 : decode cX10_looks 40 = .ok (.iconst 1, 1) := by decide +kernel
theorem dX10_looks_41 : decode cX10_looks 41 = .ok (.if_icmp .ne 14, 3) := by decide +kernel
theorem dX10_looks_44 : decode cX10_looks 44 = .ok (.aload_n 0, 1) := by decide +kernel
theorem dX10_looks_45 : decode cX10_looks 45 = .ok (.aload_n 0, 1) := by decide +kernel
theorem dX10_looks_46 : decode cX10_looks 46 = .ok (.getfield 171, 3) := by decide +kernel
theorem dX10_looks_49 : decode cX10_looks 49 = .ok (.iconst 4, 1) := by decide +kernel
theorem dX10_looks_50 : decode cX10_looks 50 = .ok (.iload_n 1, 1) := by decide +kernel
theorem dX10_looks_51 : decode cX10_looks 51 = .ok (.iconst 0, 1) := by decide +kernel
theorem dX10_looks_52 : decode cX10_looks 52 = .ok (.invokevirtual 86, 3) := by decide +kernel
theorem dX10_looks_55 : decode cX10_looks 55 = .ok (.iconst 0, 1) := by decide +kernel
theorem dX10_looks_56 : decode cX10_looks 56 = .ok (.ireturn, 1) := by decide +kernel
theorem dX10_look_0 : decode cX10_look 0 = .ok (.aload_n 0, 1) := by decide +kernel
theorem dX10_look_1 : decode cX10_look 1 = .ok (.iload_n 1, 1) := by decide +kernel
theorem dX10_look_2 : decode cX10_look 2 = .ok (.invokevirtual 67, 3) := by decide +kernel
theorem dX10_look_5 : decode cX10_look 5 = .ok (.ifCond .ne 8, 3) := by decide +kernel
theorem dX10_look_8 : decode cX10_look 8 = .ok (.bipush (-101), 2) := by decide +kernel
theorem dX10_look_10 : decode cX10_look 10 = .ok (.goto 12, 3) := by decide +kernel
theorem dX10_look_13 : decode cX10_look 13 = .ok (.aload_n 0, 1) := by decide +kernel
theorem dX10_look_14 : decode cX10_look 14 = .ok (.aload_n 0, 1) := by decide +kernel
theorem dX10_look_15 : decode cX10_look 15 = .ok (.iload_n 1, 1) := by decide +kernel
theorem dX10_look_16 : decode cX10_look 16 = .ok (.invokevirtual 186, 3) := by decide +kernel
theorem dX10_look_19 : decode cX10_look 19 = .ok (.invokevirtual 177, 3) := by decide +kernel
theorem dX10_look_22 : decode cX10_look 22 = .ok (.ireturn, 1) := by decide +kernel
theorem dX10_number_0 : decode cX10_number 0 = .ok (.aload_n 0, 1) := by decide +kernel
theorem dX10_number_1 : decode cX10_number 1 = .ok (.iload_n 1, 1) := by decide +kernel
theorem dX10_number_2 : decode cX10_number 2 = .ok (.invokevirtual 67, 3) := by decide +kernel
theorem dX10_number_5 : decode cX10_number 5 = .ok (.ifCond .ne 6, 3) := by decide +kernel
theorem dX10_number_8 : decode cX10_number 8 = .ok (.bipush (-101), 2) := by decide +kernel
theorem dX10_number_10 : decode cX10_number 10 = .ok (.ireturn, 1) := by decide +kernel
theorem dX10_number_11 : decode cX10_number 11 = .ok (.aload_n 0, 1) := by decide +kernel
theorem dX10_number_12 : decode cX10_number 12 = .ok (.iload_n 1, 1) := by decide +kernel
theorem dX10_number_13 : decode cX10_number 13 = .ok (.invokevirtual 158, 3) := by decide +kernel
theorem dX10_number_16 : decode cX10_number 16 = .ok (.ifCond .eq 7, 3) := by decide +kernel
theorem dX10_number_19 : decode cX10_number 19 = .ok (.iconst 1, 1) := by decide +kernel
theorem dX10_number_20 : decode cX10_number 20 = .ok (.goto 18, 3) := by decide +kernel
theorem dX10_number_23 : decode cX10_number 23 = .ok (.aload_n 0, 1) := by decide +kernel
theorem dX10_number_24 : decode cX10_number 24 = .ok (.iload_n 1, 1) := by decide +kernel
theorem dX10_number_25 : decode cX10_number 25 = .ok (.iconst 1, 1) := by decide +kernel
theorem dX10_number_26 : decode cX10_number 26 = .ok (.invokevirtual 71, 3) := by decide +kernel
theorem dX10_number_29 : decode cX10_number 29 = .ok (.iconst 4, 1) := by decide +kernel
theorem dX10_number_30 : decode cX10_number 30 = .ok (.if_icmp .eq 7, 3) := by decide +kernel
theorem dX10_number_33 : decode cX10_number 33 = .ok (.iconst 3, 1) := by decide +kernel
theorem dX10_number_34 : decode cX10_number 34 = .ok (.goto 4, 3) := by decide +kernel
theorem dX10_number_37 : decode cX10_number 37 = .ok (.iconst 0, 1) := by decide +kernel
theorem dX10_number_38 : decode cX10_number 38 = .ok (.istore_n 3, 1) := by decide +kernel
theorem dX10_number_39 : decode cX10_number 39 = .ok (.iload_n 3, 1) := by decide +kernel
theorem dX10_number_40 : decode cX10_number 40 = .ok (.ifCond .ne 32, 3) := by decide +kernel
theorem dX10_number_43 : decode cX10_number 43 = .ok (.aload_n 0, 1) := by decide +kernel
theorem dX10_number_44 : decode cX10_number 44 = .ok (.aload_n 0, 1) := by decide +kernel
theorem dX10_number_45 : decode cX10_number 45 = .ok (.getfield 9, 3) := by decide +kernel
theorem dX10_number_48 : decode cX10_number 48 = .ok (.aload_n 0, 1) := by decide +kernel
theorem dX10_number_49 : decode cX10_number 49 = .ok (.iload_n 1, 1) := by decide +kernel
theorem dX10_number_50 : decode cX10_number 50 = .ok (.invokevirtual 120, 3) := by decide +kernel
theorem dX10_number_53 : decode cX10_number 53 = .ok (.iconst 1, 1) := by decide +kernel
theorem dX10_number_54 : decode cX10_number 54 = .ok (.iadd, 1) := by decide +kernel
theorem dX10_number_55 : decode cX10_number 55 = .ok (.iaload, 1) := by decide +kernel
theorem dX10_number_56 : decode cX10_number 56 = .ok (.putfield 171, 3) := by decide +kernel
theorem dX10_number_59 : decode cX10_number 59 = .ok (.aload_n 0, 1) := by decide +kernel
theorem dX10_number_60 : decode cX10_number 60 = .ok (.getfield 9, 3) := by decide +kernel
theorem dX10_number_63 : decode cX10_number 63 = .ok (.aload_n 0, 1) := by decide +kernel
theorem dX10_number_64 : decode cX10_number 64 = .ok (.iload_n 1, 1) := by decide +kernel
theorem dX10_number_65 : decode cX10_number 65 = .ok (.invokevirtual 120, 3) := by decide +kernel
theorem dX10_number_68 : decode cX10_number 68 = .ok (.iconst 1, 1) := by decide +kernel
theorem dX10_number_69 : decode cX10_number 69 = .ok (.iadd, 1) := by decide +kernel
theorem dX10_number_70 : decode cX10_number 70 = .ok (.iload_n 2, 1) := by decide +kernel
theorem dX10_number_71 : decode cX10_number 71 = .ok (.iastore, 1) := by decide +kernel
theorem dX10_number_72 : decode cX10_number 72 = .ok (.aload_n 0, 1) := by decide +kernel
theorem dX10_number_73 : decode cX10_number 73 = .ok (.iload_n 3, 1) := by decide +kernel
theorem dX10_number_74 : decode cX10_number 74 = .ok (.invokevirtual 177, 3) := by decide +kernel
theorem dX10_number_77 : decode cX10_number 77 = .ok (.ireturn, 1) := by decide +kernel
theorem dX10_byteFails_0 : decode cX10_byteFails 0 = .ok (.aload_n 0, 1) := by decide +kernel
theorem dX10_byteFails_1 : decode cX10_byteFails 1 = .ok (.iload_n 1, 1) := by decide +kernel
theorem dX10_byteFails_2 : decode cX10_byteFails 2 = .ok (.invokevirtual 158, 3) := by decide +kernel
theorem dX10_byteFails_5 : decode cX10_byteFails 5 = .ok (.ifCond .eq 7, 3) := by decide +kernel
theorem dX10_byteFails_8 : decode cX10_byteFails 8 = .ok (.iconst 1, 1) := by decide +kernel
theorem dX10_byteFails_9 : decode cX10_byteFails 9 = .ok (.goto 40, 3) := by decide +kernel
theorem dX10_byteFails_12 : decode cX10_byteFails 12 = .ok (.aload_n 0, 1) := by decide +kernel
theorem dX10_byteFails_13 : decode cX10_byteFails 13 = .ok (.iload_n 1, 1) := by decide +kernel
theorem dX10_byteFails_14 : decode cX10_byteFails 14 = .ok (.iconst 1, 1) := by decide +kernel
theorem dX10_byteFails_15 : decode cX10_byteFails 15 = .ok (.invokevirtual 71, 3) := by decide +kernel
theorem dX10_byteFails_18 : decode cX10_byteFails 18 = .ok (.iconst 2, 1) := by decide +kernel
theorem dX10_byteFails_19 : decode cX10_byteFails 19 = .ok (.if_icmp .eq 7, 3) := by decide +kernel
theorem dX10_byteFails_22 : decode cX10_byteFails 22 = .ok (.iconst 3, 1) := by decide +kernel
theorem dX10_byteFails_23 : decode cX10_byteFails 23 = .ok (.goto 26, 3) := by decide +kernel
theorem dX10_byteFails_26 : decode cX10_byteFails 26 = .ok (.iload_n 2, 1) := by decide +kernel
theorem dX10_byteFails_27 : decode cX10_byteFails 27 = .ok (.i2l, 1) := by decide +kernel
theorem dX10_byteFails_28 : decode cX10_byteFails 28 = .ok (.lconst 0, 1) := by decide +kernel
theorem dX10_byteFails_29 : decode cX10_byteFails 29 = .ok (.aload_n 0, 1) := by decide +kernel
theorem dX10_byteFails_30 : decode cX10_byteFails 30 = .ok (.iload_n 1, 1) := by decide +kernel
theorem dX10_byteFails_31 : decode cX10_byteFails 31 = .ok (.iconst 3, 1) := by decide +kernel
theorem dX10_byteFails_32 : decode cX10_byteFails 32 = .ok (.invokevirtual 71, 3) := by decide +kernel
theorem dX10_byteFails_35 : decode cX10_byteFails 35 = .ok (.iconst 1, 1) := by decide +kernel
theorem dX10_byteFails_36 : decode cX10_byteFails 36 = .ok (.isub, 1) := by decide +kernel
theorem dX10_byteFails_37 : decode cX10_byteFails 37 = .ok (.i2l, 1) := by decide +kernel
theorem dX10_byteFails_38 : decode cX10_byteFails 38 = .ok (.invokestatic 63, 3) := by decide +kernel
theorem dX10_byteFails_41 : decode cX10_byteFails 41 = .ok (.ifCond .ne 7, 3) := by decide +kernel
theorem dX10_byteFails_44 : decode cX10_byteFails 44 = .ok (.iconst 2, 1) := by decide +kernel
theorem dX10_byteFails_45 : decode cX10_byteFails 45 = .ok (.goto 4, 3) := by decide +kernel
theorem dX10_byteFails_48 : decode cX10_byteFails 48 = .ok (.iconst 0, 1) := by decide +kernel
theorem dX10_byteFails_49 : decode cX10_byteFails 49 = .ok (.ireturn, 1) := by decide +kernel
theorem dX10_puts_0 : decode cX10_puts 0 = .ok (.aload_n 0, 1) := by decide +kernel
theorem dX10_puts_1 : decode cX10_puts 1 = .ok (.iload_n 1, 1) := by decide +kernel
theorem dX10_puts_2 : decode cX10_puts 2 = .ok (.iload_n 2, 1) := by decide +kernel
theorem dX10_puts_3 : decode cX10_puts 3 = .ok (.invokevirtual 189, 3) := by decide +kernel
theorem dX10_puts_6 : decode cX10_puts 6 = .ok (.istore 4, 2) := by decide +kernel
theorem dX10_puts_8 : decode cX10_puts 8 = .ok (.iload 4, 2) := by decide +kernel
theorem dX10_puts_10 : decode cX10_puts 10 = .ok (.ifCond .ne 79, 3) := by decide +kernel
theorem dX10_puts_13 : decode cX10_puts 13 = .ok (.sipush 6100, 3) := by decide +kernel
theorem dX10_puts_16 : decode cX10_puts 16 = .ok (.aload_n 0, 1) := by decide +kernel
theorem dX10_puts_17 : decode cX10_puts 17 = .ok (.iload_n 1, 1) := by decide +kernel
theorem dX10_puts_18 : decode cX10_puts 18 = .ok (.iconst 2, 1) := by decide +kernel
theorem dX10_puts_19 : decode cX10_puts 19 = .ok (.invokevirtual 71, 3) := by decide +kernel
theorem dX10_puts_22 : decode cX10_puts 22 = .ok (.iadd, 1) := by decide +kernel
theorem dX10_puts_23 : decode cX10_puts 23 = .ok (.iconst 2, 1) := by decide +kernel
theorem dX10_puts_24 : decode cX10_puts 24 = .ok (.iadd, 1) := by decide +kernel
theorem dX10_puts_25 : decode cX10_puts 25 = .ok (.iload_n 2, 1) := by decide +kernel
theorem dX10_puts_26 : decode cX10_puts 26 = .ok (.iconst 4, 1) := by decide +kernel
theorem dX10_puts_27 : decode cX10_puts 27 = .ok (.idiv, 1) := by decide +kernel
theorem dX10_puts_28 : decode cX10_puts 28 = .ok (.iadd, 1) := by decide +kernel
theorem dX10_puts_29 : decode cX10_puts 29 = .ok (.istore 5, 2) := by decide +kernel
theorem dX10_puts_31 : decode cX10_puts 31 = .ok (.bipush 8, 2) := by decide +kernel
theorem dX10_puts_33 : decode cX10_puts 33 = .ok (.iload_n 2, 1) := by decide +kernel
theorem dX10_puts_34 : decode cX10_puts 34 = .ok (.iconst 4, 1) := by decide +kernel
theorem dX10_puts_35 : decode cX10_puts 35 = .ok (.irem, 1) := by decide +kernel
theorem dX10_puts_36 : decode cX10_puts 36 = .ok (.imul, 1) := by decide +kernel
theorem dX10_puts_37 : decode cX10_puts 37 = .ok (.istore 6, 2) := by decide +kernel
theorem dX10_puts_39 : decode cX10_puts 39 = .ok (.aload_n 0, 1) := by decide +kernel
theorem dX10_puts_40 : decode cX10_puts 40 = .ok (.aload_n 0, 1) := by decide +kernel
theorem dX10_puts_41 : decode cX10_puts 41 = .ok (.getfield 9, 3) := by decide +kernel
theorem dX10_puts_44 : decode cX10_puts 44 = .ok (.iload 5, 2) := by decide +kernel
theorem dX10_puts_46 : decode cX10_puts 46 = .ok (.iaload, 1) := by decide +kernel
theorem dX10_puts_47 : decode cX10_puts 47 = .ok (.iload 6, 2) := by decide +kernel
theorem dX10_puts_49 : decode cX10_puts 49 = .ok (.ishr, 1) := by decide +kernel
theorem dX10_puts_50 : decode cX10_puts 50 = .ok (.sipush 255, 3) := by decide +kernel
theorem dX10_puts_53 : decode cX10_puts 53 = .ok (.iand, 1) := by decide +kernel
theorem dX10_puts_54 : decode cX10_puts 54 = .ok (.putfield 171, 3) := by decide +kernel
theorem dX10_puts_57 : decode cX10_puts 57 = .ok (.aload_n 0, 1) := by decide +kernel
theorem dX10_puts_58 : decode cX10_puts 58 = .ok (.getfield 9, 3) := by decide +kernel
theorem dX10_puts_61 : decode cX10_puts 61 = .ok (.iload 5, 2) := by decide +kernel
theorem dX10_puts_63 : decode cX10_puts 63 = .ok (.aload_n 0, 1) := by decide +kernel
theorem dX10_puts_64 : decode cX10_puts 64 = .ok (.getfield 9, 3) := by decide +kernel
theorem dX10_puts_67 : decode cX10_puts 67 = .ok (.iload 5, 2) := by decide +kernel
theorem dX10_puts_69 : decode cX10_puts 69 = .ok (.iaload, 1) := by decide +kernel
theorem dX10_puts_70 : decode cX10_puts 70 = .ok (.sipush 255, 3) := by decide +kernel
theorem dX10_puts_73 : decode cX10_puts 73 = .ok (.iload 6, 2) := by decide +kernel
theorem dX10_puts_75 : decode cX10_puts 75 = .ok (.ishl, 1) := by decide +kernel
theorem dX10_puts_76 : decode cX10_puts 76 = .ok (.iconst (-1), 1) := by decide +kernel
theorem dX10_puts_77 : decode cX10_puts 77 = .ok (.ixor, 1) := by decide +kernel
theorem dX10_puts_78 : decode cX10_puts 78 = .ok (.iand, 1) := by decide +kernel
theorem dX10_puts_79 : decode cX10_puts 79 = .ok (.iload_n 3, 1) := by decide +kernel
theorem dX10_puts_80 : decode cX10_puts 80 = .ok (.sipush 255, 3) := by decide +kernel
theorem dX10_puts_83 : decode cX10_puts 83 = .ok (.iand, 1) := by decide +kernel
theorem dX10_puts_84 : decode cX10_puts 84 = .ok (.iload 6, 2) := by decide +kernel
theorem dX10_puts_86 : decode cX10_puts 86 = .ok (.ishl, 1) := by decide +kernel
theorem dX10_puts_87 : decode cX10_puts 87 = .ok (.ior, 1) := by decide +kernel
theorem dX10_puts_88 : decode cX10_puts 88 = .ok (.iastore, 1) := by decide +kernel
theorem dX10_puts_89 : decode cX10_puts 89 = .ok (.iload 4, 2) := by decide +kernel
theorem dX10_puts_91 : decode cX10_puts 91 = .ok (.ireturn, 1) := by decide +kernel
theorem dX10_put_0 : decode cX10_put 0 = .ok (.aload_n 0, 1) := by decide +kernel
theorem dX10_put_1 : decode cX10_put 1 = .ok (.iload_n 1, 1) := by decide +kernel
theorem dX10_put_2 : decode cX10_put 2 = .ok (.invokevirtual 67, 3) := by decide +kernel
theorem dX10_put_5 : decode cX10_put 5 = .ok (.ifCond .ne 8, 3) := by decide +kernel
theorem dX10_put_8 : decode cX10_put 8 = .ok (.bipush (-101), 2) := by decide +kernel
theorem dX10_put_10 : decode cX10_put 10 = .ok (.goto 14, 3) := by decide +kernel
theorem dX10_put_13 : decode cX10_put 13 = .ok (.aload_n 0, 1) := by decide +kernel
theorem dX10_put_14 : decode cX10_put 14 = .ok (.aload_n 0, 1) := by decide +kernel
theorem dX10_put_15 : decode cX10_put 15 = .ok (.iload_n 1, 1) := by decide +kernel
theorem dX10_put_16 : decode cX10_put 16 = .ok (.iload_n 2, 1) := by decide +kernel
theorem dX10_put_17 : decode cX10_put 17 = .ok (.iload_n 3, 1) := by decide +kernel
theorem dX10_put_18 : decode cX10_put 18 = .ok (.invokevirtual 192, 3) := by decide +kernel
theorem dX10_put_21 : decode cX10_put 21 = .ok (.invokevirtual 177, 3) := by decide +kernel
theorem dX10_put_24 : decode cX10_put 24 = .ok (.ireturn, 1) := by decide +kernel
theorem dX10_byteAt_0 : decode cX10_byteAt 0 = .ok (.aload_n 0, 1) := by decide +kernel
theorem dX10_byteAt_1 : decode cX10_byteAt 1 = .ok (.iload_n 1, 1) := by decide +kernel
theorem dX10_byteAt_2 : decode cX10_byteAt 2 = .ok (.invokevirtual 67, 3) := by decide +kernel
theorem dX10_byteAt_5 : decode cX10_byteAt 5 = .ok (.ifCond .ne 6, 3) := by decide +kernel
theorem dX10_byteAt_8 : decode cX10_byteAt 8 = .ok (.bipush (-101), 2) := by decide +kernel
theorem dX10_byteAt_10 : decode cX10_byteAt 10 = .ok (.ireturn, 1) := by decide +kernel
theorem dX10_byteAt_11 : decode cX10_byteAt 11 = .ok (.aload_n 0, 1) := by decide +kernel
theorem dX10_byteAt_12 : decode cX10_byteAt 12 = .ok (.iload_n 1, 1) := by decide +kernel
theorem dX10_byteAt_13 : decode cX10_byteAt 13 = .ok (.iload_n 2, 1) := by decide +kernel
theorem dX10_byteAt_14 : decode cX10_byteAt 14 = .ok (.invokevirtual 189, 3) := by decide +kernel
theorem dX10_byteAt_17 : decode cX10_byteAt 17 = .ok (.istore_n 3, 1) := by decide +kernel
theorem dX10_byteAt_18 : decode cX10_byteAt 18 = .ok (.aload_n 0, 1) := by decide +kernel
theorem dX10_byteAt_19 : decode cX10_byteAt 19 = .ok (.iload_n 3, 1) := by decide +kernel
theorem dX10_byteAt_20 : decode cX10_byteAt 20 = .ok (.ifCond .le 7, 3) := by decide +kernel
theorem dX10_byteAt_23 : decode cX10_byteAt 23 = .ok (.iconst 0, 1) := by decide +kernel
theorem dX10_byteAt_24 : decode cX10_byteAt 24 = .ok (.goto 35, 3) := by decide +kernel
theorem dX10_byteAt_27 : decode cX10_byteAt 27 = .ok (.aload_n 0, 1) := by decide +kernel
theorem dX10_byteAt_28 : decode cX10_byteAt 28 = .ok (.getfield 9, 3) := by decide +kernel
theorem dX10_byteAt_31 : decode cX10_byteAt 31 = .ok (.sipush 6100, 3) := by decide +kernel
theorem dX10_byteAt_34 : decode cX10_byteAt 34 = .ok (.aload_n 0, 1) := by decide +kernel
theorem dX10_byteAt_35 : decode cX10_byteAt 35 = .ok (.iload_n 1, 1) := by decide +kernel
theorem dX10_byteAt_36 : decode cX10_byteAt 36 = .ok (.iconst 2, 1) := by decide +kernel
theorem dX10_byteAt_37 : decode cX10_byteAt 37 = .ok (.invokevirtual 71, 3) := by decide +kernel
theorem dX10_byteAt_40 : decode cX10_byteAt 40 = .ok (.iadd, 1) := by decide +kernel
theorem dX10_byteAt_41 : decode cX10_byteAt 41 = .ok (.iconst 2, 1) := by decide +kernel
theorem dX10_byteAt_42 : decode cX10_byteAt 42 = .ok (.iadd, 1) := by decide +kernel
theorem dX10_byteAt_43 : decode cX10_byteAt 43 = .ok (.iload_n 2, 1) := by decide +kernel
theorem dX10_byteAt_44 : decode cX10_byteAt 44 = .ok (.iconst 4, 1) := by decide +kernel
theorem dX10_byteAt_45 : decode cX10_byteAt 45 = .ok (.idiv, 1) := by decide +kernel
theorem dX10_byteAt_46 : decode cX10_byteAt 46 = .ok (.iadd, 1) := by decide +kernel
theorem dX10_byteAt_47 : decode cX10_byteAt 47 = .ok (.iaload, 1) := by decide +kernel
theorem dX10_byteAt_48 : decode cX10_byteAt 48 = .ok (.bipush 8, 2) := by decide +kernel
theorem dX10_byteAt_50 : decode cX10_byteAt 50 = .ok (.iload_n 2, 1) := by decide +kernel
theorem dX10_byteAt_51 : decode cX10_byteAt 51 = .ok (.iconst 4, 1) := by decide +kernel
theorem dX10_byteAt_52 : decode cX10_byteAt 52 = .ok (.irem, 1) := by decide +kernel
theorem dX10_byteAt_53 : decode cX10_byteAt 53 = .ok (.imul, 1) := by decide +kernel
theorem dX10_byteAt_54 : decode cX10_byteAt 54 = .ok (.ishr, 1) := by decide +kernel
theorem dX10_byteAt_55 : decode cX10_byteAt 55 = .ok (.sipush 255, 3) := by decide +kernel
theorem dX10_byteAt_58 : decode cX10_byteAt 58 = .ok (.iand, 1) := by decide +kernel
theorem dX10_byteAt_59 : decode cX10_byteAt 59 = .ok (.putfield 171, 3) := by decide +kernel
theorem dX10_byteAt_62 : decode cX10_byteAt 62 = .ok (.aload_n 0, 1) := by decide +kernel
theorem dX10_byteAt_63 : decode cX10_byteAt 63 = .ok (.iload_n 3, 1) := by decide +kernel
theorem dX10_byteAt_64 : decode cX10_byteAt 64 = .ok (.invokevirtual 177, 3) := by decide +kernel
theorem dX10_byteAt_67 : decode cX10_byteAt 67 = .ok (.ireturn, 1) := by decide +kernel
theorem dX10_keyAt_0 : decode cX10_keyAt 0 = .ok (.sipush 6100, 3) := by decide +kernel
theorem dX10_keyAt_3 : decode cX10_keyAt 3 = .ok (.aload_n 0, 1) := by decide +kernel
theorem dX10_keyAt_4 : decode cX10_keyAt 4 = .ok (.iload_n 1, 1) := by decide +kernel
theorem dX10_keyAt_5 : decode cX10_keyAt 5 = .ok (.iconst 2, 1) := by decide +kernel
theorem dX10_keyAt_6 : decode cX10_keyAt 6 = .ok (.invokevirtual 71, 3) := by decide +kernel
theorem dX10_keyAt_9 : decode cX10_keyAt 9 = .ok (.iadd, 1) := by decide +kernel
theorem dX10_keyAt_10 : decode cX10_keyAt 10 = .ok (.iconst 2, 1) := by decide +kernel
theorem dX10_keyAt_11 : decode cX10_keyAt 11 = .ok (.iadd, 1) := by decide +kernel
theorem dX10_keyAt_12 : decode cX10_keyAt 12 = .ok (.aload_n 0, 1) := by decide +kernel
theorem dX10_keyAt_13 : decode cX10_keyAt 13 = .ok (.iload_n 1, 1) := by decide +kernel
theorem dX10_keyAt_14 : decode cX10_keyAt 14 = .ok (.iconst 3, 1) := by decide +kernel
theorem dX10_keyAt_15 : decode cX10_keyAt 15 = .ok (.invokevirtual 71, 3) := by decide +kernel
theorem dX10_keyAt_18 : decode cX10_keyAt 18 = .ok (.iadd, 1) := by decide +kernel
theorem dX10_keyAt_19 : decode cX10_keyAt 19 = .ok (.iload_n 2, 1) := by decide +kernel
theorem dX10_keyAt_20 : decode cX10_keyAt 20 = .ok (.iadd, 1) := by decide +kernel
theorem dX10_keyAt_21 : decode cX10_keyAt 21 = .ok (.ireturn, 1) := by decide +kernel
theorem dX10_key_0 : decode cX10_key 0 = .ok (.aload_n 0, 1) := by decide +kernel
theorem dX10_key_1 : decode cX10_key 1 = .ok (.iload_n 1, 1) := by decide +kernel
theorem dX10_key_2 : decode cX10_key 2 = .ok (.invokevirtual 67, 3) := by decide +kernel
theorem dX10_key_5 : decode cX10_key 5 = .ok (.ifCond .ne 6, 3) := by decide +kernel
theorem dX10_key_8 : decode cX10_key 8 = .ok (.bipush (-101), 2) := by decide +kernel
theorem dX10_key_10 : decode cX10_key 10 = .ok (.ireturn, 1) := by decide +kernel
theorem dX10_key_11 : decode cX10_key 11 = .ok (.aload_n 0, 1) := by decide +kernel
theorem dX10_key_12 : decode cX10_key 12 = .ok (.iload_n 1, 1) := by decide +kernel
theorem dX10_key_13 : decode cX10_key 13 = .ok (.invokevirtual 158, 3) := by decide +kernel
theorem dX10_key_16 : decode cX10_key 16 = .ok (.ifCond .eq 7, 3) := by decide +kernel
theorem dX10_key_19 : decode cX10_key 19 = .ok (.iconst 1, 1) := by decide +kernel
theorem dX10_key_20 : decode cX10_key 20 = .ok (.goto 40, 3) := by decide +kernel
theorem dX10_key_23 : decode cX10_key 23 = .ok (.aload_n 0, 1) := by decide +kernel
theorem dX10_key_24 : decode cX10_key 24 = .ok (.iload_n 1, 1) := by decide +kernel
theorem dX10_key_25 : decode cX10_key 25 = .ok (.iconst 1, 1) := by decide +kernel
theorem dX10_key_26 : decode cX10_key 26 = .ok (.invokevirtual 71, 3) := by decide +kernel
theorem dX10_key_29 : decode cX10_key 29 = .ok (.iconst 5, 1) := by decide +kernel
theorem dX10_key_30 : decode cX10_key 30 = .ok (.if_icmp .eq 7, 3) := by decide +kernel
theorem dX10_key_33 : decode cX10_key 33 = .ok (.iconst 3, 1) := by decide +kernel
theorem dX10_key_34 : decode cX10_key 34 = .ok (.goto 26, 3) := by decide +kernel
theorem dX10_key_37 : decode cX10_key 37 = .ok (.iload_n 2, 1) := by decide +kernel
theorem dX10_key_38 : decode cX10_key 38 = .ok (.i2l, 1) := by decide +kernel
theorem dX10_key_39 : decode cX10_key 39 = .ok (.lconst 0, 1) := by decide +kernel
theorem dX10_key_40 : decode cX10_key 40 = .ok (.aload_n 0, 1) := by decide +kernel
theorem dX10_key_41 : decode cX10_key 41 = .ok (.iload_n 1, 1) := by decide +kernel
theorem dX10_key_42 : decode cX10_key 42 = .ok (.iconst 3, 1) := by decide +kernel
theorem dX10_key_43 : decode cX10_key 43 = .ok (.invokevirtual 71, 3) := by decide +kernel
theorem dX10_key_46 : decode cX10_key 46 = .ok (.iconst 1, 1) := by decide +kernel
theorem dX10_key_47 : decode cX10_key 47 = .ok (.isub, 1) := by decide +kernel
theorem dX10_key_48 : decode cX10_key 48 = .ok (.i2l, 1) := by decide +kernel
theorem dX10_key_49 : decode cX10_key 49 = .ok (.invokestatic 63, 3) := by decide +kernel
theorem dX10_key_52 : decode cX10_key 52 = .ok (.ifCond .ne 7, 3) := by decide +kernel
theorem dX10_key_55 : decode cX10_key 55 = .ok (.iconst 2, 1) := by decide +kernel
theorem dX10_key_56 : decode cX10_key 56 = .ok (.goto 4, 3) := by decide +kernel
theorem dX10_key_59 : decode cX10_key 59 = .ok (.iconst 0, 1) := by decide +kernel
theorem dX10_key_60 : decode cX10_key 60 = .ok (.istore 4, 2) := by decide +kernel
theorem dX10_key_62 : decode cX10_key 62 = .ok (.iload 4, 2) := by decide +kernel
theorem dX10_key_64 : decode cX10_key 64 = .ok (.ifCond .ne 15, 3) := by decide +kernel
theorem dX10_key_67 : decode cX10_key 67 = .ok (.aload_n 0, 1) := by decide +kernel
theorem dX10_key_68 : decode cX10_key 68 = .ok (.getfield 9, 3) := by decide +kernel
theorem dX10_key_71 : decode cX10_key 71 = .ok (.aload_n 0, 1) := by decide +kernel
theorem dX10_key_72 : decode cX10_key 72 = .ok (.iload_n 1, 1) := by decide +kernel
theorem dX10_key_73 : decode cX10_key 73 = .ok (.iload_n 2, 1) := by decide +kernel
theorem dX10_key_74 : decode cX10_key 74 = .ok (.invokevirtual 195, 3) := by decide +kernel
theorem dX10_key_77 : decode cX10_key 77 = .ok (.iload_n 3, 1) := by decide +kernel
theorem dX10_key_78 : decode cX10_key 78 = .ok (.iastore, 1) := by decide +kernel
theorem dX10_key_79 : decode cX10_key 79 = .ok (.aload_n 0, 1) := by decide +kernel
theorem dX10_key_80 : decode cX10_key 80 = .ok (.iconst 1, 1) := by decide +kernel
theorem dX10_key_81 : decode cX10_key 81 = .ok (.putfield 171, 3) := by decide +kernel
theorem dX10_key_84 : decode cX10_key 84 = .ok (.aload_n 0, 1) := by decide +kernel
theorem dX10_key_85 : decode cX10_key 85 = .ok (.iload 4, 2) := by decide +kernel
theorem dX10_key_87 : decode cX10_key 87 = .ok (.invokevirtual 177, 3) := by decide +kernel
theorem dX10_key_90 : decode cX10_key 90 = .ok (.ireturn, 1) := by decide +kernel
theorem dX10_find_0 : decode cX10_find 0 = .ok (.aload_n 0, 1) := by decide +kernel
theorem dX10_find_1 : decode cX10_find 1 = .ok (.iload_n 1, 1) := by decide +kernel
theorem dX10_find_2 : decode cX10_find 2 = .ok (.invokevirtual 67, 3) := by decide +kernel
theorem dX10_find_5 : decode cX10_find 5 = .ok (.ifCond .ne 6, 3) := by decide +kernel
theorem dX10_find_8 : decode cX10_find 8 = .ok (.bipush (-101), 2) := by decide +kernel
theorem dX10_find_10 : decode cX10_find 10 = .ok (.ireturn, 1) := by decide +kernel
theorem dX10_find_11 : decode cX10_find 11 = .ok (.aload_n 0, 1) := by decide +kernel
theorem dX10_find_12 : decode cX10_find 12 = .ok (.iload_n 1, 1) := by decide +kernel
theorem dX10_find_13 : decode cX10_find 13 = .ok (.invokevirtual 158, 3) := by decide +kernel
theorem dX10_find_16 : decode cX10_find 16 = .ok (.ifCond .eq 7, 3) := by decide +kernel
theorem dX10_find_19 : decode cX10_find 19 = .ok (.iconst 1, 1) := by decide +kernel
theorem dX10_find_20 : decode cX10_find 20 = .ok (.goto 18, 3) := by decide +kernel
theorem dX10_find_23 : decode cX10_find 23 = .ok (.aload_n 0, 1) := by decide +kernel
theorem dX10_find_24 : decode cX10_find 24 = .ok (.iload_n 1, 1) := by decide +kernel
theorem dX10_find_25 : decode cX10_find 25 = .ok (.iconst 1, 1) := by decide +kernel
theorem dX10_find_26 : decode cX10_find 26 = .ok (.invokevirtual 71, 3) := by decide +kernel
theorem dX10_find_29 : decode cX10_find 29 = .ok (.iconst 5, 1) := by decide +kernel
theorem dX10_find_30 : decode cX10_find 30 = .ok (.if_icmp .eq 7, 3) := by decide +kernel
theorem dX10_find_33 : decode cX10_find 33 = .ok (.iconst 3, 1) := by decide +kernel
theorem dX10_find_34 : decode cX10_find 34 = .ok (.goto 4, 3) := by decide +kernel
theorem dX10_find_37 : decode cX10_find 37 = .ok (.iconst 0, 1) := by decide +kernel
theorem dX10_find_38 : decode cX10_find 38 = .ok (.istore_n 3, 1) := by decide +kernel
theorem dX10_find_39 : decode cX10_find 39 = .ok (.aload_n 0, 1) := by decide +kernel
theorem dX10_find_40 : decode cX10_find 40 = .ok (.iconst (-1), 1) := by decide +kernel
theorem dX10_find_41 : decode cX10_find 41 = .ok (.putfield 171, 3) := by decide +kernel
theorem dX10_find_44 : decode cX10_find 44 = .ok (.iload_n 3, 1) := by decide +kernel
theorem dX10_find_45 : decode cX10_find 45 = .ok (.ifCond .ne 14, 3) := by decide +kernel
theorem dX10_find_48 : decode cX10_find 48 = .ok (.aload_n 0, 1) := by decide +kernel
theorem dX10_find_49 : decode cX10_find 49 = .ok (.iload_n 1, 1) := by decide +kernel
theorem dX10_find_50 : decode cX10_find 50 = .ok (.iconst 3, 1) := by decide +kernel
theorem dX10_find_51 : decode cX10_find 51 = .ok (.invokevirtual 71, 3) := by decide +kernel
theorem dX10_find_54 : decode cX10_find 54 = .ok (.iconst 1, 1) := by decide +kernel
theorem dX10_find_55 : decode cX10_find 55 = .ok (.isub, 1) := by decide +kernel
theorem dX10_find_56 : decode cX10_find 56 = .ok (.goto 4, 3) := by decide +kernel
theorem dX10_find_59 : decode cX10_find 59 = .ok (.iconst (-1), 1) := by decide +kernel
theorem dX10_find_60 : decode cX10_find 60 = .ok (.istore 4, 2) := by decide +kernel
theorem dX10_find_62 : decode cX10_find 62 = .ok (.iload 4, 2) := by decide +kernel
theorem dX10_find_64 : decode cX10_find 64 = .ok (.ifCond .lt 38, 3) := by decide +kernel
theorem dX10_find_67 : decode cX10_find 67 = .ok (.aload_n 0, 1) := by decide +kernel
theorem dX10_find_68 : decode cX10_find 68 = .ok (.aload_n 0, 1) := by decide +kernel
theorem dX10_find_69 : decode cX10_find 69 = .ok (.getfield 9, 3) := by decide +kernel
theorem dX10_find_72 : decode cX10_find 72 = .ok (.aload_n 0, 1) := by decide +kernel
theorem dX10_find_73 : decode cX10_find 73 = .ok (.iload_n 1, 1) := by decide +kernel
theorem dX10_find_74 : decode cX10_find 74 = .ok (.iload 4, 2) := by decide +kernel
theorem dX10_find_76 : decode cX10_find 76 = .ok (.invokevirtual 195, 3) := by decide +kernel
theorem dX10_find_79 : decode cX10_find 79 = .ok (.iaload, 1) := by decide +kernel
theorem dX10_find_80 : decode cX10_find 80 = .ok (.iload_n 2, 1) := by decide +kernel
theorem dX10_find_81 : decode cX10_find 81 = .ok (.if_icmp .ne 8, 3) := by decide +kernel
theorem dX10_find_84 : decode cX10_find 84 = .ok (.iload 4, 2) := by decide +kernel
theorem dX10_find_86 : decode cX10_find 86 = .ok (.goto 7, 3) := by decide +kernel
theorem dX10_find_89 : decode cX10_find 89 = .ok (.aload_n 0, 1) := by decide +kernel
theorem dX10_find_90 : decode cX10_find 90 = .ok (.getfield 171, 3) := by decide +kernel
theorem dX10_find_93 : decode cX10_find 93 = .ok (.putfield 171, 3) := by decide +kernel
theorem dX10_find_96 : decode cX10_find 96 = .ok (.iinc 4 (-1), 3) := by decide +kernel
theorem dX10_find_99 : decode cX10_find 99 = .ok (.goto (-37), 3) := by decide +kernel
theorem dX10_find_102 : decode cX10_find 102 = .ok (.aload_n 0, 1) := by decide +kernel
theorem dX10_find_103 : decode cX10_find 103 = .ok (.iload_n 3, 1) := by decide +kernel
theorem dX10_find_104 : decode cX10_find 104 = .ok (.invokevirtual 177, 3) := by decide +kernel
theorem dX10_find_107 : decode cX10_find 107 = .ok (.ireturn, 1) := by decide +kernel
theorem dX10_roots_0 : decode cX10_roots 0 = .ok (.iload_n 2, 1) := by decide +kernel
theorem dX10_roots_1 : decode cX10_roots 1 = .ok (.iconst (-1), 1) := by decide +kernel
theorem dX10_roots_2 : decode cX10_roots 2 = .ok (.if_icmp .eq 13, 3) := by decide +kernel
theorem dX10_roots_5 : decode cX10_roots 5 = .ok (.aload_n 0, 1) := by decide +kernel
theorem dX10_roots_6 : decode cX10_roots 6 = .ok (.iload_n 2, 1) := by decide +kernel
theorem dX10_roots_7 : decode cX10_roots 7 = .ok (.invokevirtual 158, 3) := by decide +kernel
theorem dX10_roots_10 : decode cX10_roots 10 = .ok (.ifCond .eq 5, 3) := by decide +kernel
theorem dX10_roots_13 : decode cX10_roots 13 = .ok (.iconst 1, 1) := by decide +kernel
theorem dX10_roots_14 : decode cX10_roots 14 = .ok (.ireturn, 1) := by decide +kernel
theorem dX10_roots_15 : decode cX10_roots 15 = .ok (.aload_n 0, 1) := by decide +kernel
theorem dX10_roots_16 : decode cX10_roots 16 = .ok (.aload_n 0, 1) := by decide +kernel
theorem dX10_roots_17 : decode cX10_roots 17 = .ok (.getfield 9, 3) := by decide +kernel
theorem dX10_roots_20 : decode cX10_roots 20 = .ok (.bipush 20, 2) := by decide +kernel
theorem dX10_roots_22 : decode cX10_roots 22 = .ok (.iload_n 1, 1) := by decide +kernel
theorem dX10_roots_23 : decode cX10_roots 23 = .ok (.iadd, 1) := by decide +kernel
theorem dX10_roots_24 : decode cX10_roots 24 = .ok (.iaload, 1) := by decide +kernel
theorem dX10_roots_25 : decode cX10_roots 25 = .ok (.putfield 171, 3) := by decide +kernel
theorem dX10_roots_28 : decode cX10_roots 28 = .ok (.aload_n 0, 1) := by decide +kernel
theorem dX10_roots_29 : decode cX10_roots 29 = .ok (.getfield 9, 3) := by decide +kernel
theorem dX10_roots_32 : decode cX10_roots 32 = .ok (.bipush 20, 2) := by decide +kernel
theorem dX10_roots_34 : decode cX10_roots 34 = .ok (.iload_n 1, 1) := by decide +kernel
theorem dX10_roots_35 : decode cX10_roots 35 = .ok (.iadd, 1) := by decide +kernel
theorem dX10_roots_36 : decode cX10_roots 36 = .ok (.iload_n 2, 1) := by decide +kernel
theorem dX10_roots_37 : decode cX10_roots 37 = .ok (.iastore, 1) := by decide +kernel
theorem dX10_roots_38 : decode cX10_roots 38 = .ok (.aload_n 0, 1) := by decide +kernel
theorem dX10_roots_39 : decode cX10_roots 39 = .ok (.getfield 9, 3) := by decide +kernel
theorem dX10_roots_42 : decode cX10_roots 42 = .ok (.iconst 3, 1) := by decide +kernel
theorem dX10_roots_43 : decode cX10_roots 43 = .ok (.iaload, 1) := by decide +kernel
theorem dX10_roots_44 : decode cX10_roots 44 = .ok (.iconst 1, 1) := by decide +kernel
theorem dX10_roots_45 : decode cX10_roots 45 = .ok (.if_icmp .ne 11, 3) := by decide +kernel
theorem dX10_roots_48 : decode cX10_roots 48 = .ok (.aload_n 0, 1) := by decide +kernel
theorem dX10_roots_49 : decode cX10_roots 49 = .ok (.iload_n 2, 1) := by decide +kernel
theorem dX10_roots_50 : decode cX10_roots 50 = .ok (.iconst 3, 1) := by decide +kernel
theorem dX10_roots_51 : decode cX10_roots 51 = .ok (.iconst (-1), 1) := by decide +kernel
theorem dX10_roots_52 : decode cX10_roots 52 = .ok (.iload_n 1, 1) := by decide +kernel
theorem dX10_roots_53 : decode cX10_roots 53 = .ok (.invokevirtual 86, 3) := by decide +kernel
theorem dX10_roots_56 : decode cX10_roots 56 = .ok (.iconst 0, 1) := by decide +kernel
theorem dX10_roots_57 : decode cX10_roots 57 = .ok (.ireturn, 1) := by decide +kernel
theorem dX10_isRoot_0 : decode cX10_isRoot 0 = .ok (.iload_n 0, 1) := by decide +kernel
theorem dX10_isRoot_1 : decode cX10_isRoot 1 = .ok (.i2l, 1) := by decide +kernel
theorem dX10_isRoot_2 : decode cX10_isRoot 2 = .ok (.lconst 0, 1) := by decide +kernel
theorem dX10_isRoot_3 : decode cX10_isRoot 3 = .ok (.ldc2_w 198, 3) := by decide +kernel
theorem dX10_isRoot_6 : decode cX10_isRoot 6 = .ok (.invokestatic 63, 3) := by decide +kernel
theorem dX10_isRoot_9 : decode cX10_isRoot 9 = .ok (.ireturn, 1) := by decide +kernel
theorem dX10_root_0 : decode cX10_root 0 = .ok (.iload_n 1, 1) := by decide +kernel
theorem dX10_root_1 : decode cX10_root 1 = .ok (.invokestatic 200, 3) := by decide +kernel
theorem dX10_root_4 : decode cX10_root 4 = .ok (.ifCond .eq 11, 3) := by decide +kernel
theorem dX10_root_7 : decode cX10_root 7 = .ok (.aload_n 0, 1) := by decide +kernel
theorem dX10_root_8 : decode cX10_root 8 = .ok (.iload_n 2, 1) := by decide +kernel
theorem dX10_root_9 : decode cX10_root 9 = .ok (.invokevirtual 164, 3) := by decide +kernel
theorem dX10_root_12 : decode cX10_root 12 = .ok (.ifCond .ne 8, 3) := by decide +kernel
theorem dX10_root_15 : decode cX10_root 15 = .ok (.bipush (-101), 2) := by decide +kernel
theorem dX10_root_17 : decode cX10_root 17 = .ok (.goto 13, 3) := by decide +kernel
theorem dX10_root_20 : decode cX10_root 20 = .ok (.aload_n 0, 1) := by decide +kernel
theorem dX10_root_21 : decode cX10_root 21 = .ok (.aload_n 0, 1) := by decide +kernel
theorem dX10_root_22 : decode cX10_root 22 = .ok (.iload_n 1, 1) := by decide +kernel
theorem dX10_root_23 : decode cX10_root 23 = .ok (.iload_n 2, 1) := by decide +kernel
theorem dX10_root_24 : decode cX10_root 24 = .ok (.invokevirtual 203, 3) := by decide +kernel
theorem dX10_root_27 : decode cX10_root 27 = .ok (.invokevirtual 177, 3) := by decide +kernel
theorem dX10_root_30 : decode cX10_root 30 = .ok (.ireturn, 1) := by decide +kernel
theorem dX10_rootOf_0 : decode cX10_rootOf 0 = .ok (.iload_n 1, 1) := by decide +kernel
theorem dX10_rootOf_1 : decode cX10_rootOf 1 = .ok (.invokestatic 200, 3) := by decide +kernel
theorem dX10_rootOf_4 : decode cX10_rootOf 4 = .ok (.ifCond .eq 15, 3) := by decide +kernel
theorem dX10_rootOf_7 : decode cX10_rootOf 7 = .ok (.aload_n 0, 1) := by decide +kernel
theorem dX10_rootOf_8 : decode cX10_rootOf 8 = .ok (.getfield 9, 3) := by decide +kernel
theorem dX10_rootOf_11 : decode cX10_rootOf 11 = .ok (.bipush 20, 2) := by decide +kernel
theorem dX10_rootOf_13 : decode cX10_rootOf 13 = .ok (.iload_n 1, 1) := by decide +kernel
theorem dX10_rootOf_14 : decode cX10_rootOf 14 = .ok (.iadd, 1) := by decide +kernel
theorem dX10_rootOf_15 : decode cX10_rootOf 15 = .ok (.iaload, 1) := by decide +kernel
theorem dX10_rootOf_16 : decode cX10_rootOf 16 = .ok (.goto 5, 3) := by decide +kernel
theorem dX10_rootOf_19 : decode cX10_rootOf 19 = .ok (.bipush (-101), 2) := by decide +kernel
theorem dX10_rootOf_21 : decode cX10_rootOf 21 = .ok (.ireturn, 1) := by decide +kernel
theorem dX10_isRow_0 : decode cX10_isRow 0 = .ok (.aload_n 0, 1) := by decide +kernel
theorem dX10_isRow_1 : decode cX10_isRow 1 = .ok (.iload_n 1, 1) := by decide +kernel
theorem dX10_isRow_2 : decode cX10_isRow 2 = .ok (.iconst 1, 1) := by decide +kernel
theorem dX10_isRow_3 : decode cX10_isRow 3 = .ok (.invokevirtual 71, 3) := by decide +kernel
theorem dX10_isRow_6 : decode cX10_isRow 6 = .ok (.iconst 1, 1) := by decide +kernel
theorem dX10_isRow_7 : decode cX10_isRow 7 = .ok (.if_icmp .eq 13, 3) := by decide +kernel
theorem dX10_isRow_10 : decode cX10_isRow 10 = .ok (.aload_n 0, 1) := by decide +kernel
theorem dX10_isRow_11 : decode cX10_isRow 11 = .ok (.iload_n 1, 1) := by decide +kernel
theorem dX10_isRow_12 : decode cX10_isRow 12 = .ok (.iconst 1, 1) := by decide +kernel
theorem dX10_isRow_13 : decode cX10_isRow 13 = .ok (.invokevirtual 71, 3) := by decide +kernel
theorem dX10_isRow_16 : decode cX10_isRow 16 = .ok (.iconst 5, 1) := by decide +kernel
theorem dX10_isRow_17 : decode cX10_isRow 17 = .ok (.if_icmp .ne 7, 3) := by decide +kernel
theorem dX10_isRow_20 : decode cX10_isRow 20 = .ok (.iconst 1, 1) := by decide +kernel
theorem dX10_isRow_21 : decode cX10_isRow 21 = .ok (.goto 4, 3) := by decide +kernel
theorem dX10_isRow_24 : decode cX10_isRow 24 = .ok (.iconst 0, 1) := by decide +kernel
theorem dX10_isRow_25 : decode cX10_isRow 25 = .ok (.ireturn, 1) := by decide +kernel
theorem dX10_copies_0 : decode cX10_copies 0 = .ok (.aload_n 0, 1) := by decide +kernel
theorem dX10_copies_1 : decode cX10_copies 1 = .ok (.iconst 0, 1) := by decide +kernel
theorem dX10_copies_2 : decode cX10_copies 2 = .ok (.putfield 53, 3) := by decide +kernel
theorem dX10_copies_5 : decode cX10_copies 5 = .ok (.aload_n 0, 1) := by decide +kernel
theorem dX10_copies_6 : decode cX10_copies 6 = .ok (.iload_n 1, 1) := by decide +kernel
theorem dX10_copies_7 : decode cX10_copies 7 = .ok (.invokevirtual 158, 3) := by decide +kernel
theorem dX10_copies_10 : decode cX10_copies 10 = .ok (.ifCond .ne 11, 3) := by decide +kernel
theorem dX10_copies_13 : decode cX10_copies 13 = .ok (.aload_n 0, 1) := by decide +kernel
theorem dX10_copies_14 : decode cX10_copies 14 = .ok (.iload_n 3, 1) := by decide +kernel
theorem dX10_copies_15 : decode cX10_copies 15 = .ok (.invokevirtual 158, 3) := by decide +kernel
theorem dX10_copies_18 : decode cX10_copies 18 = .ok (.ifCond .eq 5, 3) := by decide +kernel
theorem dX10_copies_21 : decode cX10_copies 21 = .ok (.iconst 1, 1) := by decide +kernel
theorem dX10_copies_22 : decode cX10_copies 22 = .ok (.ireturn, 1) := by decide +kernel
theorem dX10_copies_23 : decode cX10_copies 23 = .ok (.aload_n 0, 1) := by decide +kernel
theorem dX10_copies_24 : decode cX10_copies 24 = .ok (.iload_n 1, 1) := by decide +kernel
theorem dX10_copies_25 : decode cX10_copies 25 = .ok (.invokevirtual 206, 3) := by decide +kernel
theorem dX10_copies_28 : decode cX10_copies 28 = .ok (.ifCond .eq 11, 3) := by decide +kernel
theorem dX10_copies_31 : decode cX10_copies 31 = .ok (.aload_n 0, 1) := by decide +kernel
theorem dX10_copies_32 : decode cX10_copies 32 = .ok (.iload_n 3, 1) := by decide +kernel
theorem dX10_copies_33 : decode cX10_copies 33 = .ok (.invokevirtual 206, 3) := by decide +kernel
theorem dX10_copies_36 : decode cX10_copies 36 = .ok (.ifCond .ne 5, 3) := by decide +kernel
theorem dX10_copies_39 : decode cX10_copies 39 = .ok (.iconst 3, 1) := by decide +kernel
theorem dX10_copies_40 : decode cX10_copies 40 = .ok (.ireturn, 1) := by decide +kernel
theorem dX10_copies_41 : decode cX10_copies 41 = .ok (.iload 5, 2) := by decide +kernel
theorem dX10_copies_43 : decode cX10_copies 43 = .ok (.ifCond .ge 5, 3) := by decide +kernel
theorem dX10_copies_46 : decode cX10_copies 46 = .ok (.iconst 4, 1) := by decide +kernel
theorem dX10_copies_47 : decode cX10_copies 47 = .ok (.ireturn, 1) := by decide +kernel
theorem dX10_copies_48 : decode cX10_copies 48 = .ok (.aload_n 0, 1) := by decide +kernel
theorem dX10_copies_49 : decode cX10_copies 49 = .ok (.getfield 53, 3) := by decide +kernel
theorem dX10_copies_52 : decode cX10_copies 52 = .ok (.iload 5, 2) := by decide +kernel
theorem dX10_copies_54 : decode cX10_copies 54 = .ok (.if_icmp .ge 96, 3) := by decide +kernel
theorem dX10_copies_57 : decode cX10_copies 57 = .ok (.iload_n 2, 1) := by decide +kernel
theorem dX10_copies_58 : decode cX10_copies 58 = .ok (.i2l, 1) := by decide +kernel
theorem dX10_copies_59 : decode cX10_copies 59 = .ok (.aload_n 0, 1) := by decide +kernel
theorem dX10_copies_60 : decode cX10_copies 60 = .ok (.getfield 53, 3) := by decide +kernel
theorem dX10_copies_63 : decode cX10_copies 63 = .ok (.i2l, 1) := by decide +kernel
theorem dX10_copies_64 : decode cX10_copies 64 = .ok (.ladd, 1) := by decide +kernel
theorem dX10_copies_65 : decode cX10_copies 65 = .ok (.lstore 6, 2) := by decide +kernel
theorem dX10_copies_67 : decode cX10_copies 67 = .ok (.iload 4, 2) := by decide +kernel
theorem dX10_copies_69 : decode cX10_copies 69 = .ok (.i2l, 1) := by decide +kernel
theorem dX10_copies_70 : decode cX10_copies 70 = .ok (.aload_n 0, 1) := by decide +kernel
theorem dX10_copies_71 : decode cX10_copies 71 = .ok (.getfield 53, 3) := by decide +kernel
theorem dX10_copies_74 : decode cX10_copies 74 = .ok (.i2l, 1) := by decide +kernel
theorem dX10_copies_75 : decode cX10_copies 75 = .ok (.ladd, 1) := by decide +kernel
theorem dX10_copies_76 : decode cX10_copies 76 = .ok (.lstore 8, 2) := by decide +kernel
theorem dX10_copies_78 : decode cX10_copies 78 = .ok (.lload 6, 2) := by decide +kernel
theorem dX10_copies_80 : decode cX10_copies 80 = .ok (.lconst 0, 1) := by decide +kernel
theorem dX10_copies_81 : decode cX10_copies 81 = .ok (.aload_n 0, 1) := by decide +kernel
theorem dX10_copies_82 : decode cX10_copies 82 = .ok (.iload_n 1, 1) := by decide +kernel
theorem dX10_copies_83 : decode cX10_copies 83 = .ok (.iconst 3, 1) := by decide +kernel
theorem dX10_copies_84 : decode cX10_copies 84 = .ok (.invokevirtual 71, 3) := by decide +kernel
theorem dX10_copies_87 : decode cX10_copies 87 = .ok (.iconst 1, 1) := by decide +kernel
theorem dX10_copies_88 : decode cX10_copies 88 = .ok (.isub, 1) := by decide +kernel
theorem dX10_copies_89 : decode cX10_copies 89 = .ok (.i2l, 1) := by decide +kernel
theorem dX10_copies_90 : decode cX10_copies 90 = .ok (.invokestatic 63, 3) := by decide +kernel
theorem dX10_copies_93 : decode cX10_copies 93 = .ok (.ifCond .eq 21, 3) := by decide +kernel
theorem dX10_copies_96 : decode cX10_copies 96 = .ok (.lload 8, 2) := by decide +kernel
theorem dX10_copies_98 : decode cX10_copies 98 = .ok (.lconst 0, 1) := by decide +kernel
theorem dX10_copies_99 : decode cX10_copies 99 = .ok (.aload_n 0, 1) := by decide +kernel
theorem dX10_copies_100 : decode cX10_copies 100 = .ok (.iload_n 3, 1) := by decide +kernel
theorem dX10_copies_101 : decode cX10_copies 101 = .ok (.iconst 3, 1) := by decide +kernel
theorem dX10_copies_102 : decode cX10_copies 102 = .ok (.invokevirtual 71, 3) := by decide +kernel
theorem dX10_copies_105 : decode cX10_copies 105 = .ok (.iconst 1, 1) := by decide +kernel
theorem dX10_copies_106 : decode cX10_copies 106 = .ok (.isub, 1) := by decide +kernel
theorem dX10_copies_107 : decode cX10_copies 107 = .ok (.i2l, 1) := by decide +kernel
theorem dX10_copies_108 : decode cX10_copies 108 = .ok (.invokestatic 63, 3) := by decide +kernel
theorem dX10_copies_111 : decode cX10_copies 111 = .ok (.ifCond .ne 5, 3) := by decide +kernel
theorem dX10_copies_114 : decode cX10_copies 114 = .ok (.iconst 2, 1) := by decide +kernel
theorem dX10_copies_115 : decode cX10_copies 115 = .ok (.ireturn, 1) := by decide +kernel
theorem dX10_copies_116 : decode cX10_copies 116 = .ok (.aload_n 0, 1) := by decide +kernel
theorem dX10_copies_117 : decode cX10_copies 117 = .ok (.iload_n 3, 1) := by decide +kernel
theorem dX10_copies_118 : decode cX10_copies 118 = .ok (.lload 8, 2) := by decide +kernel
theorem dX10_copies_120 : decode cX10_copies 120 = .ok (.l2i, 1) := by decide +kernel
theorem dX10_copies_121 : decode cX10_copies 121 = .ok (.aload_n 0, 1) := by decide +kernel
theorem dX10_copies_122 : decode cX10_copies 122 = .ok (.getfield 9, 3) := by decide +kernel
theorem dX10_copies_125 : decode cX10_copies 125 = .ok (.aload_n 0, 1) := by decide +kernel
theorem dX10_copies_126 : decode cX10_copies 126 = .ok (.iload_n 1, 1) := by decide +kernel
theorem dX10_copies_127 : decode cX10_copies 127 = .ok (.lload 6, 2) := by decide +kernel
theorem dX10_copies_129 : decode cX10_copies 129 = .ok (.l2i, 1) := by decide +kernel
theorem dX10_copies_130 : decode cX10_copies 130 = .ok (.invokevirtual 98, 3) := by decide +kernel
theorem dX10_copies_133 : decode cX10_copies 133 = .ok (.iaload, 1) := by decide +kernel
theorem dX10_copies_134 : decode cX10_copies 134 = .ok (.invokevirtual 161, 3) := by decide +kernel
theorem dX10_copies_137 : decode cX10_copies 137 = .ok (.aload_n 0, 1) := by decide +kernel
theorem dX10_copies_138 : decode cX10_copies 138 = .ok (.dup, 1) := by decide +kernel
theorem dX10_copies_139 : decode cX10_copies 139 = .ok (.getfield 53, 3) := by decide +kernel
theorem dX10_copies_142 : decode cX10_copies 142 = .ok (.iconst 1, 1) := by decide +kernel
theorem dX10_copies_143 : decode cX10_copies 143 = .ok (.iadd, 1) := by decide +kernel
theorem dX10_copies_144 : decode cX10_copies 144 = .ok (.putfield 53, 3) := by decide +kernel
theorem dX10_copies_147 : decode cX10_copies 147 = .ok (.goto (-99), 3) := by decide +kernel
theorem dX10_copies_150 : decode cX10_copies 150 = .ok (.iconst 0, 1) := by decide +kernel
theorem dX10_copies_151 : decode cX10_copies 151 = .ok (.ireturn, 1) := by decide +kernel
theorem dX10_copy_0 : decode cX10_copy 0 = .ok (.aload_n 0, 1) := by decide +kernel
theorem dX10_copy_1 : decode cX10_copy 1 = .ok (.iload_n 1, 1) := by decide +kernel
theorem dX10_copy_2 : decode cX10_copy 2 = .ok (.invokevirtual 67, 3) := by decide +kernel
theorem dX10_copy_5 : decode cX10_copy 5 = .ok (.ifCond .eq 11, 3) := by decide +kernel
theorem dX10_copy_8 : decode cX10_copy 8 = .ok (.aload_n 0, 1) := by decide +kernel
theorem dX10_copy_9 : decode cX10_copy 9 = .ok (.iload_n 3, 1) := by decide +kernel
theorem dX10_copy_10 : decode cX10_copy 10 = .ok (.invokevirtual 67, 3) := by decide +kernel
theorem dX10_copy_13 : decode cX10_copy 13 = .ok (.ifCond .ne 6, 3) := by decide +kernel
theorem dX10_copy_16 : decode cX10_copy 16 = .ok (.bipush (-101), 2) := by decide +kernel
theorem dX10_copy_18 : decode cX10_copy 18 = .ok (.ireturn, 1) := by decide +kernel
theorem dX10_copy_19 : decode cX10_copy 19 = .ok (.aload_n 0, 1) := by decide +kernel
theorem dX10_copy_20 : decode cX10_copy 20 = .ok (.iload_n 1, 1) := by decide +kernel
theorem dX10_copy_21 : decode cX10_copy 21 = .ok (.iload_n 2, 1) := by decide +kernel
theorem dX10_copy_22 : decode cX10_copy 22 = .ok (.iload_n 3, 1) := by decide +kernel
theorem dX10_copy_23 : decode cX10_copy 23 = .ok (.iload 4, 2) := by decide +kernel
theorem dX10_copy_25 : decode cX10_copy 25 = .ok (.iload 5, 2) := by decide +kernel
theorem dX10_copy_27 : decode cX10_copy 27 = .ok (.invokevirtual 209, 3) := by decide +kernel
theorem dX10_copy_30 : decode cX10_copy 30 = .ok (.istore 6, 2) := by decide +kernel
theorem dX10_copy_32 : decode cX10_copy 32 = .ok (.aload_n 0, 1) := by decide +kernel
theorem dX10_copy_33 : decode cX10_copy 33 = .ok (.iload 5, 2) := by decide +kernel
theorem dX10_copy_35 : decode cX10_copy 35 = .ok (.putfield 171, 3) := by decide +kernel
theorem dX10_copy_38 : decode cX10_copy 38 = .ok (.aload_n 0, 1) := by decide +kernel
theorem dX10_copy_39 : decode cX10_copy 39 = .ok (.iload 6, 2) := by decide +kernel
theorem dX10_copy_41 : decode cX10_copy 41 = .ok (.invokevirtual 177, 3) := by decide +kernel
theorem dX10_copy_44 : decode cX10_copy 44 = .ok (.ireturn, 1) := by decide +kernel
theorem dX10_copied_0 : decode cX10_copied 0 = .ok (.aload_n 0, 1) := by decide +kernel
theorem dX10_copied_1 : decode cX10_copied 1 = .ok (.getfield 53, 3) := by decide +kernel
theorem dX10_copied_4 : decode cX10_copied 4 = .ok (.ireturn, 1) := by decide +kernel
theorem dX10_shelves_0 : decode cX10_shelves 0 = .ok (.iload_n 3, 1) := by decide +kernel
theorem dX10_shelves_1 : decode cX10_shelves 1 = .ok (.iconst (-1), 1) := by decide +kernel
theorem dX10_shelves_2 : decode cX10_shelves 2 = .ok (.if_icmp .eq 16, 3) := by decide +kernel
theorem dX10_shelves_5 : decode cX10_shelves 5 = .ok (.aload_n 0, 1) := by decide +kernel
theorem dX10_shelves_6 : decode cX10_shelves 6 = .ok (.iload_n 3, 1) := by decide +kernel
theorem dX10_shelves_7 : decode cX10_shelves 7 = .ok (.invokevirtual 158, 3) := by decide +kernel
theorem dX10_shelves_10 : decode cX10_shelves 10 = .ok (.ifCond .eq 8, 3) := by decide +kernel
theorem dX10_shelves_13 : decode cX10_shelves 13 = .ok (.iconst 1, 1) := by decide +kernel
theorem dX10_shelves_14 : decode cX10_shelves 14 = .ok (.invokestatic 141, 3) := by decide +kernel
theorem dX10_shelves_17 : decode cX10_shelves 17 = .ok (.ireturn, 1) := by decide +kernel
theorem dX10_shelves_18 : decode cX10_shelves 18 = .ok (.iload_n 2, 1) := by decide +kernel
theorem dX10_shelves_19 : decode cX10_shelves 19 = .ok (.i2l, 1) := by decide +kernel
theorem dX10_shelves_20 : decode cX10_shelves 20 = .ok (.lconst 0, 1) := by decide +kernel
theorem dX10_shelves_21 : decode cX10_shelves 21 = .ok (.ldc2_w 213, 3) := by decide +kernel
theorem dX10_shelves_24 : decode cX10_shelves 24 = .ok (.invokestatic 63, 3) := by decide +kernel
theorem dX10_shelves_27 : decode cX10_shelves 27 = .ok (.ifCond .ne 8, 3) := by decide +kernel
theorem dX10_shelves_30 : decode cX10_shelves 30 = .ok (.iconst 2, 1) := by decide +kernel
theorem dX10_shelves_31 : decode cX10_shelves 31 = .ok (.invokestatic 141, 3) := by decide +kernel
theorem dX10_shelves_34 : decode cX10_shelves 34 = .ok (.ireturn, 1) := by decide +kernel
theorem dX10_shelves_35 : decode cX10_shelves 35 = .ok (.iload_n 3, 1) := by decide +kernel
theorem dX10_shelves_36 : decode cX10_shelves 36 = .ok (.iconst (-1), 1) := by decide +kernel
theorem dX10_shelves_37 : decode cX10_shelves 37 = .ok (.if_icmp .eq 21, 3) := by decide +kernel
theorem dX10_shelves_40 : decode cX10_shelves 40 = .ok (.iload_n 1, 1) := by decide +kernel
theorem dX10_shelves_41 : decode cX10_shelves 41 = .ok (.aload_n 0, 1) := by decide +kernel
theorem dX10_shelves_42 : decode cX10_shelves 42 = .ok (.iload_n 3, 1) := by decide +kernel
theorem dX10_shelves_43 : decode cX10_shelves 43 = .ok (.iconst 1, 1) := by decide +kernel
theorem dX10_shelves_44 : decode cX10_shelves 44 = .ok (.invokevirtual 71, 3) := by decide +kernel
theorem dX10_shelves_47 : decode cX10_shelves 47 = .ok (.invokestatic 215, 3) := by decide +kernel
theorem dX10_shelves_50 : decode cX10_shelves 50 = .ok (.ifCond .ne 8, 3) := by decide +kernel
theorem dX10_shelves_53 : decode cX10_shelves 53 = .ok (.iconst 5, 1) := by decide +kernel
theorem dX10_shelves_54 : decode cX10_shelves 54 = .ok (.invokestatic 141, 3) := by decide +kernel
theorem dX10_shelves_57 : decode cX10_shelves 57 = .ok (.ireturn, 1) := by decide +kernel
theorem dX10_shelves_58 : decode cX10_shelves 58 = .ok (.aload_n 0, 1) := by decide +kernel
theorem dX10_shelves_59 : decode cX10_shelves 59 = .ok (.getfield 9, 3) := by decide +kernel
theorem dX10_shelves_62 : decode cX10_shelves 62 = .ok (.bipush 44, 2) := by decide +kernel
theorem dX10_shelves_64 : decode cX10_shelves 64 = .ok (.bipush 8, 2) := by decide +kernel
theorem dX10_shelves_66 : decode cX10_shelves 66 = .ok (.iload_n 1, 1) := by decide +kernel
theorem dX10_shelves_67 : decode cX10_shelves 67 = .ok (.imul, 1) := by decide +kernel
theorem dX10_shelves_68 : decode cX10_shelves 68 = .ok (.iadd, 1) := by decide +kernel
theorem dX10_shelves_69 : decode cX10_shelves 69 = .ok (.iload_n 2, 1) := by decide +kernel
theorem dX10_shelves_70 : decode cX10_shelves 70 = .ok (.iadd, 1) := by decide +kernel
theorem dX10_shelves_71 : decode cX10_shelves 71 = .ok (.iload_n 3, 1) := by decide +kernel
theorem dX10_shelves_72 : decode cX10_shelves 72 = .ok (.iastore, 1) := by decide +kernel
theorem dX10_shelves_73 : decode cX10_shelves 73 = .ok (.iconst 1, 1) := by decide +kernel
theorem dX10_shelves_74 : decode cX10_shelves 74 = .ok (.ireturn, 1) := by decide +kernel
theorem dX10_takes_0 : decode cX10_takes 0 = .ok (.iload_n 1, 1) := by decide +kernel
theorem dX10_takes_1 : decode cX10_takes 1 = .ok (.iconst 3, 1) := by decide +kernel
theorem dX10_takes_2 : decode cX10_takes 2 = .ok (.if_icmp .eq 8, 3) := by decide +kernel
theorem dX10_takes_5 : decode cX10_takes 5 = .ok (.iload_n 1, 1) := by decide +kernel
theorem dX10_takes_6 : decode cX10_takes 6 = .ok (.iconst 4, 1) := by decide +kernel
theorem dX10_takes_7 : decode cX10_takes 7 = .ok (.if_icmp .ne 7, 3) := by decide +kernel
theorem dX10_takes_10 : decode cX10_takes 10 = .ok (.iconst 1, 1) := by decide +kernel
theorem dX10_takes_11 : decode cX10_takes 11 = .ok (.goto 4, 3) := by decide +kernel
theorem dX10_takes_14 : decode cX10_takes 14 = .ok (.iconst 0, 1) := by decide +kernel
theorem dX10_takes_15 : decode cX10_takes 15 = .ok (.istore_n 2, 1) := by decide +kernel
theorem dX10_takes_16 : decode cX10_takes 16 = .ok (.iload_n 0, 1) := by decide +kernel
theorem dX10_takes_17 : decode cX10_takes 17 = .ok (.ifCond .ne 19, 3) := by decide +kernel
theorem dX10_takes_20 : decode cX10_takes 20 = .ok (.iload_n 1, 1) := by decide +kernel
theorem dX10_takes_21 : decode cX10_takes 21 = .ok (.ifCond .eq 7, 3) := by decide +kernel
theorem dX10_takes_24 : decode cX10_takes 24 = .ok (.iload_n 2, 1) := by decide +kernel
theorem dX10_takes_25 : decode cX10_takes 25 = .ok (.ifCond .eq 7, 3) := by decide +kernel
theorem dX10_takes_28 : decode cX10_takes 28 = .ok (.iconst 1, 1) := by decide +kernel
theorem dX10_takes_29 : decode cX10_takes 29 = .ok (.goto 49, 3) := by decide +kernel
theorem dX10_takes_32 : decode cX10_takes 32 = .ok (.iconst 0, 1) := by decide +kernel
theorem dX10_takes_33 : decode cX10_takes 33 = .ok (.goto 45, 3) := by decide +kernel
theorem dX10_takes_36 : decode cX10_takes 36 = .ok (.iload_n 0, 1) := by decide +kernel
theorem dX10_takes_37 : decode cX10_takes 37 = .ok (.iconst 1, 1) := by decide +kernel
theorem dX10_takes_38 : decode cX10_takes 38 = .ok (.if_icmp .ne 21, 3) := by decide +kernel
theorem dX10_takes_41 : decode cX10_takes 41 = .ok (.iload_n 1, 1) := by decide +kernel
theorem dX10_takes_42 : decode cX10_takes 42 = .ok (.iconst 1, 1) := by decide +kernel
theorem dX10_takes_43 : decode cX10_takes 43 = .ok (.if_icmp .eq 8, 3) := by decide +kernel
theorem dX10_takes_46 : decode cX10_takes 46 = .ok (.iload_n 1, 1) := by decide +kernel
theorem dX10_takes_47 : decode cX10_takes 47 = .ok (.iconst 5, 1) := by decide +kernel
theorem dX10_takes_48 : decode cX10_takes 48 = .ok (.if_icmp .ne 7, 3) := by decide +kernel
theorem dX10_takes_51 : decode cX10_takes 51 = .ok (.iconst 1, 1) := by decide +kernel
theorem dX10_takes_52 : decode cX10_takes 52 = .ok (.goto 26, 3) := by decide +kernel
theorem dX10_takes_55 : decode cX10_takes 55 = .ok (.iconst 0, 1) := by decide +kernel
theorem dX10_takes_56 : decode cX10_takes 56 = .ok (.goto 22, 3) := by decide +kernel
theorem dX10_takes_59 : decode cX10_takes 59 = .ok (.iload_n 0, 1) := by decide +kernel
theorem dX10_takes_60 : decode cX10_takes 60 = .ok (.iconst 2, 1) := by decide +kernel
theorem dX10_takes_61 : decode cX10_takes 61 = .ok (.if_icmp .ne 16, 3) := by decide +kernel
theorem dX10_takes_64 : decode cX10_takes 64 = .ok (.iload_n 1, 1) := by decide +kernel
theorem dX10_takes_65 : decode cX10_takes 65 = .ok (.iconst 2, 1) := by decide +kernel
theorem dX10_takes_66 : decode cX10_takes 66 = .ok (.if_icmp .ne 7, 3) := by decide +kernel
theorem dX10_takes_69 : decode cX10_takes 69 = .ok (.iconst 1, 1) := by decide +kernel
theorem dX10_takes_70 : decode cX10_takes 70 = .ok (.goto 8, 3) := by decide +kernel
theorem dX10_takes_73 : decode cX10_takes 73 = .ok (.iconst 0, 1) := by decide +kernel
theorem dX10_takes_74 : decode cX10_takes 74 = .ok (.goto 4, 3) := by decide +kernel
theorem dX10_takes_77 : decode cX10_takes 77 = .ok (.iload_n 2, 1) := by decide +kernel
theorem dX10_takes_78 : decode cX10_takes 78 = .ok (.ireturn, 1) := by decide +kernel
theorem dX10_shelve_0 : decode cX10_shelve 0 = .ok (.iload_n 1, 1) := by decide +kernel
theorem dX10_shelve_1 : decode cX10_shelve 1 = .ok (.i2l, 1) := by decide +kernel
theorem dX10_shelve_2 : decode cX10_shelve 2 = .ok (.lconst 0, 1) := by decide +kernel
theorem dX10_shelve_3 : decode cX10_shelve 3 = .ok (.ldc2_w 219, 3) := by decide +kernel
theorem dX10_shelve_6 : decode cX10_shelve 6 = .ok (.invokestatic 63, 3) := by decide +kernel
theorem dX10_shelve_9 : decode cX10_shelve 9 = .ok (.ifCond .eq 11, 3) := by decide +kernel
theorem dX10_shelve_12 : decode cX10_shelve 12 = .ok (.aload_n 0, 1) := by decide +kernel
theorem dX10_shelve_13 : decode cX10_shelve 13 = .ok (.iload_n 3, 1) := by decide +kernel
theorem dX10_shelve_14 : decode cX10_shelve 14 = .ok (.invokevirtual 164, 3) := by decide +kernel
theorem dX10_shelve_17 : decode cX10_shelve 17 = .ok (.ifCond .ne 8, 3) := by decide +kernel
theorem dX10_shelve_20 : decode cX10_shelve 20 = .ok (.bipush (-101), 2) := by decide +kernel
theorem dX10_shelve_22 : decode cX10_shelve 22 = .ok (.goto 14, 3) := by decide +kernel
theorem dX10_shelve_25 : decode cX10_shelve 25 = .ok (.aload_n 0, 1) := by decide +kernel
theorem dX10_shelve_26 : decode cX10_shelve 26 = .ok (.aload_n 0, 1) := by decide +kernel
theorem dX10_shelve_27 : decode cX10_shelve 27 = .ok (.iload_n 1, 1) := by decide +kernel
theorem dX10_shelve_28 : decode cX10_shelve 28 = .ok (.iload_n 2, 1) := by decide +kernel
theorem dX10_shelve_29 : decode cX10_shelve 29 = .ok (.iload_n 3, 1) := by decide +kernel
theorem dX10_shelve_30 : decode cX10_shelve 30 = .ok (.invokevirtual 221, 3) := by decide +kernel
theorem dX10_shelve_33 : decode cX10_shelve 33 = .ok (.invokevirtual 155, 3) := by decide +kernel
theorem dX10_shelve_36 : decode cX10_shelve 36 = .ok (.ireturn, 1) := by decide +kernel
theorem dX10_shelf_0 : decode cX10_shelf 0 = .ok (.iload_n 1, 1) := by decide +kernel
theorem dX10_shelf_1 : decode cX10_shelf 1 = .ok (.i2l, 1) := by decide +kernel
theorem dX10_shelf_2 : decode cX10_shelf 2 = .ok (.lconst 0, 1) := by decide +kernel
theorem dX10_shelf_3 : decode cX10_shelf 3 = .ok (.ldc2_w 219, 3) := by decide +kernel
theorem dX10_shelf_6 : decode cX10_shelf 6 = .ok (.invokestatic 63, 3) := by decide +kernel
theorem dX10_shelf_9 : decode cX10_shelf 9 = .ok (.ifCond .ne 6, 3) := by decide +kernel
theorem dX10_shelf_12 : decode cX10_shelf 12 = .ok (.bipush (-101), 2) := by decide +kernel
theorem dX10_shelf_14 : decode cX10_shelf 14 = .ok (.ireturn, 1) := by decide +kernel
theorem dX10_shelf_15 : decode cX10_shelf 15 = .ok (.iload_n 2, 1) := by decide +kernel
theorem dX10_shelf_16 : decode cX10_shelf 16 = .ok (.i2l, 1) := by decide +kernel
theorem dX10_shelf_17 : decode cX10_shelf 17 = .ok (.lconst 0, 1) := by decide +kernel
theorem dX10_shelf_18 : decode cX10_shelf 18 = .ok (.ldc2_w 213, 3) := by decide +kernel
theorem dX10_shelf_21 : decode cX10_shelf 21 = .ok (.invokestatic 63, 3) := by decide +kernel
theorem dX10_shelf_24 : decode cX10_shelf 24 = .ok (.istore_n 3, 1) := by decide +kernel
theorem dX10_shelf_25 : decode cX10_shelf 25 = .ok (.aload_n 0, 1) := by decide +kernel
theorem dX10_shelf_26 : decode cX10_shelf 26 = .ok (.iload_n 3, 1) := by decide +kernel
theorem dX10_shelf_27 : decode cX10_shelf 27 = .ok (.ifCond .eq 20, 3) := by decide +kernel
theorem dX10_shelf_30 : decode cX10_shelf 30 = .ok (.aload_n 0, 1) := by decide +kernel
theorem dX10_shelf_31 : decode cX10_shelf 31 = .ok (.getfield 9, 3) := by decide +kernel
theorem dX10_shelf_34 : decode cX10_shelf 34 = .ok (.bipush 44, 2) := by decide +kernel
theorem dX10_shelf_36 : decode cX10_shelf 36 = .ok (.bipush 8, 2) := by decide +kernel
theorem dX10_shelf_38 : decode cX10_shelf 38 = .ok (.iload_n 1, 1) := by decide +kernel
theorem dX10_shelf_39 : decode cX10_shelf 39 = .ok (.imul, 1) := by decide +kernel
theorem dX10_shelf_40 : decode cX10_shelf 40 = .ok (.iadd, 1) := by decide +kernel
theorem dX10_shelf_41 : decode cX10_shelf 41 = .ok (.iload_n 2, 1) := by decide +kernel
theorem dX10_shelf_42 : decode cX10_shelf 42 = .ok (.iadd, 1) := by decide +kernel
theorem dX10_shelf_43 : decode cX10_shelf 43 = .ok (.iaload, 1) := by decide +kernel
theorem dX10_shelf_44 : decode cX10_shelf 44 = .ok (.goto 4, 3) := by decide +kernel
theorem dX10_shelf_47 : decode cX10_shelf 47 = .ok (.iconst (-1), 1) := by decide +kernel
theorem dX10_shelf_48 : decode cX10_shelf 48 = .ok (.putfield 171, 3) := by decide +kernel
theorem dX10_shelf_51 : decode cX10_shelf 51 = .ok (.aload_n 0, 1) := by decide +kernel
theorem dX10_shelf_52 : decode cX10_shelf 52 = .ok (.iload_n 3, 1) := by decide +kernel
theorem dX10_shelf_53 : decode cX10_shelf 53 = .ok (.ifCond .eq 7, 3) := by decide +kernel
theorem dX10_shelf_56 : decode cX10_shelf 56 = .ok (.iconst 0, 1) := by decide +kernel
theorem dX10_shelf_57 : decode cX10_shelf 57 = .ok (.goto 4, 3) := by decide +kernel
theorem dX10_shelf_60 : decode cX10_shelf 60 = .ok (.iconst 2, 1) := by decide +kernel
theorem dX10_shelf_61 : decode cX10_shelf 61 = .ok (.invokevirtual 177, 3) := by decide +kernel
theorem dX10_shelf_64 : decode cX10_shelf 64 = .ok (.ireturn, 1) := by decide +kernel
theorem dX10_step_0 : decode cX10_step 0 = .ok (.iload_n 1, 1) := by decide +kernel
theorem dX10_step_1 : decode cX10_step 1 = .ok (.i2l, 1) := by decide +kernel
theorem dX10_step_2 : decode cX10_step 2 = .ok (.lconst 0, 1) := by decide +kernel
theorem dX10_step_3 : decode cX10_step 3 = .ok (.ldc2_w 224, 3) := by decide +kernel
theorem dX10_step_6 : decode cX10_step 6 = .ok (.invokestatic 63, 3) := by decide +kernel
theorem dX10_step_9 : decode cX10_step 9 = .ok (.ifCond .ne 6, 3) := by decide +kernel
theorem dX10_step_12 : decode cX10_step 12 = .ok (.bipush (-102), 2) := by decide +kernel
theorem dX10_step_14 : decode cX10_step 14 = .ok (.ireturn, 1) := by decide +kernel
theorem dX10_step_15 : decode cX10_step 15 = .ok (.aload_n 0, 1) := by decide +kernel
theorem dX10_step_16 : decode cX10_step 16 = .ok (.invokevirtual 226, 3) := by decide +kernel
theorem dX10_step_19 : decode cX10_step 19 = .ok (.aload_n 0, 1) := by decide +kernel
theorem dX10_step_20 : decode cX10_step 20 = .ok (.iload_n 1, 1) := by decide +kernel
theorem dX10_step_21 : decode cX10_step 21 = .ok (.invokevirtual 229, 3) := by decide +kernel
theorem dX10_step_24 : decode cX10_step 24 = .ok (.ireturn, 1) := by decide +kernel
theorem dX10_cycle_0 : decode cX10_cycle 0 = .ok (.aload_n 0, 1) := by decide +kernel
theorem dX10_cycle_1 : decode cX10_cycle 1 = .ok (.invokevirtual 147, 3) := by decide +kernel
theorem dX10_cycle_4 : decode cX10_cycle 4 = .ok (.ireturn, 1) := by decide +kernel
theorem dX10_phase_0 : decode cX10_phase 0 = .ok (.aload_n 0, 1) := by decide +kernel
theorem dX10_phase_1 : decode cX10_phase 1 = .ok (.getfield 9, 3) := by decide +kernel
theorem dX10_phase_4 : decode cX10_phase 4 = .ok (.iconst 3, 1) := by decide +kernel
theorem dX10_phase_5 : decode cX10_phase 5 = .ok (.iaload, 1) := by decide +kernel
theorem dX10_phase_6 : decode cX10_phase 6 = .ok (.ireturn, 1) := by decide +kernel
theorem dX10_marked_0 : decode cX10_marked 0 = .ok (.aload_n 0, 1) := by decide +kernel
theorem dX10_marked_1 : decode cX10_marked 1 = .ok (.iload_n 1, 1) := by decide +kernel
theorem dX10_marked_2 : decode cX10_marked 2 = .ok (.invokevirtual 67, 3) := by decide +kernel
theorem dX10_marked_5 : decode cX10_marked 5 = .ok (.ifCond .ne 8, 3) := by decide +kernel
theorem dX10_marked_8 : decode cX10_marked 8 = .ok (.bipush (-101), 2) := by decide +kernel
theorem dX10_marked_10 : decode cX10_marked 10 = .ok (.goto 28, 3) := by decide +kernel
theorem dX10_marked_13 : decode cX10_marked 13 = .ok (.aload_n 0, 1) := by decide +kernel
theorem dX10_marked_14 : decode cX10_marked 14 = .ok (.aload_n 0, 1) := by decide +kernel
theorem dX10_marked_15 : decode cX10_marked 15 = .ok (.iload_n 1, 1) := by decide +kernel
theorem dX10_marked_16 : decode cX10_marked 16 = .ok (.invokevirtual 158, 3) := by decide +kernel
theorem dX10_marked_19 : decode cX10_marked 19 = .ok (.ifCond .eq 10, 3) := by decide +kernel
theorem dX10_marked_22 : decode cX10_marked 22 = .ok (.iconst 1, 1) := by decide +kernel
theorem dX10_marked_23 : decode cX10_marked 23 = .ok (.invokestatic 141, 3) := by decide +kernel
theorem dX10_marked_26 : decode cX10_marked 26 = .ok (.goto 9, 3) := by decide +kernel
theorem dX10_marked_29 : decode cX10_marked 29 = .ok (.aload_n 0, 1) := by decide +kernel
theorem dX10_marked_30 : decode cX10_marked 30 = .ok (.iload_n 1, 1) := by decide +kernel
theorem dX10_marked_31 : decode cX10_marked 31 = .ok (.iconst 5, 1) := by decide +kernel
theorem dX10_marked_32 : decode cX10_marked 32 = .ok (.invokevirtual 71, 3) := by decide +kernel
theorem dX10_marked_35 : decode cX10_marked 35 = .ok (.invokevirtual 155, 3) := by decide +kernel
theorem dX10_marked_38 : decode cX10_marked 38 = .ok (.ireturn, 1) := by decide +kernel
theorem dX10_moved_0 : decode cX10_moved 0 = .ok (.aload_n 0, 1) := by decide +kernel
theorem dX10_moved_1 : decode cX10_moved 1 = .ok (.iload_n 1, 1) := by decide +kernel
theorem dX10_moved_2 : decode cX10_moved 2 = .ok (.invokevirtual 67, 3) := by decide +kernel
theorem dX10_moved_5 : decode cX10_moved 5 = .ok (.ifCond .ne 8, 3) := by decide +kernel
theorem dX10_moved_8 : decode cX10_moved 8 = .ok (.bipush (-101), 2) := by decide +kernel
theorem dX10_moved_10 : decode cX10_moved 10 = .ok (.goto 28, 3) := by decide +kernel
theorem dX10_moved_13 : decode cX10_moved 13 = .ok (.aload_n 0, 1) := by decide +kernel
theorem dX10_moved_14 : decode cX10_moved 14 = .ok (.aload_n 0, 1) := by decide +kernel
theorem dX10_moved_15 : decode cX10_moved 15 = .ok (.iload_n 1, 1) := by decide +kernel
theorem dX10_moved_16 : decode cX10_moved 16 = .ok (.invokevirtual 158, 3) := by decide +kernel
theorem dX10_moved_19 : decode cX10_moved 19 = .ok (.ifCond .eq 10, 3) := by decide +kernel
theorem dX10_moved_22 : decode cX10_moved 22 = .ok (.iconst 1, 1) := by decide +kernel
theorem dX10_moved_23 : decode cX10_moved 23 = .ok (.invokestatic 141, 3) := by decide +kernel
theorem dX10_moved_26 : decode cX10_moved 26 = .ok (.goto 9, 3) := by decide +kernel
theorem dX10_moved_29 : decode cX10_moved 29 = .ok (.aload_n 0, 1) := by decide +kernel
theorem dX10_moved_30 : decode cX10_moved 30 = .ok (.iload_n 1, 1) := by decide +kernel
theorem dX10_moved_31 : decode cX10_moved 31 = .ok (.iconst 4, 1) := by decide +kernel
theorem dX10_moved_32 : decode cX10_moved 32 = .ok (.invokevirtual 71, 3) := by decide +kernel
theorem dX10_moved_35 : decode cX10_moved 35 = .ok (.invokevirtual 155, 3) := by decide +kernel
theorem dX10_moved_38 : decode cX10_moved 38 = .ok (.ireturn, 1) := by decide +kernel
theorem dX10_told_0 : decode cX10_told 0 = .ok (.iload_n 2, 1) := by decide +kernel
theorem dX10_told_1 : decode cX10_told 1 = .ok (.i2l, 1) := by decide +kernel
theorem dX10_told_2 : decode cX10_told 2 = .ok (.lconst 0, 1) := by decide +kernel
theorem dX10_told_3 : decode cX10_told 3 = .ok (.ldc2_w 232, 3) := by decide +kernel
theorem dX10_told_6 : decode cX10_told 6 = .ok (.invokestatic 63, 3) := by decide +kernel
theorem dX10_told_9 : decode cX10_told 9 = .ok (.ifCond .ne 6, 3) := by decide +kernel
theorem dX10_told_12 : decode cX10_told 12 = .ok (.bipush (-102), 2) := by decide +kernel
theorem dX10_told_14 : decode cX10_told 14 = .ok (.ireturn, 1) := by decide +kernel
theorem dX10_told_15 : decode cX10_told 15 = .ok (.aload_n 0, 1) := by decide +kernel
theorem dX10_told_16 : decode cX10_told 16 = .ok (.getfield 9, 3) := by decide +kernel
theorem dX10_told_19 : decode cX10_told 19 = .ok (.bipush 10, 2) := by decide +kernel
theorem dX10_told_21 : decode cX10_told 21 = .ok (.iaload, 1) := by decide +kernel
theorem dX10_told_22 : decode cX10_told 22 = .ok (.bipush 100, 2) := by decide +kernel
theorem dX10_told_24 : decode cX10_told 24 = .ok (.if_icmp .ge 13, 3) := by decide +kernel
theorem dX10_told_27 : decode cX10_told 27 = .ok (.aload_n 0, 1) := by decide +kernel
theorem dX10_told_28 : decode cX10_told 28 = .ok (.getfield 9, 3) := by decide +kernel
theorem dX10_told_31 : decode cX10_told 31 = .ok (.bipush 10, 2) := by decide +kernel
theorem dX10_told_33 : decode cX10_told 33 = .ok (.iaload, 1) := by decide +kernel
theorem dX10_told_34 : decode cX10_told 34 = .ok (.goto 5, 3) := by decide +kernel
theorem dX10_told_37 : decode cX10_told 37 = .ok (.bipush 100, 2) := by decide +kernel
theorem dX10_told_39 : decode cX10_told 39 = .ok (.istore_n 3, 1) := by decide +kernel
theorem dX10_told_40 : decode cX10_told 40 = .ok (.iload_n 1, 1) := by decide +kernel
theorem dX10_told_41 : decode cX10_told 41 = .ok (.i2l, 1) := by decide +kernel
theorem dX10_told_42 : decode cX10_told 42 = .ok (.lconst 0, 1) := by decide +kernel
theorem dX10_told_43 : decode cX10_told 43 = .ok (.iload_n 3, 1) := by decide +kernel
theorem dX10_told_44 : decode cX10_told 44 = .ok (.iconst 1, 1) := by decide +kernel
theorem dX10_told_45 : decode cX10_told 45 = .ok (.isub, 1) := by decide +kernel
theorem dX10_told_46 : decode cX10_told 46 = .ok (.i2l, 1) := by decide +kernel
theorem dX10_told_47 : decode cX10_told 47 = .ok (.invokestatic 63, 3) := by decide +kernel
theorem dX10_told_50 : decode cX10_told 50 = .ok (.ifCond .eq 19, 3) := by decide +kernel
theorem dX10_told_53 : decode cX10_told 53 = .ok (.aload_n 0, 1) := by decide +kernel
theorem dX10_told_54 : decode cX10_told 54 = .ok (.getfield 9, 3) := by decide +kernel
theorem dX10_told_57 : decode cX10_told 57 = .ok (.bipush 100, 2) := by decide +kernel
theorem dX10_told_59 : decode cX10_told 59 = .ok (.iconst 3, 1) := by decide +kernel
theorem dX10_told_60 : decode cX10_told 60 = .ok (.iload_n 1, 1) := by decide +kernel
theorem dX10_told_61 : decode cX10_told 61 = .ok (.imul, 1) := by decide +kernel
theorem dX10_told_62 : decode cX10_told 62 = .ok (.iadd, 1) := by decide +kernel
theorem dX10_told_63 : decode cX10_told 63 = .ok (.iload_n 2, 1) := by decide +kernel
theorem dX10_told_64 : decode cX10_told 64 = .ok (.iadd, 1) := by decide +kernel
theorem dX10_told_65 : decode cX10_told 65 = .ok (.iaload, 1) := by decide +kernel
theorem dX10_told_66 : decode cX10_told 66 = .ok (.goto 4, 3) := by decide +kernel
theorem dX10_told_69 : decode cX10_told 69 = .ok (.iconst (-1), 1) := by decide +kernel
theorem dX10_told_70 : decode cX10_told 70 = .ok (.ireturn, 1) := by decide +kernel
theorem dX10_notThrough_0 : decode cX10_notThrough 0 = .ok (.iconst 0, 1) := by decide +kernel
theorem dX10_notThrough_1 : decode cX10_notThrough 1 = .ok (.istore_n 1, 1) := by decide +kernel
theorem dX10_notThrough_2 : decode cX10_notThrough 2 = .ok (.iconst 0, 1) := by decide +kernel
theorem dX10_notThrough_3 : decode cX10_notThrough 3 = .ok (.istore_n 2, 1) := by decide +kernel
theorem dX10_notThrough_4 : decode cX10_notThrough 4 = .ok (.iload_n 2, 1) := by decide +kernel
theorem dX10_notThrough_5 : decode cX10_notThrough 5 = .ok (.aload_n 0, 1) := by decide +kernel
theorem dX10_notThrough_6 : decode cX10_notThrough 6 = .ok (.getfield 9, 3) := by decide +kernel
theorem dX10_notThrough_9 : decode cX10_notThrough 9 = .ok (.iconst 4, 1) := by decide +kernel
theorem dX10_notThrough_10 : decode cX10_notThrough 10 = .ok (.iaload, 1) := by decide +kernel
theorem dX10_notThrough_11 : decode cX10_notThrough 11 = .ok (.if_icmp .ge 43, 3) := by decide +kernel
theorem dX10_notThrough_14 : decode cX10_notThrough 14 = .ok (.aload_n 0, 1) := by decide +kernel
theorem dX10_notThrough_15 : decode cX10_notThrough 15 = .ok (.getfield 9, 3) := by decide +kernel
theorem dX10_notThrough_18 : decode cX10_notThrough 18 = .ok (.sipush 600, 3) := by decide +kernel
theorem dX10_notThrough_21 : decode cX10_notThrough 21 = .ok (.iload_n 2, 1) := by decide +kernel
theorem dX10_notThrough_22 : decode cX10_notThrough 22 = .ok (.iadd, 1) := by decide +kernel
theorem dX10_notThrough_23 : decode cX10_notThrough 23 = .ok (.iaload, 1) := by decide +kernel
theorem dX10_notThrough_24 : decode cX10_notThrough 24 = .ok (.istore_n 3, 1) := by decide +kernel
theorem dX10_notThrough_25 : decode cX10_notThrough 25 = .ok (.iload_n 1, 1) := by decide +kernel
theorem dX10_notThrough_26 : decode cX10_notThrough 26 = .ok (.aload_n 0, 1) := by decide +kernel
theorem dX10_notThrough_27 : decode cX10_notThrough 27 = .ok (.iload_n 3, 1) := by decide +kernel
theorem dX10_notThrough_28 : decode cX10_notThrough 28 = .ok (.bipush 9, 2) := by decide +kernel
theorem dX10_notThrough_30 : decode cX10_notThrough 30 = .ok (.invokevirtual 71, 3) := by decide +kernel
theorem dX10_notThrough_33 : decode cX10_notThrough 33 = .ok (.aload_n 0, 1) := by decide +kernel
theorem dX10_notThrough_34 : decode cX10_notThrough 34 = .ok (.iload_n 3, 1) := by decide +kernel
theorem dX10_notThrough_35 : decode cX10_notThrough 35 = .ok (.invokevirtual 90, 3) := by decide +kernel
theorem dX10_notThrough_38 : decode cX10_notThrough 38 = .ok (.if_icmp .ge 7, 3) := by decide +kernel
theorem dX10_notThrough_41 : decode cX10_notThrough 41 = .ok (.iconst 1, 1) := by decide +kernel
theorem dX10_notThrough_42 : decode cX10_notThrough 42 = .ok (.goto 4, 3) := by decide +kernel
theorem dX10_notThrough_45 : decode cX10_notThrough 45 = .ok (.iconst 0, 1) := by decide +kernel
theorem dX10_notThrough_46 : decode cX10_notThrough 46 = .ok (.iadd, 1) := by decide +kernel
theorem dX10_notThrough_47 : decode cX10_notThrough 47 = .ok (.istore_n 1, 1) := by decide +kernel
theorem dX10_notThrough_48 : decode cX10_notThrough 48 = .ok (.iinc 2 1, 3) := by decide +kernel
theorem dX10_notThrough_51 : decode cX10_notThrough 51 = .ok (.goto (-47), 3) := by decide +kernel
theorem dX10_notThrough_54 : decode cX10_notThrough 54 = .ok (.iload_n 1, 1) := by decide +kernel
theorem dX10_notThrough_55 : decode cX10_notThrough 55 = .ok (.ireturn, 1) := by decide +kernel
theorem dX10_about_0 : decode cX10_about 0 = .ok (.iload_n 1, 1) := by decide +kernel
theorem dX10_about_1 : decode cX10_about 1 = .ok (.tableswitch 206 0 15 #[79, 86, 101, 108, 115, 122, 130, 138, 146, 154, 162, 169, 174, 182, 190, 198], 79) := by decide +kernel
theorem dX10_about_80 : decode cX10_about 80 = .ok (.aload_n 0, 1) := by decide +kernel
theorem dX10_about_81 : decode cX10_about 81 = .ok (.getfield 9, 3) := by decide +kernel
theorem dX10_about_84 : decode cX10_about 84 = .ok (.iconst 0, 1) := by decide +kernel
theorem dX10_about_85 : decode cX10_about 85 = .ok (.iaload, 1) := by decide +kernel
theorem dX10_about_86 : decode cX10_about 86 = .ok (.ireturn, 1) := by decide +kernel
theorem dX10_about_87 : decode cX10_about 87 = .ok (.aload_n 0, 1) := by decide +kernel
theorem dX10_about_88 : decode cX10_about 88 = .ok (.getfield 9, 3) := by decide +kernel
theorem dX10_about_91 : decode cX10_about 91 = .ok (.iconst 0, 1) := by decide +kernel
theorem dX10_about_92 : decode cX10_about 92 = .ok (.iaload, 1) := by decide +kernel
theorem dX10_about_93 : decode cX10_about 93 = .ok (.aload_n 0, 1) := by decide +kernel
theorem dX10_about_94 : decode cX10_about 94 = .ok (.getfield 9, 3) := by decide +kernel
theorem dX10_about_97 : decode cX10_about 97 = .ok (.bipush 16, 2) := by decide +kernel
theorem dX10_about_99 : decode cX10_about 99 = .ok (.iaload, 1) := by decide +kernel
theorem dX10_about_100 : decode cX10_about 100 = .ok (.isub, 1) := by decide +kernel
theorem dX10_about_101 : decode cX10_about 101 = .ok (.ireturn, 1) := by decide +kernel
theorem dX10_about_102 : decode cX10_about 102 = .ok (.aload_n 0, 1) := by decide +kernel
theorem dX10_about_103 : decode cX10_about 103 = .ok (.getfield 9, 3) := by decide +kernel
theorem dX10_about_106 : decode cX10_about 106 = .ok (.iconst 1, 1) := by decide +kernel
theorem dX10_about_107 : decode cX10_about 107 = .ok (.iaload, 1) := by decide +kernel
theorem dX10_about_108 : decode cX10_about 108 = .ok (.ireturn, 1) := by decide +kernel
theorem dX10_about_109 : decode cX10_about 109 = .ok (.aload_n 0, 1) := by decide +kernel
theorem dX10_about_110 : decode cX10_about 110 = .ok (.getfield 9, 3) := by decide +kernel
theorem dX10_about_113 : decode cX10_about 113 = .ok (.iconst 2, 1) := by decide +kernel
theorem dX10_about_114 : decode cX10_about 114 = .ok (.iaload, 1) := by decide +kernel
theorem dX10_about_115 : decode cX10_about 115 = .ok (.ireturn, 1) := by decide +kernel
theorem dX10_about_116 : decode cX10_about 116 = .ok (.aload_n 0, 1) := by decide +kernel
theorem dX10_about_117 : decode cX10_about 117 = .ok (.getfield 9, 3) := by decide +kernel
theorem dX10_about_120 : decode cX10_about 120 = .ok (.iconst 5, 1) := by decide +kernel
theorem dX10_about_121 : decode cX10_about 121 = .ok (.iaload, 1) := by decide +kernel
theorem dX10_about_122 : decode cX10_about 122 = .ok (.ireturn, 1) := by decide +kernel
theorem dX10_about_123 : decode cX10_about 123 = .ok (.aload_n 0, 1) := by decide +kernel
theorem dX10_about_124 : decode cX10_about 124 = .ok (.getfield 9, 3) := by decide +kernel
theorem dX10_about_127 : decode cX10_about 127 = .ok (.bipush 6, 2) := by decide +kernel
theorem dX10_about_129 : decode cX10_about 129 = .ok (.iaload, 1) := by decide +kernel
theorem dX10_about_130 : decode cX10_about 130 = .ok (.ireturn, 1) := by decide +kernel
theorem dX10_about_131 : decode cX10_about 131 = .ok (.aload_n 0, 1) := by decide +kernel
theorem dX10_about_132 : decode cX10_about 132 = .ok (.getfield 9, 3) := by decide +kernel
theorem dX10_about_135 : decode cX10_about 135 = .ok (.bipush 7, 2) := by decide +kernel
theorem dX10_about_137 : decode cX10_about 137 = .ok (.iaload, 1) := by decide +kernel
theorem dX10_about_138 : decode cX10_about 138 = .ok (.ireturn, 1) := by decide +kernel
theorem dX10_about_139 : decode cX10_about 139 = .ok (.aload_n 0, 1) := by decide +kernel
theorem dX10_about_140 : decode cX10_about 140 = .ok (.getfield 9, 3) := by decide +kernel
theorem dX10_about_143 : decode cX10_about 143 = .ok (.bipush 8, 2) := by decide +kernel
theorem dX10_about_145 : decode cX10_about 145 = .ok (.iaload, 1) := by decide +kernel
theorem dX10_about_146 : decode cX10_about 146 = .ok (.ireturn, 1) := by decide +kernel
theorem dX10_about_147 : decode cX10_about 147 = .ok (.aload_n 0, 1) := by decide +kernel
theorem dX10_about_148 : decode cX10_about 148 = .ok (.getfield 9, 3) := by decide +kernel
theorem dX10_about_151 : decode cX10_about 151 = .ok (.bipush 9, 2) := by decide +kernel
theorem dX10_about_153 : decode cX10_about 153 = .ok (.iaload, 1) := by decide +kernel
theorem dX10_about_154 : decode cX10_about 154 = .ok (.ireturn, 1) := by decide +kernel
theorem dX10_about_155 : decode cX10_about 155 = .ok (.aload_n 0, 1) := by decide +kernel
theorem dX10_about_156 : decode cX10_about 156 = .ok (.getfield 9, 3) := by decide +kernel
theorem dX10_about_159 : decode cX10_about 159 = .ok (.bipush 10, 2) := by decide +kernel
theorem dX10_about_161 : decode cX10_about 161 = .ok (.iaload, 1) := by decide +kernel
theorem dX10_about_162 : decode cX10_about 162 = .ok (.ireturn, 1) := by decide +kernel
theorem dX10_about_163 : decode cX10_about 163 = .ok (.aload_n 0, 1) := by decide +kernel
theorem dX10_about_164 : decode cX10_about 164 = .ok (.getfield 9, 3) := by decide +kernel
theorem dX10_about_167 : decode cX10_about 167 = .ok (.iconst 4, 1) := by decide +kernel
theorem dX10_about_168 : decode cX10_about 168 = .ok (.iaload, 1) := by decide +kernel
theorem dX10_about_169 : decode cX10_about 169 = .ok (.ireturn, 1) := by decide +kernel
theorem dX10_about_170 : decode cX10_about 170 = .ok (.aload_n 0, 1) := by decide +kernel
theorem dX10_about_171 : decode cX10_about 171 = .ok (.invokevirtual 234, 3) := by decide +kernel
theorem dX10_about_174 : decode cX10_about 174 = .ok (.ireturn, 1) := by decide +kernel
theorem dX10_about_175 : decode cX10_about 175 = .ok (.aload_n 0, 1) := by decide +kernel
theorem dX10_about_176 : decode cX10_about 176 = .ok (.getfield 9, 3) := by decide +kernel
theorem dX10_about_179 : decode cX10_about 179 = .ok (.bipush 11, 2) := by decide +kernel
theorem dX10_about_181 : decode cX10_about 181 = .ok (.iaload, 1) := by decide +kernel
theorem dX10_about_182 : decode cX10_about 182 = .ok (.ireturn, 1) := by decide +kernel
theorem dX10_about_183 : decode cX10_about 183 = .ok (.aload_n 0, 1) := by decide +kernel
theorem dX10_about_184 : decode cX10_about 184 = .ok (.getfield 9, 3) := by decide +kernel
theorem dX10_about_187 : decode cX10_about 187 = .ok (.bipush 12, 2) := by decide +kernel
theorem dX10_about_189 : decode cX10_about 189 = .ok (.iaload, 1) := by decide +kernel
theorem dX10_about_190 : decode cX10_about 190 = .ok (.ireturn, 1) := by decide +kernel
theorem dX10_about_191 : decode cX10_about 191 = .ok (.aload_n 0, 1) := by decide +kernel
theorem dX10_about_192 : decode cX10_about 192 = .ok (.getfield 9, 3) := by decide +kernel
theorem dX10_about_195 : decode cX10_about 195 = .ok (.bipush 13, 2) := by decide +kernel
theorem dX10_about_197 : decode cX10_about 197 = .ok (.iaload, 1) := by decide +kernel
theorem dX10_about_198 : decode cX10_about 198 = .ok (.ireturn, 1) := by decide +kernel
theorem dX10_about_199 : decode cX10_about 199 = .ok (.aload_n 0, 1) := by decide +kernel
theorem dX10_about_200 : decode cX10_about 200 = .ok (.getfield 9, 3) := by decide +kernel
theorem dX10_about_203 : decode cX10_about 203 = .ok (.bipush 14, 2) := by decide +kernel
theorem dX10_about_205 : decode cX10_about 205 = .ok (.iaload, 1) := by decide +kernel
theorem dX10_about_206 : decode cX10_about 206 = .ok (.ireturn, 1) := by decide +kernel
theorem dX10_about_207 : decode cX10_about 207 = .ok (.bipush (-102), 2) := by decide +kernel
theorem dX10_about_209 : decode cX10_about 209 = .ok (.ireturn, 1) := by decide +kernel
theorem dX10_word_0 : decode cX10_word 0 = .ok (.iload_n 1, 1) := by decide +kernel
theorem dX10_word_1 : decode cX10_word 1 = .ok (.i2l, 1) := by decide +kernel
theorem dX10_word_2 : decode cX10_word 2 = .ok (.lconst 0, 1) := by decide +kernel
theorem dX10_word_3 : decode cX10_word 3 = .ok (.aload_n 0, 1) := by decide +kernel
theorem dX10_word_4 : decode cX10_word 4 = .ok (.getfield 9, 3) := by decide +kernel
theorem dX10_word_7 : decode cX10_word 7 = .ok (.iconst 0, 1) := by decide +kernel
theorem dX10_word_8 : decode cX10_word 8 = .ok (.iaload, 1) := by decide +kernel
theorem dX10_word_9 : decode cX10_word 9 = .ok (.iconst 1, 1) := by decide +kernel
theorem dX10_word_10 : decode cX10_word 10 = .ok (.isub, 1) := by decide +kernel
theorem dX10_word_11 : decode cX10_word 11 = .ok (.i2l, 1) := by decide +kernel
theorem dX10_word_12 : decode cX10_word 12 = .ok (.invokestatic 63, 3) := by decide +kernel
theorem dX10_word_15 : decode cX10_word 15 = .ok (.ifCond .eq 16, 3) := by decide +kernel
theorem dX10_word_18 : decode cX10_word 18 = .ok (.aload_n 0, 1) := by decide +kernel
theorem dX10_word_19 : decode cX10_word 19 = .ok (.getfield 9, 3) := by decide +kernel
theorem dX10_word_22 : decode cX10_word 22 = .ok (.sipush 6100, 3) := by decide +kernel
theorem dX10_word_25 : decode cX10_word 25 = .ok (.iload_n 1, 1) := by decide +kernel
theorem dX10_word_26 : decode cX10_word 26 = .ok (.iadd, 1) := by decide +kernel
theorem dX10_word_27 : decode cX10_word 27 = .ok (.iaload, 1) := by decide +kernel
theorem dX10_word_28 : decode cX10_word 28 = .ok (.goto 5, 3) := by decide +kernel
theorem dX10_word_31 : decode cX10_word 31 = .ok (.bipush (-102), 2) := by decide +kernel
theorem dX10_word_33 : decode cX10_word 33 = .ok (.ireturn, 1) := by decide +kernel
theorem dX10_digest_0 : decode cX10_digest 0 = .ok (.bipush 7, 2) := by decide +kernel
theorem dX10_digest_2 : decode cX10_digest 2 = .ok (.istore_n 1, 1) := by decide +kernel
theorem dX10_digest_3 : decode cX10_digest 3 = .ok (.iconst 0, 1) := by decide +kernel
theorem dX10_digest_4 : decode cX10_digest 4 = .ok (.istore_n 2, 1) := by decide +kernel
theorem dX10_digest_5 : decode cX10_digest 5 = .ok (.iload_n 2, 1) := by decide +kernel
theorem dX10_digest_6 : decode cX10_digest 6 = .ok (.aload_n 0, 1) := by decide +kernel
theorem dX10_digest_7 : decode cX10_digest 7 = .ok (.getfield 9, 3) := by decide +kernel
theorem dX10_digest_10 : decode cX10_digest 10 = .ok (.bipush 16, 2) := by decide +kernel
theorem dX10_digest_12 : decode cX10_digest 12 = .ok (.iaload, 1) := by decide +kernel
theorem dX10_digest_13 : decode cX10_digest 13 = .ok (.if_icmp .ge 25, 3) := by decide +kernel
theorem dX10_digest_16 : decode cX10_digest 16 = .ok (.bipush 31, 2) := by decide +kernel
theorem dX10_digest_18 : decode cX10_digest 18 = .ok (.iload_n 1, 1) := by decide +kernel
theorem dX10_digest_19 : decode cX10_digest 19 = .ok (.imul, 1) := by decide +kernel
theorem dX10_digest_20 : decode cX10_digest 20 = .ok (.aload_n 0, 1) := by decide +kernel
theorem dX10_digest_21 : decode cX10_digest 21 = .ok (.getfield 9, 3) := by decide +kernel
theorem dX10_digest_24 : decode cX10_digest 24 = .ok (.sipush 6100, 3) := by decide +kernel
theorem dX10_digest_27 : decode cX10_digest 27 = .ok (.iload_n 2, 1) := by decide +kernel
theorem dX10_digest_28 : decode cX10_digest 28 = .ok (.iadd, 1) := by decide +kernel
theorem dX10_digest_29 : decode cX10_digest 29 = .ok (.iaload, 1) := by decide +kernel
theorem dX10_digest_30 : decode cX10_digest 30 = .ok (.iadd, 1) := by decide +kernel
theorem dX10_digest_31 : decode cX10_digest 31 = .ok (.istore_n 1, 1) := by decide +kernel
theorem dX10_digest_32 : decode cX10_digest 32 = .ok (.iinc 2 1, 3) := by decide +kernel
theorem dX10_digest_35 : decode cX10_digest 35 = .ok (.goto (-30), 3) := by decide +kernel
theorem dX10_digest_38 : decode cX10_digest 38 = .ok (.iconst 0, 1) := by decide +kernel
theorem dX10_digest_39 : decode cX10_digest 39 = .ok (.istore_n 2, 1) := by decide +kernel
theorem dX10_digest_40 : decode cX10_digest 40 = .ok (.iload_n 2, 1) := by decide +kernel
theorem dX10_digest_41 : decode cX10_digest 41 = .ok (.bipush 24, 2) := by decide +kernel
theorem dX10_digest_43 : decode cX10_digest 43 = .ok (.if_icmp .ge 24, 3) := by decide +kernel
theorem dX10_digest_46 : decode cX10_digest 46 = .ok (.bipush 31, 2) := by decide +kernel
theorem dX10_digest_48 : decode cX10_digest 48 = .ok (.iload_n 1, 1) := by decide +kernel
theorem dX10_digest_49 : decode cX10_digest 49 = .ok (.imul, 1) := by decide +kernel
theorem dX10_digest_50 : decode cX10_digest 50 = .ok (.aload_n 0, 1) := by decide +kernel
theorem dX10_digest_51 : decode cX10_digest 51 = .ok (.getfield 9, 3) := by decide +kernel
theorem dX10_digest_54 : decode cX10_digest 54 = .ok (.bipush 20, 2) := by decide +kernel
theorem dX10_digest_56 : decode cX10_digest 56 = .ok (.iload_n 2, 1) := by decide +kernel
theorem dX10_digest_57 : decode cX10_digest 57 = .ok (.iadd, 1) := by decide +kernel
theorem dX10_digest_58 : decode cX10_digest 58 = .ok (.iaload, 1) := by decide +kernel
theorem dX10_digest_59 : decode cX10_digest 59 = .ok (.iadd, 1) := by decide +kernel
theorem dX10_digest_60 : decode cX10_digest 60 = .ok (.istore_n 1, 1) := by decide +kernel
theorem dX10_digest_61 : decode cX10_digest 61 = .ok (.iinc 2 1, 3) := by decide +kernel
theorem dX10_digest_64 : decode cX10_digest 64 = .ok (.goto (-24), 3) := by decide +kernel
theorem dX10_digest_67 : decode cX10_digest 67 = .ok (.bipush 31, 2) := by decide +kernel
theorem dX10_digest_69 : decode cX10_digest 69 = .ok (.iload_n 1, 1) := by decide +kernel
theorem dX10_digest_70 : decode cX10_digest 70 = .ok (.imul, 1) := by decide +kernel
theorem dX10_digest_71 : decode cX10_digest 71 = .ok (.aload_n 0, 1) := by decide +kernel
theorem dX10_digest_72 : decode cX10_digest 72 = .ok (.getfield 9, 3) := by decide +kernel
theorem dX10_digest_75 : decode cX10_digest 75 = .ok (.iconst 3, 1) := by decide +kernel
theorem dX10_digest_76 : decode cX10_digest 76 = .ok (.iaload, 1) := by decide +kernel
theorem dX10_digest_77 : decode cX10_digest 77 = .ok (.iadd, 1) := by decide +kernel
theorem dX10_digest_78 : decode cX10_digest 78 = .ok (.ireturn, 1) := by decide +kernel
theorem dX10_sum_0 : decode cX10_sum 0 = .ok (.iconst 1, 1) := by decide +kernel
theorem dX10_sum_1 : decode cX10_sum 1 = .ok (.istore_n 1, 1) := by decide +kernel
theorem dX10_sum_2 : decode cX10_sum 2 = .ok (.iconst 0, 1) := by decide +kernel
theorem dX10_sum_3 : decode cX10_sum 3 = .ok (.istore_n 2, 1) := by decide +kernel
theorem dX10_sum_4 : decode cX10_sum 4 = .ok (.iload_n 2, 1) := by decide +kernel
theorem dX10_sum_5 : decode cX10_sum 5 = .ok (.aload_n 0, 1) := by decide +kernel
theorem dX10_sum_6 : decode cX10_sum 6 = .ok (.getfield 9, 3) := by decide +kernel
theorem dX10_sum_9 : decode cX10_sum 9 = .ok (.bipush 15, 2) := by decide +kernel
theorem dX10_sum_11 : decode cX10_sum 11 = .ok (.iaload, 1) := by decide +kernel
theorem dX10_sum_12 : decode cX10_sum 12 = .ok (.if_icmp .ge 25, 3) := by decide +kernel
theorem dX10_sum_15 : decode cX10_sum 15 = .ok (.bipush 31, 2) := by decide +kernel
theorem dX10_sum_17 : decode cX10_sum 17 = .ok (.iload_n 1, 1) := by decide +kernel
theorem dX10_sum_18 : decode cX10_sum 18 = .ok (.imul, 1) := by decide +kernel
theorem dX10_sum_19 : decode cX10_sum 19 = .ok (.aload_n 0, 1) := by decide +kernel
theorem dX10_sum_20 : decode cX10_sum 20 = .ok (.getfield 9, 3) := by decide +kernel
theorem dX10_sum_23 : decode cX10_sum 23 = .ok (.sipush 10100, 3) := by decide +kernel
theorem dX10_sum_26 : decode cX10_sum 26 = .ok (.iload_n 2, 1) := by decide +kernel
theorem dX10_sum_27 : decode cX10_sum 27 = .ok (.iadd, 1) := by decide +kernel
theorem dX10_sum_28 : decode cX10_sum 28 = .ok (.iaload, 1) := by decide +kernel
theorem dX10_sum_29 : decode cX10_sum 29 = .ok (.iadd, 1) := by decide +kernel
theorem dX10_sum_30 : decode cX10_sum 30 = .ok (.istore_n 1, 1) := by decide +kernel
theorem dX10_sum_31 : decode cX10_sum 31 = .ok (.iinc 2 1, 3) := by decide +kernel
theorem dX10_sum_34 : decode cX10_sum 34 = .ok (.goto (-30), 3) := by decide +kernel
theorem dX10_sum_37 : decode cX10_sum 37 = .ok (.iload_n 1, 1) := by decide +kernel
theorem dX10_sum_38 : decode cX10_sum 38 = .ok (.ireturn, 1) := by decide +kernel
theorem dX10_rows_0 : decode cX10_rows 0 = .ok (.aload_n 0, 1) := by decide +kernel
theorem dX10_rows_1 : decode cX10_rows 1 = .ok (.getfield 9, 3) := by decide +kernel
theorem dX10_rows_4 : decode cX10_rows 4 = .ok (.bipush 15, 2) := by decide +kernel
theorem dX10_rows_6 : decode cX10_rows 6 = .ok (.iaload, 1) := by decide +kernel
theorem dX10_rows_7 : decode cX10_rows 7 = .ok (.ireturn, 1) := by decide +kernel
theorem dX10_row_0 : decode cX10_row 0 = .ok (.iload_n 1, 1) := by decide +kernel
theorem dX10_row_1 : decode cX10_row 1 = .ok (.i2l, 1) := by decide +kernel
theorem dX10_row_2 : decode cX10_row 2 = .ok (.lconst 0, 1) := by decide +kernel
theorem dX10_row_3 : decode cX10_row 3 = .ok (.aload_n 0, 1) := by decide +kernel
theorem dX10_row_4 : decode cX10_row 4 = .ok (.getfield 9, 3) := by decide +kernel
theorem dX10_row_7 : decode cX10_row 7 = .ok (.bipush 15, 2) := by decide +kernel
theorem dX10_row_9 : decode cX10_row 9 = .ok (.iaload, 1) := by decide +kernel
theorem dX10_row_10 : decode cX10_row 10 = .ok (.iconst 1, 1) := by decide +kernel
theorem dX10_row_11 : decode cX10_row 11 = .ok (.isub, 1) := by decide +kernel
theorem dX10_row_12 : decode cX10_row 12 = .ok (.i2l, 1) := by decide +kernel
theorem dX10_row_13 : decode cX10_row 13 = .ok (.invokestatic 63, 3) := by decide +kernel
theorem dX10_row_16 : decode cX10_row 16 = .ok (.ifCond .eq 16, 3) := by decide +kernel
theorem dX10_row_19 : decode cX10_row 19 = .ok (.aload_n 0, 1) := by decide +kernel
theorem dX10_row_20 : decode cX10_row 20 = .ok (.getfield 9, 3) := by decide +kernel
theorem dX10_row_23 : decode cX10_row 23 = .ok (.sipush 10100, 3) := by decide +kernel
theorem dX10_row_26 : decode cX10_row 26 = .ok (.iload_n 1, 1) := by decide +kernel
theorem dX10_row_27 : decode cX10_row 27 = .ok (.iadd, 1) := by decide +kernel
theorem dX10_row_28 : decode cX10_row 28 = .ok (.iaload, 1) := by decide +kernel
theorem dX10_row_29 : decode cX10_row 29 = .ok (.goto 5, 3) := by decide +kernel
theorem dX10_row_32 : decode cX10_row 32 = .ok (.bipush (-101), 2) := by decide +kernel
theorem dX10_row_34 : decode cX10_row 34 = .ok (.ireturn, 1) := by decide +kernel
theorem dX10_forge_0 : decode cX10_forge 0 = .ok (.iload_n 1, 1) := by decide +kernel
theorem dX10_forge_1 : decode cX10_forge 1 = .ok (.i2l, 1) := by decide +kernel
theorem dX10_forge_2 : decode cX10_forge 2 = .ok (.lconst 0, 1) := by decide +kernel
theorem dX10_forge_3 : decode cX10_forge 3 = .ok (.aload_n 0, 1) := by decide +kernel
theorem dX10_forge_4 : decode cX10_forge 4 = .ok (.getfield 9, 3) := by decide +kernel
theorem dX10_forge_7 : decode cX10_forge 7 = .ok (.bipush 15, 2) := by decide +kernel
theorem dX10_forge_9 : decode cX10_forge 9 = .ok (.iaload, 1) := by decide +kernel
theorem dX10_forge_10 : decode cX10_forge 10 = .ok (.iconst 1, 1) := by decide +kernel
theorem dX10_forge_11 : decode cX10_forge 11 = .ok (.isub, 1) := by decide +kernel
theorem dX10_forge_12 : decode cX10_forge 12 = .ok (.i2l, 1) := by decide +kernel
theorem dX10_forge_13 : decode cX10_forge 13 = .ok (.invokestatic 63, 3) := by decide +kernel
theorem dX10_forge_16 : decode cX10_forge 16 = .ok (.ifCond .ne 6, 3) := by decide +kernel
theorem dX10_forge_19 : decode cX10_forge 19 = .ok (.bipush (-101), 2) := by decide +kernel
theorem dX10_forge_21 : decode cX10_forge 21 = .ok (.ireturn, 1) := by decide +kernel
theorem dX10_forge_22 : decode cX10_forge 22 = .ok (.aload_n 0, 1) := by decide +kernel
theorem dX10_forge_23 : decode cX10_forge 23 = .ok (.getfield 9, 3) := by decide +kernel
theorem dX10_forge_26 : decode cX10_forge 26 = .ok (.sipush 10100, 3) := by decide +kernel
theorem dX10_forge_29 : decode cX10_forge 29 = .ok (.iload_n 1, 1) := by decide +kernel
theorem dX10_forge_30 : decode cX10_forge 30 = .ok (.iadd, 1) := by decide +kernel
theorem dX10_forge_31 : decode cX10_forge 31 = .ok (.iaload, 1) := by decide +kernel
theorem dX10_forge_32 : decode cX10_forge 32 = .ok (.istore_n 3, 1) := by decide +kernel
theorem dX10_forge_33 : decode cX10_forge 33 = .ok (.aload_n 0, 1) := by decide +kernel
theorem dX10_forge_34 : decode cX10_forge 34 = .ok (.getfield 9, 3) := by decide +kernel
theorem dX10_forge_37 : decode cX10_forge 37 = .ok (.sipush 10100, 3) := by decide +kernel
theorem dX10_forge_40 : decode cX10_forge 40 = .ok (.iload_n 1, 1) := by decide +kernel
theorem dX10_forge_41 : decode cX10_forge 41 = .ok (.iadd, 1) := by decide +kernel
theorem dX10_forge_42 : decode cX10_forge 42 = .ok (.iload_n 2, 1) := by decide +kernel
theorem dX10_forge_43 : decode cX10_forge 43 = .ok (.iastore, 1) := by decide +kernel
theorem dX10_forge_44 : decode cX10_forge 44 = .ok (.iload_n 3, 1) := by decide +kernel
theorem dX10_forge_45 : decode cX10_forge 45 = .ok (.ireturn, 1) := by decide +kernel
theorem dX10_plain_0 : decode cX10_plain 0 = .ok (.iconst 0, 1) := by decide +kernel
theorem dX10_plain_1 : decode cX10_plain 1 = .ok (.istore_n 1, 1) := by decide +kernel
theorem dX10_plain_2 : decode cX10_plain 2 = .ok (.iconst 0, 1) := by decide +kernel
theorem dX10_plain_3 : decode cX10_plain 3 = .ok (.istore_n 2, 1) := by decide +kernel
theorem dX10_plain_4 : decode cX10_plain 4 = .ok (.iload_n 2, 1) := by decide +kernel
theorem dX10_plain_5 : decode cX10_plain 5 = .ok (.aload_n 0, 1) := by decide +kernel
theorem dX10_plain_6 : decode cX10_plain 6 = .ok (.getfield 9, 3) := by decide +kernel
theorem dX10_plain_9 : decode cX10_plain 9 = .ok (.bipush 15, 2) := by decide +kernel
theorem dX10_plain_11 : decode cX10_plain 11 = .ok (.iaload, 1) := by decide +kernel
theorem dX10_plain_12 : decode cX10_plain 12 = .ok (.if_icmp .ge 60, 3) := by decide +kernel
theorem dX10_plain_15 : decode cX10_plain 15 = .ok (.iload_n 1, 1) := by decide +kernel
theorem dX10_plain_16 : decode cX10_plain 16 = .ok (.aload_n 0, 1) := by decide +kernel
theorem dX10_plain_17 : decode cX10_plain 17 = .ok (.getfield 9, 3) := by decide +kernel
theorem dX10_plain_20 : decode cX10_plain 20 = .ok (.sipush 10100, 3) := by decide +kernel
theorem dX10_plain_23 : decode cX10_plain 23 = .ok (.iload_n 2, 1) := by decide +kernel
theorem dX10_plain_24 : decode cX10_plain 24 = .ok (.iadd, 1) := by decide +kernel
theorem dX10_plain_25 : decode cX10_plain 25 = .ok (.iaload, 1) := by decide +kernel
theorem dX10_plain_26 : decode cX10_plain 26 = .ok (.aload_n 0, 1) := by decide +kernel
theorem dX10_plain_27 : decode cX10_plain 27 = .ok (.getfield 9, 3) := by decide +kernel
theorem dX10_plain_30 : decode cX10_plain 30 = .ok (.sipush 18100, 3) := by decide +kernel
theorem dX10_plain_33 : decode cX10_plain 33 = .ok (.iload_n 2, 1) := by decide +kernel
theorem dX10_plain_34 : decode cX10_plain 34 = .ok (.iadd, 1) := by decide +kernel
theorem dX10_plain_35 : decode cX10_plain 35 = .ok (.iaload, 1) := by decide +kernel
theorem dX10_plain_36 : decode cX10_plain 36 = .ok (.if_icmp .eq 7, 3) := by decide +kernel
theorem dX10_plain_39 : decode cX10_plain 39 = .ok (.iconst 1, 1) := by decide +kernel
theorem dX10_plain_40 : decode cX10_plain 40 = .ok (.goto 4, 3) := by decide +kernel
theorem dX10_plain_43 : decode cX10_plain 43 = .ok (.iconst 0, 1) := by decide +kernel
theorem dX10_plain_44 : decode cX10_plain 44 = .ok (.iadd, 1) := by decide +kernel
theorem dX10_plain_45 : decode cX10_plain 45 = .ok (.istore_n 1, 1) := by decide +kernel
theorem dX10_plain_46 : decode cX10_plain 46 = .ok (.aload_n 0, 1) := by decide +kernel
theorem dX10_plain_47 : decode cX10_plain 47 = .ok (.getfield 9, 3) := by decide +kernel
theorem dX10_plain_50 : decode cX10_plain 50 = .ok (.sipush 10100, 3) := by decide +kernel
theorem dX10_plain_53 : decode cX10_plain 53 = .ok (.iload_n 2, 1) := by decide +kernel
theorem dX10_plain_54 : decode cX10_plain 54 = .ok (.iadd, 1) := by decide +kernel
theorem dX10_plain_55 : decode cX10_plain 55 = .ok (.aload_n 0, 1) := by decide +kernel
theorem dX10_plain_56 : decode cX10_plain 56 = .ok (.getfield 9, 3) := by decide +kernel
theorem dX10_plain_59 : decode cX10_plain 59 = .ok (.sipush 18100, 3) := by decide +kernel
theorem dX10_plain_62 : decode cX10_plain 62 = .ok (.iload_n 2, 1) := by decide +kernel
theorem dX10_plain_63 : decode cX10_plain 63 = .ok (.iadd, 1) := by decide +kernel
theorem dX10_plain_64 : decode cX10_plain 64 = .ok (.iaload, 1) := by decide +kernel
theorem dX10_plain_65 : decode cX10_plain 65 = .ok (.iastore, 1) := by decide +kernel
theorem dX10_plain_66 : decode cX10_plain 66 = .ok (.iinc 2 1, 3) := by decide +kernel
theorem dX10_plain_69 : decode cX10_plain 69 = .ok (.goto (-65), 3) := by decide +kernel
theorem dX10_plain_72 : decode cX10_plain 72 = .ok (.iload_n 1, 1) := by decide +kernel
theorem dX10_plain_73 : decode cX10_plain 73 = .ok (.ireturn, 1) := by decide +kernel
theorem dX10_paper_0 : decode cX10_paper 0 = .ok (.aload_n 0, 1) := by decide +kernel
theorem dX10_paper_1 : decode cX10_paper 1 = .ok (.getfield 9, 3) := by decide +kernel
theorem dX10_paper_4 : decode cX10_paper 4 = .ok (.sipush 10100, 3) := by decide +kernel
theorem dX10_paper_7 : decode cX10_paper 7 = .ok (.iload_n 1, 1) := by decide +kernel
theorem dX10_paper_8 : decode cX10_paper 8 = .ok (.iadd, 1) := by decide +kernel
theorem dX10_paper_9 : decode cX10_paper 9 = .ok (.iaload, 1) := by decide +kernel
theorem dX10_paper_10 : decode cX10_paper 10 = .ok (.ireturn, 1) := by decide +kernel
theorem dX10_formWrong_0 : decode cX10_formWrong 0 = .ok (.aload_n 0, 1) := by decide +kernel
theorem dX10_formWrong_1 : decode cX10_formWrong 1 = .ok (.getfield 9, 3) := by decide +kernel
theorem dX10_formWrong_4 : decode cX10_formWrong 4 = .ok (.bipush 15, 2) := by decide +kernel
theorem dX10_formWrong_6 : decode cX10_formWrong 6 = .ok (.iaload, 1) := by decide +kernel
theorem dX10_formWrong_7 : decode cX10_formWrong 7 = .ok (.istore_n 1, 1) := by decide +kernel
theorem dX10_formWrong_8 : decode cX10_formWrong 8 = .ok (.aload_n 0, 1) := by decide +kernel
theorem dX10_formWrong_9 : decode cX10_formWrong 9 = .ok (.bipush 24, 2) := by decide +kernel
theorem dX10_formWrong_11 : decode cX10_formWrong 11 = .ok (.invokevirtual 237, 3) := by decide +kernel
theorem dX10_formWrong_14 : decode cX10_formWrong 14 = .ok (.i2l, 1) := by decide +kernel
theorem dX10_formWrong_15 : decode cX10_formWrong 15 = .ok (.lconst 0, 1) := by decide +kernel
theorem dX10_formWrong_16 : decode cX10_formWrong 16 = .ok (.ldc2_w 240, 3) := by decide +kernel
theorem dX10_formWrong_19 : decode cX10_formWrong 19 = .ok (.invokestatic 63, 3) := by decide +kernel
theorem dX10_formWrong_22 : decode cX10_formWrong 22 = .ok (.ifCond .ne 6, 3) := by decide +kernel
theorem dX10_formWrong_25 : decode cX10_formWrong 25 = .ok (.bipush 24, 2) := by decide +kernel
theorem dX10_formWrong_27 : decode cX10_formWrong 27 = .ok (.ireturn, 1) := by decide +kernel
theorem dX10_formWrong_28 : decode cX10_formWrong 28 = .ok (.bipush 25, 2) := by decide +kernel
theorem dX10_formWrong_30 : decode cX10_formWrong 30 = .ok (.istore_n 2, 1) := by decide +kernel
theorem dX10_formWrong_31 : decode cX10_formWrong 31 = .ok (.iconst 0, 1) := by decide +kernel
theorem dX10_formWrong_32 : decode cX10_formWrong 32 = .ok (.istore_n 3, 1) := by decide +kernel
theorem dX10_formWrong_33 : decode cX10_formWrong 33 = .ok (.iload_n 3, 1) := by decide +kernel
theorem dX10_formWrong_34 : decode cX10_formWrong 34 = .ok (.aload_n 0, 1) := by decide +kernel
theorem dX10_formWrong_35 : decode cX10_formWrong 35 = .ok (.bipush 24, 2) := by decide +kernel
theorem dX10_formWrong_37 : decode cX10_formWrong 37 = .ok (.invokevirtual 237, 3) := by decide +kernel
theorem dX10_formWrong_40 : decode cX10_formWrong 40 = .ok (.if_icmp .ge 60, 3) := by decide +kernel
theorem dX10_formWrong_43 : decode cX10_formWrong 43 = .ok (.iload_n 2, 1) := by decide +kernel
theorem dX10_formWrong_44 : decode cX10_formWrong 44 = .ok (.iconst 5, 1) := by decide +kernel
theorem dX10_formWrong_45 : decode cX10_formWrong 45 = .ok (.iadd, 1) := by decide +kernel
theorem dX10_formWrong_46 : decode cX10_formWrong 46 = .ok (.iload_n 1, 1) := by decide +kernel
theorem dX10_formWrong_47 : decode cX10_formWrong 47 = .ok (.if_icmp .lt 5, 3) := by decide +kernel
theorem dX10_formWrong_50 : decode cX10_formWrong 50 = .ok (.iload_n 1, 1) := by decide +kernel
theorem dX10_formWrong_51 : decode cX10_formWrong 51 = .ok (.ireturn, 1) := by decide +kernel
theorem dX10_formWrong_52 : decode cX10_formWrong 52 = .ok (.aload_n 0, 1) := by decide +kernel
theorem dX10_formWrong_53 : decode cX10_formWrong 53 = .ok (.iload_n 2, 1) := by decide +kernel
theorem dX10_formWrong_54 : decode cX10_formWrong 54 = .ok (.iconst 5, 1) := by decide +kernel
theorem dX10_formWrong_55 : decode cX10_formWrong 55 = .ok (.iadd, 1) := by decide +kernel
theorem dX10_formWrong_56 : decode cX10_formWrong 56 = .ok (.invokevirtual 237, 3) := by decide +kernel
theorem dX10_formWrong_59 : decode cX10_formWrong 59 = .ok (.i2l, 1) := by decide +kernel
theorem dX10_formWrong_60 : decode cX10_formWrong 60 = .ok (.lconst 0, 1) := by decide +kernel
theorem dX10_formWrong_61 : decode cX10_formWrong 61 = .ok (.ldc2_w 242, 3) := by decide +kernel
theorem dX10_formWrong_64 : decode cX10_formWrong 64 = .ok (.invokestatic 63, 3) := by decide +kernel
theorem dX10_formWrong_67 : decode cX10_formWrong 67 = .ok (.ifCond .ne 7, 3) := by decide +kernel
theorem dX10_formWrong_70 : decode cX10_formWrong 70 = .ok (.iload_n 2, 1) := by decide +kernel
theorem dX10_formWrong_71 : decode cX10_formWrong 71 = .ok (.iconst 5, 1) := by decide +kernel
theorem dX10_formWrong_72 : decode cX10_formWrong 72 = .ok (.iadd, 1) := by decide +kernel
theorem dX10_formWrong_73 : decode cX10_formWrong 73 = .ok (.ireturn, 1) := by decide +kernel
theorem dX10_formWrong_74 : decode cX10_formWrong 74 = .ok (.aload_n 0, 1) := by decide +kernel
theorem dX10_formWrong_75 : decode cX10_formWrong 75 = .ok (.getfield 32, 3) := by decide +kernel
theorem dX10_formWrong_78 : decode cX10_formWrong 78 = .ok (.iload_n 3, 1) := by decide +kernel
theorem dX10_formWrong_79 : decode cX10_formWrong 79 = .ok (.iload_n 2, 1) := by decide +kernel
theorem dX10_formWrong_80 : decode cX10_formWrong 80 = .ok (.iastore, 1) := by decide +kernel
theorem dX10_formWrong_81 : decode cX10_formWrong 81 = .ok (.iload_n 2, 1) := by decide +kernel
theorem dX10_formWrong_82 : decode cX10_formWrong 82 = .ok (.bipush 6, 2) := by decide +kernel
theorem dX10_formWrong_84 : decode cX10_formWrong 84 = .ok (.aload_n 0, 1) := by decide +kernel
theorem dX10_formWrong_85 : decode cX10_formWrong 85 = .ok (.iload_n 2, 1) := by decide +kernel
theorem dX10_formWrong_86 : decode cX10_formWrong 86 = .ok (.iconst 5, 1) := by decide +kernel
theorem dX10_formWrong_87 : decode cX10_formWrong 87 = .ok (.iadd, 1) := by decide +kernel
theorem dX10_formWrong_88 : decode cX10_formWrong 88 = .ok (.invokevirtual 237, 3) := by decide +kernel
theorem dX10_formWrong_91 : decode cX10_formWrong 91 = .ok (.iadd, 1) := by decide +kernel
theorem dX10_formWrong_92 : decode cX10_formWrong 92 = .ok (.iadd, 1) := by decide +kernel
theorem dX10_formWrong_93 : decode cX10_formWrong 93 = .ok (.istore_n 2, 1) := by decide +kernel
theorem dX10_formWrong_94 : decode cX10_formWrong 94 = .ok (.iinc 3 1, 3) := by decide +kernel
theorem dX10_formWrong_97 : decode cX10_formWrong 97 = .ok (.goto (-64), 3) := by decide +kernel
theorem dX10_formWrong_100 : decode cX10_formWrong 100 = .ok (.iload_n 2, 1) := by decide +kernel
theorem dX10_formWrong_101 : decode cX10_formWrong 101 = .ok (.iload_n 1, 1) := by decide +kernel
theorem dX10_formWrong_102 : decode cX10_formWrong 102 = .ok (.if_icmp .lt 5, 3) := by decide +kernel
theorem dX10_formWrong_105 : decode cX10_formWrong 105 = .ok (.iload_n 1, 1) := by decide +kernel
theorem dX10_formWrong_106 : decode cX10_formWrong 106 = .ok (.ireturn, 1) := by decide +kernel
theorem dX10_formWrong_107 : decode cX10_formWrong 107 = .ok (.aload_n 0, 1) := by decide +kernel
theorem dX10_formWrong_108 : decode cX10_formWrong 108 = .ok (.iload_n 2, 1) := by decide +kernel
theorem dX10_formWrong_109 : decode cX10_formWrong 109 = .ok (.putfield 244, 3) := by decide +kernel
theorem dX10_formWrong_112 : decode cX10_formWrong 112 = .ok (.aload_n 0, 1) := by decide +kernel
theorem dX10_formWrong_113 : decode cX10_formWrong 113 = .ok (.iload_n 2, 1) := by decide +kernel
theorem dX10_formWrong_114 : decode cX10_formWrong 114 = .ok (.invokevirtual 237, 3) := by decide +kernel
theorem dX10_formWrong_117 : decode cX10_formWrong 117 = .ok (.i2l, 1) := by decide +kernel
theorem dX10_formWrong_118 : decode cX10_formWrong 118 = .ok (.lconst 0, 1) := by decide +kernel
theorem dX10_formWrong_119 : decode cX10_formWrong 119 = .ok (.ldc2_w 240, 3) := by decide +kernel
theorem dX10_formWrong_122 : decode cX10_formWrong 122 = .ok (.invokestatic 63, 3) := by decide +kernel
theorem dX10_formWrong_125 : decode cX10_formWrong 125 = .ok (.ifCond .eq 20, 3) := by decide +kernel
theorem dX10_formWrong_128 : decode cX10_formWrong 128 = .ok (.iload_n 2, 1) := by decide +kernel
theorem dX10_formWrong_129 : decode cX10_formWrong 129 = .ok (.iconst 2, 1) := by decide +kernel
theorem dX10_formWrong_130 : decode cX10_formWrong 130 = .ok (.iadd, 1) := by decide +kernel
theorem dX10_formWrong_131 : decode cX10_formWrong 131 = .ok (.aload_n 0, 1) := by decide +kernel
theorem dX10_formWrong_132 : decode cX10_formWrong 132 = .ok (.iload_n 2, 1) := by decide +kernel
theorem dX10_formWrong_133 : decode cX10_formWrong 133 = .ok (.invokevirtual 237, 3) := by decide +kernel
theorem dX10_formWrong_136 : decode cX10_formWrong 136 = .ok (.iadd, 1) := by decide +kernel
theorem dX10_formWrong_137 : decode cX10_formWrong 137 = .ok (.iload_n 1, 1) := by decide +kernel
theorem dX10_formWrong_138 : decode cX10_formWrong 138 = .ok (.if_icmp .ne 7, 3) := by decide +kernel
theorem dX10_formWrong_141 : decode cX10_formWrong 141 = .ok (.iconst (-1), 1) := by decide +kernel
theorem dX10_formWrong_142 : decode cX10_formWrong 142 = .ok (.goto 4, 3) := by decide +kernel
theorem dX10_formWrong_145 : decode cX10_formWrong 145 = .ok (.iload_n 2, 1) := by decide +kernel
theorem dX10_formWrong_146 : decode cX10_formWrong 146 = .ok (.ireturn, 1) := by decide +kernel
theorem dX10_findFirst_0 : decode cX10_findFirst 0 = .ok (.iconst 0, 1) := by decide +kernel
theorem dX10_findFirst_1 : decode cX10_findFirst 1 = .ok (.istore_n 1, 1) := by decide +kernel
theorem dX10_findFirst_2 : decode cX10_findFirst 2 = .ok (.iload_n 1, 1) := by decide +kernel
theorem dX10_findFirst_3 : decode cX10_findFirst 3 = .ok (.sipush 500, 3) := by decide +kernel
theorem dX10_findFirst_6 : decode cX10_findFirst 6 = .ok (.if_icmp .ge 16, 3) := by decide +kernel
theorem dX10_findFirst_9 : decode cX10_findFirst 9 = .ok (.aload_n 0, 1) := by decide +kernel
theorem dX10_findFirst_10 : decode cX10_findFirst 10 = .ok (.getfield 35, 3) := by decide +kernel
theorem dX10_findFirst_13 : decode cX10_findFirst 13 = .ok (.iload_n 1, 1) := by decide +kernel
theorem dX10_findFirst_14 : decode cX10_findFirst 14 = .ok (.iconst (-1), 1) := by decide +kernel
theorem dX10_findFirst_15 : decode cX10_findFirst 15 = .ok (.iastore, 1) := by decide +kernel
theorem dX10_findFirst_16 : decode cX10_findFirst 16 = .ok (.iinc 1 1, 3) := by decide +kernel
theorem dX10_findFirst_19 : decode cX10_findFirst 19 = .ok (.goto (-17), 3) := by decide +kernel
theorem dX10_findFirst_22 : decode cX10_findFirst 22 = .ok (.aload_n 0, 1) := by decide +kernel
theorem dX10_findFirst_23 : decode cX10_findFirst 23 = .ok (.bipush 24, 2) := by decide +kernel
theorem dX10_findFirst_25 : decode cX10_findFirst 25 = .ok (.invokevirtual 237, 3) := by decide +kernel
theorem dX10_findFirst_28 : decode cX10_findFirst 28 = .ok (.iconst 1, 1) := by decide +kernel
theorem dX10_findFirst_29 : decode cX10_findFirst 29 = .ok (.isub, 1) := by decide +kernel
theorem dX10_findFirst_30 : decode cX10_findFirst 30 = .ok (.istore_n 1, 1) := by decide +kernel
theorem dX10_findFirst_31 : decode cX10_findFirst 31 = .ok (.iload_n 1, 1) := by decide +kernel
theorem dX10_findFirst_32 : decode cX10_findFirst 32 = .ok (.ifCond .lt 46, 3) := by decide +kernel
theorem dX10_findFirst_35 : decode cX10_findFirst 35 = .ok (.aload_n 0, 1) := by decide +kernel
theorem dX10_findFirst_36 : decode cX10_findFirst 36 = .ok (.aload_n 0, 1) := by decide +kernel
theorem dX10_findFirst_37 : decode cX10_findFirst 37 = .ok (.getfield 32, 3) := by decide +kernel
theorem dX10_findFirst_40 : decode cX10_findFirst 40 = .ok (.iload_n 1, 1) := by decide +kernel
theorem dX10_findFirst_41 : decode cX10_findFirst 41 = .ok (.iaload, 1) := by decide +kernel
theorem dX10_findFirst_42 : decode cX10_findFirst 42 = .ok (.invokevirtual 237, 3) := by decide +kernel
theorem dX10_findFirst_45 : decode cX10_findFirst 45 = .ok (.i2l, 1) := by decide +kernel
theorem dX10_findFirst_46 : decode cX10_findFirst 46 = .ok (.lconst 0, 1) := by decide +kernel
theorem dX10_findFirst_47 : decode cX10_findFirst 47 = .ok (.ldc2_w 247, 3) := by decide +kernel
theorem dX10_findFirst_50 : decode cX10_findFirst 50 = .ok (.invokestatic 63, 3) := by decide +kernel
theorem dX10_findFirst_53 : decode cX10_findFirst 53 = .ok (.ifCond .eq 19, 3) := by decide +kernel
theorem dX10_findFirst_56 : decode cX10_findFirst 56 = .ok (.aload_n 0, 1) := by decide +kernel
theorem dX10_findFirst_57 : decode cX10_findFirst 57 = .ok (.getfield 35, 3) := by decide +kernel
theorem dX10_findFirst_60 : decode cX10_findFirst 60 = .ok (.aload_n 0, 1) := by decide +kernel
theorem dX10_findFirst_61 : decode cX10_findFirst 61 = .ok (.aload_n 0, 1) := by decide +kernel
theorem dX10_findFirst_62 : decode cX10_findFirst 62 = .ok (.getfield 32, 3) := by decide +kernel
theorem dX10_findFirst_65 : decode cX10_findFirst 65 = .ok (.iload_n 1, 1) := by decide +kernel
theorem dX10_findFirst_66 : decode cX10_findFirst 66 = .ok (.iaload, 1) := by decide +kernel
theorem dX10_findFirst_67 : decode cX10_findFirst 67 = .ok (.invokevirtual 237, 3) := by decide +kernel
theorem dX10_findFirst_70 : decode cX10_findFirst 70 = .ok (.iload_n 1, 1) := by decide +kernel
theorem dX10_findFirst_71 : decode cX10_findFirst 71 = .ok (.iastore, 1) := by decide +kernel
theorem dX10_findFirst_72 : decode cX10_findFirst 72 = .ok (.iinc 1 (-1), 3) := by decide +kernel
theorem dX10_findFirst_75 : decode cX10_findFirst 75 = .ok (.goto (-44), 3) := by decide +kernel
theorem dX10_findFirst_78 : decode cX10_findFirst 78 = .ok (.return_, 1) := by decide +kernel
theorem dX10_keptOf_0 : decode cX10_keptOf 0 = .ok (.iload_n 1, 1) := by decide +kernel
theorem dX10_keptOf_1 : decode cX10_keptOf 1 = .ok (.i2l, 1) := by decide +kernel
theorem dX10_keptOf_2 : decode cX10_keptOf 2 = .ok (.lconst 0, 1) := by decide +kernel
theorem dX10_keptOf_3 : decode cX10_keptOf 3 = .ok (.ldc2_w 247, 3) := by decide +kernel
theorem dX10_keptOf_6 : decode cX10_keptOf 6 = .ok (.invokestatic 63, 3) := by decide +kernel
theorem dX10_keptOf_9 : decode cX10_keptOf 9 = .ok (.ifCond .eq 12, 3) := by decide +kernel
theorem dX10_keptOf_12 : decode cX10_keptOf 12 = .ok (.aload_n 0, 1) := by decide +kernel
theorem dX10_keptOf_13 : decode cX10_keptOf 13 = .ok (.getfield 35, 3) := by decide +kernel
theorem dX10_keptOf_16 : decode cX10_keptOf 16 = .ok (.iload_n 1, 1) := by decide +kernel
theorem dX10_keptOf_17 : decode cX10_keptOf 17 = .ok (.iaload, 1) := by decide +kernel
theorem dX10_keptOf_18 : decode cX10_keptOf 18 = .ok (.goto 4, 3) := by decide +kernel
theorem dX10_keptOf_21 : decode cX10_keptOf 21 = .ok (.iconst (-1), 1) := by decide +kernel
theorem dX10_keptOf_22 : decode cX10_keptOf 22 = .ok (.ireturn, 1) := by decide +kernel
theorem dX10_isOne_0 : decode cX10_isOne 0 = .ok (.iload_n 1, 1) := by decide +kernel
theorem dX10_isOne_1 : decode cX10_isOne 1 = .ok (.iconst (-1), 1) := by decide +kernel
theorem dX10_isOne_2 : decode cX10_isOne 2 = .ok (.if_icmp .eq 12, 3) := by decide +kernel
theorem dX10_isOne_5 : decode cX10_isOne 5 = .ok (.aload_n 0, 1) := by decide +kernel
theorem dX10_isOne_6 : decode cX10_isOne 6 = .ok (.iload_n 1, 1) := by decide +kernel
theorem dX10_isOne_7 : decode cX10_isOne 7 = .ok (.invokevirtual 249, 3) := by decide +kernel
theorem dX10_isOne_10 : decode cX10_isOne 10 = .ok (.iconst (-1), 1) := by decide +kernel
theorem dX10_isOne_11 : decode cX10_isOne 11 = .ok (.if_icmp .eq 7, 3) := by decide +kernel
theorem dX10_isOne_14 : decode cX10_isOne 14 = .ok (.iconst 1, 1) := by decide +kernel
theorem dX10_isOne_15 : decode cX10_isOne 15 = .ok (.goto 4, 3) := by decide +kernel
theorem dX10_isOne_18 : decode cX10_isOne 18 = .ok (.iconst 0, 1) := by decide +kernel
theorem dX10_isOne_19 : decode cX10_isOne 19 = .ok (.ireturn, 1) := by decide +kernel
theorem dX10_reasonWrong_0 : decode cX10_reasonWrong 0 = .ok (.aload_n 0, 1) := by decide +kernel
theorem dX10_reasonWrong_1 : decode cX10_reasonWrong 1 = .ok (.iload_n 1, 1) := by decide +kernel
theorem dX10_reasonWrong_2 : decode cX10_reasonWrong 2 = .ok (.iconst 1, 1) := by decide +kernel
theorem dX10_reasonWrong_3 : decode cX10_reasonWrong 3 = .ok (.iadd, 1) := by decide +kernel
theorem dX10_reasonWrong_4 : decode cX10_reasonWrong 4 = .ok (.invokevirtual 237, 3) := by decide +kernel
theorem dX10_reasonWrong_7 : decode cX10_reasonWrong 7 = .ok (.istore_n 2, 1) := by decide +kernel
theorem dX10_reasonWrong_8 : decode cX10_reasonWrong 8 = .ok (.aload_n 0, 1) := by decide +kernel
theorem dX10_reasonWrong_9 : decode cX10_reasonWrong 9 = .ok (.iload_n 1, 1) := by decide +kernel
theorem dX10_reasonWrong_10 : decode cX10_reasonWrong 10 = .ok (.iconst 2, 1) := by decide +kernel
theorem dX10_reasonWrong_11 : decode cX10_reasonWrong 11 = .ok (.iadd, 1) := by decide +kernel
theorem dX10_reasonWrong_12 : decode cX10_reasonWrong 12 = .ok (.invokevirtual 237, 3) := by decide +kernel
theorem dX10_reasonWrong_15 : decode cX10_reasonWrong 15 = .ok (.istore_n 3, 1) := by decide +kernel
theorem dX10_reasonWrong_16 : decode cX10_reasonWrong 16 = .ok (.aload_n 0, 1) := by decide +kernel
theorem dX10_reasonWrong_17 : decode cX10_reasonWrong 17 = .ok (.iload_n 1, 1) := by decide +kernel
theorem dX10_reasonWrong_18 : decode cX10_reasonWrong 18 = .ok (.iconst 3, 1) := by decide +kernel
theorem dX10_reasonWrong_19 : decode cX10_reasonWrong 19 = .ok (.iadd, 1) := by decide +kernel
theorem dX10_reasonWrong_20 : decode cX10_reasonWrong 20 = .ok (.invokevirtual 237, 3) := by decide +kernel
theorem dX10_reasonWrong_23 : decode cX10_reasonWrong 23 = .ok (.istore 4, 2) := by decide +kernel
theorem dX10_reasonWrong_25 : decode cX10_reasonWrong 25 = .ok (.iload_n 2, 1) := by decide +kernel
theorem dX10_reasonWrong_26 : decode cX10_reasonWrong 26 = .ok (.iconst 3, 1) := by decide +kernel
theorem dX10_reasonWrong_27 : decode cX10_reasonWrong 27 = .ok (.if_icmp .ne 12, 3) := by decide +kernel
theorem dX10_reasonWrong_30 : decode cX10_reasonWrong 30 = .ok (.iload_n 3, 1) := by decide +kernel
theorem dX10_reasonWrong_31 : decode cX10_reasonWrong 31 = .ok (.iconst (-1), 1) := by decide +kernel
theorem dX10_reasonWrong_32 : decode cX10_reasonWrong 32 = .ok (.if_icmp .ne 7, 3) := by decide +kernel
theorem dX10_reasonWrong_35 : decode cX10_reasonWrong 35 = .ok (.iconst 1, 1) := by decide +kernel
theorem dX10_reasonWrong_36 : decode cX10_reasonWrong 36 = .ok (.goto 4, 3) := by decide +kernel
theorem dX10_reasonWrong_39 : decode cX10_reasonWrong 39 = .ok (.iconst 0, 1) := by decide +kernel
theorem dX10_reasonWrong_40 : decode cX10_reasonWrong 40 = .ok (.istore 5, 2) := by decide +kernel
theorem dX10_reasonWrong_42 : decode cX10_reasonWrong 42 = .ok (.iload_n 2, 1) := by decide +kernel
theorem dX10_reasonWrong_43 : decode cX10_reasonWrong 43 = .ok (.ifCond .ne 15, 3) := by decide +kernel
theorem dX10_reasonWrong_46 : decode cX10_reasonWrong 46 = .ok (.iload_n 3, 1) := by decide +kernel
theorem dX10_reasonWrong_47 : decode cX10_reasonWrong 47 = .ok (.i2l, 1) := by decide +kernel
theorem dX10_reasonWrong_48 : decode cX10_reasonWrong 48 = .ok (.lconst 0, 1) := by decide +kernel
theorem dX10_reasonWrong_49 : decode cX10_reasonWrong 49 = .ok (.ldc2_w 198, 3) := by decide +kernel
theorem dX10_reasonWrong_52 : decode cX10_reasonWrong 52 = .ok (.invokestatic 63, 3) := by decide +kernel
theorem dX10_reasonWrong_55 : decode cX10_reasonWrong 55 = .ok (.goto 65, 3) := by decide +kernel
theorem dX10_reasonWrong_58 : decode cX10_reasonWrong 58 = .ok (.iload_n 2, 1) := by decide +kernel
theorem dX10_reasonWrong_59 : decode cX10_reasonWrong 59 = .ok (.iconst 1, 1) := by decide +kernel
theorem dX10_reasonWrong_60 : decode cX10_reasonWrong 60 = .ok (.if_icmp .ne 20, 3) := by decide +kernel
theorem dX10_reasonWrong_63 : decode cX10_reasonWrong 63 = .ok (.aload_n 0, 1) := by decide +kernel
theorem dX10_reasonWrong_64 : decode cX10_reasonWrong 64 = .ok (.iload_n 3, 1) := by decide +kernel
theorem dX10_reasonWrong_65 : decode cX10_reasonWrong 65 = .ok (.invokevirtual 249, 3) := by decide +kernel
theorem dX10_reasonWrong_68 : decode cX10_reasonWrong 68 = .ok (.iconst (-1), 1) := by decide +kernel
theorem dX10_reasonWrong_69 : decode cX10_reasonWrong 69 = .ok (.if_icmp .eq 7, 3) := by decide +kernel
theorem dX10_reasonWrong_72 : decode cX10_reasonWrong 72 = .ok (.iconst 1, 1) := by decide +kernel
theorem dX10_reasonWrong_73 : decode cX10_reasonWrong 73 = .ok (.goto 47, 3) := by decide +kernel
theorem dX10_reasonWrong_76 : decode cX10_reasonWrong 76 = .ok (.iconst 0, 1) := by decide +kernel
theorem dX10_reasonWrong_77 : decode cX10_reasonWrong 77 = .ok (.goto 43, 3) := by decide +kernel
theorem dX10_reasonWrong_80 : decode cX10_reasonWrong 80 = .ok (.iload_n 2, 1) := by decide +kernel
theorem dX10_reasonWrong_81 : decode cX10_reasonWrong 81 = .ok (.iconst 5, 1) := by decide +kernel
theorem dX10_reasonWrong_82 : decode cX10_reasonWrong 82 = .ok (.if_icmp .ne 16, 3) := by decide +kernel
theorem dX10_reasonWrong_85 : decode cX10_reasonWrong 85 = .ok (.iload_n 3, 1) := by decide +kernel
theorem dX10_reasonWrong_86 : decode cX10_reasonWrong 86 = .ok (.iconst (-1), 1) := by decide +kernel
theorem dX10_reasonWrong_87 : decode cX10_reasonWrong 87 = .ok (.if_icmp .ne 7, 3) := by decide +kernel
theorem dX10_reasonWrong_90 : decode cX10_reasonWrong 90 = .ok (.iconst 1, 1) := by decide +kernel
theorem dX10_reasonWrong_91 : decode cX10_reasonWrong 91 = .ok (.goto 29, 3) := by decide +kernel
theorem dX10_reasonWrong_94 : decode cX10_reasonWrong 94 = .ok (.iconst 0, 1) := by decide +kernel
theorem dX10_reasonWrong_95 : decode cX10_reasonWrong 95 = .ok (.goto 25, 3) := by decide +kernel
theorem dX10_reasonWrong_98 : decode cX10_reasonWrong 98 = .ok (.iload 5, 2) := by decide +kernel
theorem dX10_reasonWrong_100 : decode cX10_reasonWrong 100 = .ok (.ifCond .ne 15, 3) := by decide +kernel
theorem dX10_reasonWrong_103 : decode cX10_reasonWrong 103 = .ok (.iload_n 3, 1) := by decide +kernel
theorem dX10_reasonWrong_104 : decode cX10_reasonWrong 104 = .ok (.i2l, 1) := by decide +kernel
theorem dX10_reasonWrong_105 : decode cX10_reasonWrong 105 = .ok (.lconst 0, 1) := by decide +kernel
theorem dX10_reasonWrong_106 : decode cX10_reasonWrong 106 = .ok (.ldc2_w 247, 3) := by decide +kernel
theorem dX10_reasonWrong_109 : decode cX10_reasonWrong 109 = .ok (.invokestatic 63, 3) := by decide +kernel
theorem dX10_reasonWrong_112 : decode cX10_reasonWrong 112 = .ok (.ifCond .eq 7, 3) := by decide +kernel
theorem dX10_reasonWrong_115 : decode cX10_reasonWrong 115 = .ok (.iconst 1, 1) := by decide +kernel
theorem dX10_reasonWrong_116 : decode cX10_reasonWrong 116 = .ok (.goto 4, 3) := by decide +kernel
theorem dX10_reasonWrong_119 : decode cX10_reasonWrong 119 = .ok (.iconst 0, 1) := by decide +kernel
theorem dX10_reasonWrong_120 : decode cX10_reasonWrong 120 = .ok (.istore 6, 2) := by decide +kernel
theorem dX10_reasonWrong_122 : decode cX10_reasonWrong 122 = .ok (.iload 6, 2) := by decide +kernel
theorem dX10_reasonWrong_124 : decode cX10_reasonWrong 124 = .ok (.ifCond .ne 7, 3) := by decide +kernel
theorem dX10_reasonWrong_127 : decode cX10_reasonWrong 127 = .ok (.iload_n 1, 1) := by decide +kernel
theorem dX10_reasonWrong_128 : decode cX10_reasonWrong 128 = .ok (.iconst 2, 1) := by decide +kernel
theorem dX10_reasonWrong_129 : decode cX10_reasonWrong 129 = .ok (.iadd, 1) := by decide +kernel
theorem dX10_reasonWrong_130 : decode cX10_reasonWrong 130 = .ok (.ireturn, 1) := by decide +kernel
theorem dX10_reasonWrong_131 : decode cX10_reasonWrong 131 = .ok (.iload_n 2, 1) := by decide +kernel
theorem dX10_reasonWrong_132 : decode cX10_reasonWrong 132 = .ok (.ifCond .eq 8, 3) := by decide +kernel
theorem dX10_reasonWrong_135 : decode cX10_reasonWrong 135 = .ok (.iload_n 2, 1) := by decide +kernel
theorem dX10_reasonWrong_136 : decode cX10_reasonWrong 136 = .ok (.iconst 5, 1) := by decide +kernel
theorem dX10_reasonWrong_137 : decode cX10_reasonWrong 137 = .ok (.if_icmp .ne 17, 3) := by decide +kernel
theorem dX10_reasonWrong_140 : decode cX10_reasonWrong 140 = .ok (.iload 4, 2) := by decide +kernel
theorem dX10_reasonWrong_142 : decode cX10_reasonWrong 142 = .ok (.iconst (-1), 1) := by decide +kernel
theorem dX10_reasonWrong_143 : decode cX10_reasonWrong 143 = .ok (.if_icmp .ne 7, 3) := by decide +kernel
theorem dX10_reasonWrong_146 : decode cX10_reasonWrong 146 = .ok (.iconst 1, 1) := by decide +kernel
theorem dX10_reasonWrong_147 : decode cX10_reasonWrong 147 = .ok (.goto 46, 3) := by decide +kernel
theorem dX10_reasonWrong_150 : decode cX10_reasonWrong 150 = .ok (.iconst 0, 1) := by decide +kernel
theorem dX10_reasonWrong_151 : decode cX10_reasonWrong 151 = .ok (.goto 42, 3) := by decide +kernel
theorem dX10_reasonWrong_154 : decode cX10_reasonWrong 154 = .ok (.iload_n 2, 1) := by decide +kernel
theorem dX10_reasonWrong_155 : decode cX10_reasonWrong 155 = .ok (.iconst 4, 1) := by decide +kernel
theorem dX10_reasonWrong_156 : decode cX10_reasonWrong 156 = .ok (.if_icmp .ne 16, 3) := by decide +kernel
theorem dX10_reasonWrong_159 : decode cX10_reasonWrong 159 = .ok (.iload 4, 2) := by decide +kernel
theorem dX10_reasonWrong_161 : decode cX10_reasonWrong 161 = .ok (.ifCond .ne 7, 3) := by decide +kernel
theorem dX10_reasonWrong_164 : decode cX10_reasonWrong 164 = .ok (.iconst 1, 1) := by decide +kernel
theorem dX10_reasonWrong_165 : decode cX10_reasonWrong 165 = .ok (.goto 28, 3) := by decide +kernel
theorem dX10_reasonWrong_168 : decode cX10_reasonWrong 168 = .ok (.iconst 0, 1) := by decide +kernel
theorem dX10_reasonWrong_169 : decode cX10_reasonWrong 169 = .ok (.goto 24, 3) := by decide +kernel
theorem dX10_reasonWrong_172 : decode cX10_reasonWrong 172 = .ok (.iload 4, 2) := by decide +kernel
theorem dX10_reasonWrong_174 : decode cX10_reasonWrong 174 = .ok (.i2l, 1) := by decide +kernel
theorem dX10_reasonWrong_175 : decode cX10_reasonWrong 175 = .ok (.lconst 0, 1) := by decide +kernel
theorem dX10_reasonWrong_176 : decode cX10_reasonWrong 176 = .ok (.iload 5, 2) := by decide +kernel
theorem dX10_reasonWrong_178 : decode cX10_reasonWrong 178 = .ok (.ifCond .eq 9, 3) := by decide +kernel
theorem dX10_reasonWrong_181 : decode cX10_reasonWrong 181 = .ok (.ldc2_w 198, 3) := by decide +kernel
theorem dX10_reasonWrong_184 : decode cX10_reasonWrong 184 = .ok (.goto 6, 3) := by decide +kernel
theorem dX10_reasonWrong_187 : decode cX10_reasonWrong 187 = .ok (.ldc2_w 252, 3) := by decide +kernel
theorem dX10_reasonWrong_190 : decode cX10_reasonWrong 190 = .ok (.invokestatic 63, 3) := by decide +kernel
theorem dX10_reasonWrong_193 : decode cX10_reasonWrong 193 = .ok (.istore 7, 2) := by decide +kernel
theorem dX10_reasonWrong_195 : decode cX10_reasonWrong 195 = .ok (.iload 7, 2) := by decide +kernel
theorem dX10_reasonWrong_197 : decode cX10_reasonWrong 197 = .ok (.ifCond .eq 7, 3) := by decide +kernel
theorem dX10_reasonWrong_200 : decode cX10_reasonWrong 200 = .ok (.iconst (-1), 1) := by decide +kernel
theorem dX10_reasonWrong_201 : decode cX10_reasonWrong 201 = .ok (.goto 6, 3) := by decide +kernel
theorem dX10_reasonWrong_204 : decode cX10_reasonWrong 204 = .ok (.iload_n 1, 1) := by decide +kernel
theorem dX10_reasonWrong_205 : decode cX10_reasonWrong 205 = .ok (.iconst 3, 1) := by decide +kernel
theorem dX10_reasonWrong_206 : decode cX10_reasonWrong 206 = .ok (.iadd, 1) := by decide +kernel
theorem dX10_reasonWrong_207 : decode cX10_reasonWrong 207 = .ok (.ireturn, 1) := by decide +kernel
theorem dX10_keptWrong_0 : decode cX10_keptWrong 0 = .ok (.aload_n 0, 1) := by decide +kernel
theorem dX10_keptWrong_1 : decode cX10_keptWrong 1 = .ok (.getfield 32, 3) := by decide +kernel
theorem dX10_keptWrong_4 : decode cX10_keptWrong 4 = .ok (.iload_n 1, 1) := by decide +kernel
theorem dX10_keptWrong_5 : decode cX10_keptWrong 5 = .ok (.iaload, 1) := by decide +kernel
theorem dX10_keptWrong_6 : decode cX10_keptWrong 6 = .ok (.istore_n 2, 1) := by decide +kernel
theorem dX10_keptWrong_7 : decode cX10_keptWrong 7 = .ok (.aload_n 0, 1) := by decide +kernel
theorem dX10_keptWrong_8 : decode cX10_keptWrong 8 = .ok (.iload_n 2, 1) := by decide +kernel
theorem dX10_keptWrong_9 : decode cX10_keptWrong 9 = .ok (.invokevirtual 237, 3) := by decide +kernel
theorem dX10_keptWrong_12 : decode cX10_keptWrong 12 = .ok (.i2l, 1) := by decide +kernel
theorem dX10_keptWrong_13 : decode cX10_keptWrong 13 = .ok (.lconst 0, 1) := by decide +kernel
theorem dX10_keptWrong_14 : decode cX10_keptWrong 14 = .ok (.ldc2_w 247, 3) := by decide +kernel
theorem dX10_keptWrong_17 : decode cX10_keptWrong 17 = .ok (.invokestatic 63, 3) := by decide +kernel
theorem dX10_keptWrong_20 : decode cX10_keptWrong 20 = .ok (.ifCond .eq 16, 3) := by decide +kernel
theorem dX10_keptWrong_23 : decode cX10_keptWrong 23 = .ok (.aload_n 0, 1) := by decide +kernel
theorem dX10_keptWrong_24 : decode cX10_keptWrong 24 = .ok (.aload_n 0, 1) := by decide +kernel
theorem dX10_keptWrong_25 : decode cX10_keptWrong 25 = .ok (.iload_n 2, 1) := by decide +kernel
theorem dX10_keptWrong_26 : decode cX10_keptWrong 26 = .ok (.invokevirtual 237, 3) := by decide +kernel
theorem dX10_keptWrong_29 : decode cX10_keptWrong 29 = .ok (.invokevirtual 249, 3) := by decide +kernel
theorem dX10_keptWrong_32 : decode cX10_keptWrong 32 = .ok (.iload_n 1, 1) := by decide +kernel
theorem dX10_keptWrong_33 : decode cX10_keptWrong 33 = .ok (.if_icmp .ge 5, 3) := by decide +kernel
theorem dX10_keptWrong_36 : decode cX10_keptWrong 36 = .ok (.iload_n 2, 1) := by decide +kernel
theorem dX10_keptWrong_37 : decode cX10_keptWrong 37 = .ok (.ireturn, 1) := by decide +kernel
theorem dX10_keptWrong_38 : decode cX10_keptWrong 38 = .ok (.aload_n 0, 1) := by decide +kernel
theorem dX10_keptWrong_39 : decode cX10_keptWrong 39 = .ok (.iload_n 2, 1) := by decide +kernel
theorem dX10_keptWrong_40 : decode cX10_keptWrong 40 = .ok (.iconst 1, 1) := by decide +kernel
theorem dX10_keptWrong_41 : decode cX10_keptWrong 41 = .ok (.iadd, 1) := by decide +kernel
theorem dX10_keptWrong_42 : decode cX10_keptWrong 42 = .ok (.invokevirtual 237, 3) := by decide +kernel
theorem dX10_keptWrong_45 : decode cX10_keptWrong 45 = .ok (.i2l, 1) := by decide +kernel
theorem dX10_keptWrong_46 : decode cX10_keptWrong 46 = .ok (.lconst 0, 1) := by decide +kernel
theorem dX10_keptWrong_47 : decode cX10_keptWrong 47 = .ok (.ldc2_w 150, 3) := by decide +kernel
theorem dX10_keptWrong_50 : decode cX10_keptWrong 50 = .ok (.invokestatic 63, 3) := by decide +kernel
theorem dX10_keptWrong_53 : decode cX10_keptWrong 53 = .ok (.ifCond .ne 7, 3) := by decide +kernel
theorem dX10_keptWrong_56 : decode cX10_keptWrong 56 = .ok (.iload_n 2, 1) := by decide +kernel
theorem dX10_keptWrong_57 : decode cX10_keptWrong 57 = .ok (.iconst 1, 1) := by decide +kernel
theorem dX10_keptWrong_58 : decode cX10_keptWrong 58 = .ok (.iadd, 1) := by decide +kernel
theorem dX10_keptWrong_59 : decode cX10_keptWrong 59 = .ok (.ireturn, 1) := by decide +kernel
theorem dX10_keptWrong_60 : decode cX10_keptWrong 60 = .ok (.aload_n 0, 1) := by decide +kernel
theorem dX10_keptWrong_61 : decode cX10_keptWrong 61 = .ok (.iload_n 2, 1) := by decide +kernel
theorem dX10_keptWrong_62 : decode cX10_keptWrong 62 = .ok (.invokevirtual 254, 3) := by decide +kernel
theorem dX10_keptWrong_65 : decode cX10_keptWrong 65 = .ok (.istore_n 3, 1) := by decide +kernel
theorem dX10_keptWrong_66 : decode cX10_keptWrong 66 = .ok (.iload_n 3, 1) := by decide +kernel
theorem dX10_keptWrong_67 : decode cX10_keptWrong 67 = .ok (.iconst (-1), 1) := by decide +kernel
theorem dX10_keptWrong_68 : decode cX10_keptWrong 68 = .ok (.if_icmp .eq 5, 3) := by decide +kernel
theorem dX10_keptWrong_71 : decode cX10_keptWrong 71 = .ok (.iload_n 3, 1) := by decide +kernel
theorem dX10_keptWrong_72 : decode cX10_keptWrong 72 = .ok (.ireturn, 1) := by decide +kernel
theorem dX10_keptWrong_73 : decode cX10_keptWrong 73 = .ok (.aload_n 0, 1) := by decide +kernel
theorem dX10_keptWrong_74 : decode cX10_keptWrong 74 = .ok (.iload_n 2, 1) := by decide +kernel
theorem dX10_keptWrong_75 : decode cX10_keptWrong 75 = .ok (.iconst 4, 1) := by decide +kernel
theorem dX10_keptWrong_76 : decode cX10_keptWrong 76 = .ok (.iadd, 1) := by decide +kernel
theorem dX10_keptWrong_77 : decode cX10_keptWrong 77 = .ok (.invokevirtual 237, 3) := by decide +kernel
theorem dX10_keptWrong_80 : decode cX10_keptWrong 80 = .ok (.istore 4, 2) := by decide +kernel
theorem dX10_keptWrong_82 : decode cX10_keptWrong 82 = .ok (.iload 4, 2) := by decide +kernel
theorem dX10_keptWrong_84 : decode cX10_keptWrong 84 = .ok (.i2l, 1) := by decide +kernel
theorem dX10_keptWrong_85 : decode cX10_keptWrong 85 = .ok (.lconst 1, 1) := by decide +kernel
theorem dX10_keptWrong_86 : decode cX10_keptWrong 86 = .ok (.aload_n 0, 1) := by decide +kernel
theorem dX10_keptWrong_87 : decode cX10_keptWrong 87 = .ok (.bipush 24, 2) := by decide +kernel
theorem dX10_keptWrong_89 : decode cX10_keptWrong 89 = .ok (.invokevirtual 237, 3) := by decide +kernel
theorem dX10_keptWrong_92 : decode cX10_keptWrong 92 = .ok (.i2l, 1) := by decide +kernel
theorem dX10_keptWrong_93 : decode cX10_keptWrong 93 = .ok (.invokestatic 63, 3) := by decide +kernel
theorem dX10_keptWrong_96 : decode cX10_keptWrong 96 = .ok (.istore 5, 2) := by decide +kernel
theorem dX10_keptWrong_98 : decode cX10_keptWrong 98 = .ok (.iconst 0, 1) := by decide +kernel
theorem dX10_keptWrong_99 : decode cX10_keptWrong 99 = .ok (.istore 6, 2) := by decide +kernel
theorem dX10_keptWrong_101 : decode cX10_keptWrong 101 = .ok (.iload 6, 2) := by decide +kernel
theorem dX10_keptWrong_103 : decode cX10_keptWrong 103 = .ok (.iload_n 1, 1) := by decide +kernel
theorem dX10_keptWrong_104 : decode cX10_keptWrong 104 = .ok (.if_icmp .ge 39, 3) := by decide +kernel
theorem dX10_keptWrong_107 : decode cX10_keptWrong 107 = .ok (.iload 5, 2) := by decide +kernel
theorem dX10_keptWrong_109 : decode cX10_keptWrong 109 = .ok (.ifCond .eq 34, 3) := by decide +kernel
theorem dX10_keptWrong_112 : decode cX10_keptWrong 112 = .ok (.aload_n 0, 1) := by decide +kernel
theorem dX10_keptWrong_113 : decode cX10_keptWrong 113 = .ok (.aload_n 0, 1) := by decide +kernel
theorem dX10_keptWrong_114 : decode cX10_keptWrong 114 = .ok (.getfield 32, 3) := by decide +kernel
theorem dX10_keptWrong_117 : decode cX10_keptWrong 117 = .ok (.iload 6, 2) := by decide +kernel
theorem dX10_keptWrong_119 : decode cX10_keptWrong 119 = .ok (.iaload, 1) := by decide +kernel
theorem dX10_keptWrong_120 : decode cX10_keptWrong 120 = .ok (.iconst 4, 1) := by decide +kernel
theorem dX10_keptWrong_121 : decode cX10_keptWrong 121 = .ok (.iadd, 1) := by decide +kernel
theorem dX10_keptWrong_122 : decode cX10_keptWrong 122 = .ok (.invokevirtual 237, 3) := by decide +kernel
theorem dX10_keptWrong_125 : decode cX10_keptWrong 125 = .ok (.iload 4, 2) := by decide +kernel
theorem dX10_keptWrong_127 : decode cX10_keptWrong 127 = .ok (.if_icmp .eq 7, 3) := by decide +kernel
theorem dX10_keptWrong_130 : decode cX10_keptWrong 130 = .ok (.iconst 1, 1) := by decide +kernel
theorem dX10_keptWrong_131 : decode cX10_keptWrong 131 = .ok (.goto 4, 3) := by decide +kernel
theorem dX10_keptWrong_134 : decode cX10_keptWrong 134 = .ok (.iconst 0, 1) := by decide +kernel
theorem dX10_keptWrong_135 : decode cX10_keptWrong 135 = .ok (.istore 5, 2) := by decide +kernel
theorem dX10_keptWrong_137 : decode cX10_keptWrong 137 = .ok (.iinc 6 1, 3) := by decide +kernel
theorem dX10_keptWrong_140 : decode cX10_keptWrong 140 = .ok (.goto (-39), 3) := by decide +kernel
theorem dX10_keptWrong_143 : decode cX10_keptWrong 143 = .ok (.iload 5, 2) := by decide +kernel
theorem dX10_keptWrong_145 : decode cX10_keptWrong 145 = .ok (.ifCond .eq 41, 3) := by decide +kernel
theorem dX10_keptWrong_148 : decode cX10_keptWrong 148 = .ok (.aload_n 0, 1) := by decide +kernel
theorem dX10_keptWrong_149 : decode cX10_keptWrong 149 = .ok (.iload_n 2, 1) := by decide +kernel
theorem dX10_keptWrong_150 : decode cX10_keptWrong 150 = .ok (.iconst 1, 1) := by decide +kernel
theorem dX10_keptWrong_151 : decode cX10_keptWrong 151 = .ok (.iadd, 1) := by decide +kernel
theorem dX10_keptWrong_152 : decode cX10_keptWrong 152 = .ok (.invokevirtual 237, 3) := by decide +kernel
theorem dX10_keptWrong_155 : decode cX10_keptWrong 155 = .ok (.iconst 1, 1) := by decide +kernel
theorem dX10_keptWrong_156 : decode cX10_keptWrong 156 = .ok (.if_icmp .ne 34, 3) := by decide +kernel
theorem dX10_keptWrong_159 : decode cX10_keptWrong 159 = .ok (.iload 4, 2) := by decide +kernel
theorem dX10_keptWrong_161 : decode cX10_keptWrong 161 = .ok (.aload_n 0, 1) := by decide +kernel
theorem dX10_keptWrong_162 : decode cX10_keptWrong 162 = .ok (.aload_n 0, 1) := by decide +kernel
theorem dX10_keptWrong_163 : decode cX10_keptWrong 163 = .ok (.getfield 32, 3) := by decide +kernel
theorem dX10_keptWrong_166 : decode cX10_keptWrong 166 = .ok (.aload_n 0, 1) := by decide +kernel
theorem dX10_keptWrong_167 : decode cX10_keptWrong 167 = .ok (.aload_n 0, 1) := by decide +kernel
theorem dX10_keptWrong_168 : decode cX10_keptWrong 168 = .ok (.iload_n 2, 1) := by decide +kernel
theorem dX10_keptWrong_169 : decode cX10_keptWrong 169 = .ok (.iconst 2, 1) := by decide +kernel
theorem dX10_keptWrong_170 : decode cX10_keptWrong 170 = .ok (.iadd, 1) := by decide +kernel
theorem dX10_keptWrong_171 : decode cX10_keptWrong 171 = .ok (.invokevirtual 237, 3) := by decide +kernel
theorem dX10_keptWrong_174 : decode cX10_keptWrong 174 = .ok (.invokevirtual 249, 3) := by decide +kernel
theorem dX10_keptWrong_177 : decode cX10_keptWrong 177 = .ok (.iaload, 1) := by decide +kernel
theorem dX10_keptWrong_178 : decode cX10_keptWrong 178 = .ok (.iconst 4, 1) := by decide +kernel
theorem dX10_keptWrong_179 : decode cX10_keptWrong 179 = .ok (.iadd, 1) := by decide +kernel
theorem dX10_keptWrong_180 : decode cX10_keptWrong 180 = .ok (.invokevirtual 237, 3) := by decide +kernel
theorem dX10_keptWrong_183 : decode cX10_keptWrong 183 = .ok (.if_icmp .gt 7, 3) := by decide +kernel
theorem dX10_keptWrong_186 : decode cX10_keptWrong 186 = .ok (.iload_n 2, 1) := by decide +kernel
theorem dX10_keptWrong_187 : decode cX10_keptWrong 187 = .ok (.iconst 4, 1) := by decide +kernel
theorem dX10_keptWrong_188 : decode cX10_keptWrong 188 = .ok (.iadd, 1) := by decide +kernel
theorem dX10_keptWrong_189 : decode cX10_keptWrong 189 = .ok (.ireturn, 1) := by decide +kernel
theorem dX10_keptWrong_190 : decode cX10_keptWrong 190 = .ok (.iconst 0, 1) := by decide +kernel
theorem dX10_keptWrong_191 : decode cX10_keptWrong 191 = .ok (.istore 6, 2) := by decide +kernel
theorem dX10_keptWrong_193 : decode cX10_keptWrong 193 = .ok (.iload 6, 2) := by decide +kernel
theorem dX10_keptWrong_195 : decode cX10_keptWrong 195 = .ok (.aload_n 0, 1) := by decide +kernel
theorem dX10_keptWrong_196 : decode cX10_keptWrong 196 = .ok (.iload_n 2, 1) := by decide +kernel
theorem dX10_keptWrong_197 : decode cX10_keptWrong 197 = .ok (.iconst 5, 1) := by decide +kernel
theorem dX10_keptWrong_198 : decode cX10_keptWrong 198 = .ok (.iadd, 1) := by decide +kernel
theorem dX10_keptWrong_199 : decode cX10_keptWrong 199 = .ok (.invokevirtual 237, 3) := by decide +kernel
theorem dX10_keptWrong_202 : decode cX10_keptWrong 202 = .ok (.if_icmp .ge 35, 3) := by decide +kernel
theorem dX10_keptWrong_205 : decode cX10_keptWrong 205 = .ok (.aload_n 0, 1) := by decide +kernel
theorem dX10_keptWrong_206 : decode cX10_keptWrong 206 = .ok (.aload_n 0, 1) := by decide +kernel
theorem dX10_keptWrong_207 : decode cX10_keptWrong 207 = .ok (.iload_n 2, 1) := by decide +kernel
theorem dX10_keptWrong_208 : decode cX10_keptWrong 208 = .ok (.bipush 6, 2) := by decide +kernel
theorem dX10_keptWrong_210 : decode cX10_keptWrong 210 = .ok (.iadd, 1) := by decide +kernel
theorem dX10_keptWrong_211 : decode cX10_keptWrong 211 = .ok (.iload 6, 2) := by decide +kernel
theorem dX10_keptWrong_213 : decode cX10_keptWrong 213 = .ok (.iadd, 1) := by decide +kernel
theorem dX10_keptWrong_214 : decode cX10_keptWrong 214 = .ok (.invokevirtual 237, 3) := by decide +kernel
theorem dX10_keptWrong_217 : decode cX10_keptWrong 217 = .ok (.invokevirtual 257, 3) := by decide +kernel
theorem dX10_keptWrong_220 : decode cX10_keptWrong 220 = .ok (.ifCond .ne 11, 3) := by decide +kernel
theorem dX10_keptWrong_223 : decode cX10_keptWrong 223 = .ok (.iload_n 2, 1) := by decide +kernel
theorem dX10_keptWrong_224 : decode cX10_keptWrong 224 = .ok (.bipush 6, 2) := by decide +kernel
theorem dX10_keptWrong_226 : decode cX10_keptWrong 226 = .ok (.iadd, 1) := by decide +kernel
theorem dX10_keptWrong_227 : decode cX10_keptWrong 227 = .ok (.iload 6, 2) := by decide +kernel
theorem dX10_keptWrong_229 : decode cX10_keptWrong 229 = .ok (.iadd, 1) := by decide +kernel
theorem dX10_keptWrong_230 : decode cX10_keptWrong 230 = .ok (.ireturn, 1) := by decide +kernel
theorem dX10_keptWrong_231 : decode cX10_keptWrong 231 = .ok (.iinc 6 1, 3) := by decide +kernel
theorem dX10_keptWrong_234 : decode cX10_keptWrong 234 = .ok (.goto (-41), 3) := by decide +kernel
theorem dX10_keptWrong_237 : decode cX10_keptWrong 237 = .ok (.iconst (-1), 1) := by decide +kernel
theorem dX10_keptWrong_238 : decode cX10_keptWrong 238 = .ok (.ireturn, 1) := by decide +kernel
theorem dX10_meaningWrong_0 : decode cX10_meaningWrong 0 = .ok (.aload_n 0, 1) := by decide +kernel
theorem dX10_meaningWrong_1 : decode cX10_meaningWrong 1 = .ok (.invokevirtual 260, 3) := by decide +kernel
theorem dX10_meaningWrong_4 : decode cX10_meaningWrong 4 = .ok (.iconst 0, 1) := by decide +kernel
theorem dX10_meaningWrong_5 : decode cX10_meaningWrong 5 = .ok (.istore_n 1, 1) := by decide +kernel
theorem dX10_meaningWrong_6 : decode cX10_meaningWrong 6 = .ok (.iload_n 1, 1) := by decide +kernel
theorem dX10_meaningWrong_7 : decode cX10_meaningWrong 7 = .ok (.bipush 24, 2) := by decide +kernel
theorem dX10_meaningWrong_9 : decode cX10_meaningWrong 9 = .ok (.if_icmp .ge 23, 3) := by decide +kernel
theorem dX10_meaningWrong_12 : decode cX10_meaningWrong 12 = .ok (.aload_n 0, 1) := by decide +kernel
theorem dX10_meaningWrong_13 : decode cX10_meaningWrong 13 = .ok (.aload_n 0, 1) := by decide +kernel
theorem dX10_meaningWrong_14 : decode cX10_meaningWrong 14 = .ok (.iload_n 1, 1) := by decide +kernel
theorem dX10_meaningWrong_15 : decode cX10_meaningWrong 15 = .ok (.invokevirtual 237, 3) := by decide +kernel
theorem dX10_meaningWrong_18 : decode cX10_meaningWrong 18 = .ok (.invokevirtual 257, 3) := by decide +kernel
theorem dX10_meaningWrong_21 : decode cX10_meaningWrong 21 = .ok (.ifCond .ne 5, 3) := by decide +kernel
theorem dX10_meaningWrong_24 : decode cX10_meaningWrong 24 = .ok (.iload_n 1, 1) := by decide +kernel
theorem dX10_meaningWrong_25 : decode cX10_meaningWrong 25 = .ok (.ireturn, 1) := by decide +kernel
theorem dX10_meaningWrong_26 : decode cX10_meaningWrong 26 = .ok (.iinc 1 1, 3) := by decide +kernel
theorem dX10_meaningWrong_29 : decode cX10_meaningWrong 29 = .ok (.goto (-23), 3) := by decide +kernel
theorem dX10_meaningWrong_32 : decode cX10_meaningWrong 32 = .ok (.iconst 0, 1) := by decide +kernel
theorem dX10_meaningWrong_33 : decode cX10_meaningWrong 33 = .ok (.istore_n 1, 1) := by decide +kernel
theorem dX10_meaningWrong_34 : decode cX10_meaningWrong 34 = .ok (.iload_n 1, 1) := by decide +kernel
theorem dX10_meaningWrong_35 : decode cX10_meaningWrong 35 = .ok (.aload_n 0, 1) := by decide +kernel
theorem dX10_meaningWrong_36 : decode cX10_meaningWrong 36 = .ok (.bipush 24, 2) := by decide +kernel
theorem dX10_meaningWrong_38 : decode cX10_meaningWrong 38 = .ok (.invokevirtual 237, 3) := by decide +kernel
theorem dX10_meaningWrong_41 : decode cX10_meaningWrong 41 = .ok (.if_icmp .ge 22, 3) := by decide +kernel
theorem dX10_meaningWrong_44 : decode cX10_meaningWrong 44 = .ok (.aload_n 0, 1) := by decide +kernel
theorem dX10_meaningWrong_45 : decode cX10_meaningWrong 45 = .ok (.iload_n 1, 1) := by decide +kernel
theorem dX10_meaningWrong_46 : decode cX10_meaningWrong 46 = .ok (.invokevirtual 263, 3) := by decide +kernel
theorem dX10_meaningWrong_49 : decode cX10_meaningWrong 49 = .ok (.istore_n 2, 1) := by decide +kernel
theorem dX10_meaningWrong_50 : decode cX10_meaningWrong 50 = .ok (.iload_n 2, 1) := by decide +kernel
theorem dX10_meaningWrong_51 : decode cX10_meaningWrong 51 = .ok (.iconst (-1), 1) := by decide +kernel
theorem dX10_meaningWrong_52 : decode cX10_meaningWrong 52 = .ok (.if_icmp .eq 5, 3) := by decide +kernel
theorem dX10_meaningWrong_55 : decode cX10_meaningWrong 55 = .ok (.iload_n 2, 1) := by decide +kernel
theorem dX10_meaningWrong_56 : decode cX10_meaningWrong 56 = .ok (.ireturn, 1) := by decide +kernel
theorem dX10_meaningWrong_57 : decode cX10_meaningWrong 57 = .ok (.iinc 1 1, 3) := by decide +kernel
theorem dX10_meaningWrong_60 : decode cX10_meaningWrong 60 = .ok (.goto (-26), 3) := by decide +kernel
theorem dX10_meaningWrong_63 : decode cX10_meaningWrong 63 = .ok (.iconst (-1), 1) := by decide +kernel
theorem dX10_meaningWrong_64 : decode cX10_meaningWrong 64 = .ok (.istore_n 1, 1) := by decide +kernel
theorem dX10_meaningWrong_65 : decode cX10_meaningWrong 65 = .ok (.aload_n 0, 1) := by decide +kernel
theorem dX10_meaningWrong_66 : decode cX10_meaningWrong 66 = .ok (.getfield 244, 3) := by decide +kernel
theorem dX10_meaningWrong_69 : decode cX10_meaningWrong 69 = .ok (.iconst 1, 1) := by decide +kernel
theorem dX10_meaningWrong_70 : decode cX10_meaningWrong 70 = .ok (.iadd, 1) := by decide +kernel
theorem dX10_meaningWrong_71 : decode cX10_meaningWrong 71 = .ok (.istore_n 2, 1) := by decide +kernel
theorem dX10_meaningWrong_72 : decode cX10_meaningWrong 72 = .ok (.iload_n 2, 1) := by decide +kernel
theorem dX10_meaningWrong_73 : decode cX10_meaningWrong 73 = .ok (.aload_n 0, 1) := by decide +kernel
theorem dX10_meaningWrong_74 : decode cX10_meaningWrong 74 = .ok (.getfield 9, 3) := by decide +kernel
theorem dX10_meaningWrong_77 : decode cX10_meaningWrong 77 = .ok (.bipush 15, 2) := by decide +kernel
theorem dX10_meaningWrong_79 : decode cX10_meaningWrong 79 = .ok (.iaload, 1) := by decide +kernel
theorem dX10_meaningWrong_80 : decode cX10_meaningWrong 80 = .ok (.iconst 1, 1) := by decide +kernel
theorem dX10_meaningWrong_81 : decode cX10_meaningWrong 81 = .ok (.isub, 1) := by decide +kernel
theorem dX10_meaningWrong_82 : decode cX10_meaningWrong 82 = .ok (.if_icmp .ge 50, 3) := by decide +kernel
theorem dX10_meaningWrong_85 : decode cX10_meaningWrong 85 = .ok (.aload_n 0, 1) := by decide +kernel
theorem dX10_meaningWrong_86 : decode cX10_meaningWrong 86 = .ok (.iload_n 2, 1) := by decide +kernel
theorem dX10_meaningWrong_87 : decode cX10_meaningWrong 87 = .ok (.invokevirtual 237, 3) := by decide +kernel
theorem dX10_meaningWrong_90 : decode cX10_meaningWrong 90 = .ok (.iload_n 1, 1) := by decide +kernel
theorem dX10_meaningWrong_91 : decode cX10_meaningWrong 91 = .ok (.if_icmp .le 27, 3) := by decide +kernel
theorem dX10_meaningWrong_94 : decode cX10_meaningWrong 94 = .ok (.aload_n 0, 1) := by decide +kernel
theorem dX10_meaningWrong_95 : decode cX10_meaningWrong 95 = .ok (.iload_n 2, 1) := by decide +kernel
theorem dX10_meaningWrong_96 : decode cX10_meaningWrong 96 = .ok (.invokevirtual 237, 3) := by decide +kernel
theorem dX10_meaningWrong_99 : decode cX10_meaningWrong 99 = .ok (.sipush 499, 3) := by decide +kernel
theorem dX10_meaningWrong_102 : decode cX10_meaningWrong 102 = .ok (.if_icmp .gt 16, 3) := by decide +kernel
theorem dX10_meaningWrong_105 : decode cX10_meaningWrong 105 = .ok (.aload_n 0, 1) := by decide +kernel
theorem dX10_meaningWrong_106 : decode cX10_meaningWrong 106 = .ok (.aload_n 0, 1) := by decide +kernel
theorem dX10_meaningWrong_107 : decode cX10_meaningWrong 107 = .ok (.iload_n 2, 1) := by decide +kernel
theorem dX10_meaningWrong_108 : decode cX10_meaningWrong 108 = .ok (.invokevirtual 237, 3) := by decide +kernel
theorem dX10_meaningWrong_111 : decode cX10_meaningWrong 111 = .ok (.invokevirtual 249, 3) := by decide +kernel
theorem dX10_meaningWrong_114 : decode cX10_meaningWrong 114 = .ok (.iconst (-1), 1) := by decide +kernel
theorem dX10_meaningWrong_115 : decode cX10_meaningWrong 115 = .ok (.if_icmp .eq 5, 3) := by decide +kernel
theorem dX10_meaningWrong_118 : decode cX10_meaningWrong 118 = .ok (.iload_n 2, 1) := by decide +kernel
theorem dX10_meaningWrong_119 : decode cX10_meaningWrong 119 = .ok (.ireturn, 1) := by decide +kernel
theorem dX10_meaningWrong_120 : decode cX10_meaningWrong 120 = .ok (.aload_n 0, 1) := by decide +kernel
theorem dX10_meaningWrong_121 : decode cX10_meaningWrong 121 = .ok (.iload_n 2, 1) := by decide +kernel
theorem dX10_meaningWrong_122 : decode cX10_meaningWrong 122 = .ok (.invokevirtual 237, 3) := by decide +kernel
theorem dX10_meaningWrong_125 : decode cX10_meaningWrong 125 = .ok (.istore_n 1, 1) := by decide +kernel
theorem dX10_meaningWrong_126 : decode cX10_meaningWrong 126 = .ok (.iinc 2 1, 3) := by decide +kernel
theorem dX10_meaningWrong_129 : decode cX10_meaningWrong 129 = .ok (.goto (-57), 3) := by decide +kernel
theorem dX10_meaningWrong_132 : decode cX10_meaningWrong 132 = .ok (.iconst (-1), 1) := by decide +kernel
theorem dX10_meaningWrong_133 : decode cX10_meaningWrong 133 = .ok (.ireturn, 1) := by decide +kernel
theorem dX10_check_0 : decode cX10_check 0 = .ok (.aload_n 0, 1) := by decide +kernel
theorem dX10_check_1 : decode cX10_check 1 = .ok (.getfield 9, 3) := by decide +kernel
theorem dX10_check_4 : decode cX10_check 4 = .ok (.bipush 15, 2) := by decide +kernel
theorem dX10_check_6 : decode cX10_check 6 = .ok (.iaload, 1) := by decide +kernel
theorem dX10_check_7 : decode cX10_check 7 = .ok (.ifCond .ne 6, 3) := by decide +kernel
theorem dX10_check_10 : decode cX10_check 10 = .ok (.bipush (-104), 2) := by decide +kernel
theorem dX10_check_12 : decode cX10_check 12 = .ok (.ireturn, 1) := by decide +kernel
theorem dX10_check_13 : decode cX10_check 13 = .ok (.aload_n 0, 1) := by decide +kernel
theorem dX10_check_14 : decode cX10_check 14 = .ok (.invokevirtual 266, 3) := by decide +kernel
theorem dX10_check_17 : decode cX10_check 17 = .ok (.istore_n 1, 1) := by decide +kernel
theorem dX10_check_18 : decode cX10_check 18 = .ok (.iload_n 1, 1) := by decide +kernel
theorem dX10_check_19 : decode cX10_check 19 = .ok (.iconst (-1), 1) := by decide +kernel
theorem dX10_check_20 : decode cX10_check 20 = .ok (.if_icmp .ne 10, 3) := by decide +kernel
theorem dX10_check_23 : decode cX10_check 23 = .ok (.aload_n 0, 1) := by decide +kernel
theorem dX10_check_24 : decode cX10_check 24 = .ok (.invokevirtual 269, 3) := by decide +kernel
theorem dX10_check_27 : decode cX10_check 27 = .ok (.goto 4, 3) := by decide +kernel
theorem dX10_check_30 : decode cX10_check 30 = .ok (.iload_n 1, 1) := by decide +kernel
theorem dX10_check_31 : decode cX10_check 31 = .ok (.istore_n 1, 1) := by decide +kernel
theorem dX10_check_32 : decode cX10_check 32 = .ok (.iload_n 1, 1) := by decide +kernel
theorem dX10_check_33 : decode cX10_check 33 = .ok (.iconst (-1), 1) := by decide +kernel
theorem dX10_check_34 : decode cX10_check 34 = .ok (.if_icmp .eq 5, 3) := by decide +kernel
theorem dX10_check_37 : decode cX10_check 37 = .ok (.iload_n 1, 1) := by decide +kernel
theorem dX10_check_38 : decode cX10_check 38 = .ok (.ireturn, 1) := by decide +kernel
theorem dX10_check_39 : decode cX10_check 39 = .ok (.iconst 1, 1) := by decide +kernel
theorem dX10_check_40 : decode cX10_check 40 = .ok (.istore_n 2, 1) := by decide +kernel
theorem dX10_check_41 : decode cX10_check 41 = .ok (.iconst 0, 1) := by decide +kernel
theorem dX10_check_42 : decode cX10_check 42 = .ok (.istore_n 3, 1) := by decide +kernel
theorem dX10_check_43 : decode cX10_check 43 = .ok (.iload_n 3, 1) := by decide +kernel
theorem dX10_check_44 : decode cX10_check 44 = .ok (.aload_n 0, 1) := by decide +kernel
theorem dX10_check_45 : decode cX10_check 45 = .ok (.getfield 9, 3) := by decide +kernel
theorem dX10_check_48 : decode cX10_check 48 = .ok (.bipush 15, 2) := by decide +kernel
theorem dX10_check_50 : decode cX10_check 50 = .ok (.iaload, 1) := by decide +kernel
theorem dX10_check_51 : decode cX10_check 51 = .ok (.iconst 1, 1) := by decide +kernel
theorem dX10_check_52 : decode cX10_check 52 = .ok (.isub, 1) := by decide +kernel
theorem dX10_check_53 : decode cX10_check 53 = .ok (.if_icmp .ge 20, 3) := by decide +kernel
theorem dX10_check_56 : decode cX10_check 56 = .ok (.bipush 31, 2) := by decide +kernel
theorem dX10_check_58 : decode cX10_check 58 = .ok (.iload_n 2, 1) := by decide +kernel
theorem dX10_check_59 : decode cX10_check 59 = .ok (.imul, 1) := by decide +kernel
theorem dX10_check_60 : decode cX10_check 60 = .ok (.aload_n 0, 1) := by decide +kernel
theorem dX10_check_61 : decode cX10_check 61 = .ok (.iload_n 3, 1) := by decide +kernel
theorem dX10_check_62 : decode cX10_check 62 = .ok (.invokevirtual 237, 3) := by decide +kernel
theorem dX10_check_65 : decode cX10_check 65 = .ok (.iadd, 1) := by decide +kernel
theorem dX10_check_66 : decode cX10_check 66 = .ok (.istore_n 2, 1) := by decide +kernel
theorem dX10_check_67 : decode cX10_check 67 = .ok (.iinc 3 1, 3) := by decide +kernel
theorem dX10_check_70 : decode cX10_check 70 = .ok (.goto (-27), 3) := by decide +kernel
theorem dX10_check_73 : decode cX10_check 73 = .ok (.iload_n 2, 1) := by decide +kernel
theorem dX10_check_74 : decode cX10_check 74 = .ok (.aload_n 0, 1) := by decide +kernel
theorem dX10_check_75 : decode cX10_check 75 = .ok (.aload_n 0, 1) := by decide +kernel
theorem dX10_check_76 : decode cX10_check 76 = .ok (.getfield 9, 3) := by decide +kernel
theorem dX10_check_79 : decode cX10_check 79 = .ok (.bipush 15, 2) := by decide +kernel
theorem dX10_check_81 : decode cX10_check 81 = .ok (.iaload, 1) := by decide +kernel
theorem dX10_check_82 : decode cX10_check 82 = .ok (.iconst 1, 1) := by decide +kernel
theorem dX10_check_83 : decode cX10_check 83 = .ok (.isub, 1) := by decide +kernel
theorem dX10_check_84 : decode cX10_check 84 = .ok (.invokevirtual 237, 3) := by decide +kernel
theorem dX10_check_87 : decode cX10_check 87 = .ok (.if_icmp .ne 7, 3) := by decide +kernel
theorem dX10_check_90 : decode cX10_check 90 = .ok (.iconst (-1), 1) := by decide +kernel
theorem dX10_check_91 : decode cX10_check 91 = .ok (.goto 12, 3) := by decide +kernel
theorem dX10_check_94 : decode cX10_check 94 = .ok (.aload_n 0, 1) := by decide +kernel
theorem dX10_check_95 : decode cX10_check 95 = .ok (.getfield 9, 3) := by decide +kernel
theorem dX10_check_98 : decode cX10_check 98 = .ok (.bipush 15, 2) := by decide +kernel
theorem dX10_check_100 : decode cX10_check 100 = .ok (.iaload, 1) := by decide +kernel
theorem dX10_check_101 : decode cX10_check 101 = .ok (.iconst 1, 1) := by decide +kernel
theorem dX10_check_102 : decode cX10_check 102 = .ok (.isub, 1) := by decide +kernel
theorem dX10_check_103 : decode cX10_check 103 = .ok (.ireturn, 1) := by decide +kernel
theorem dX10_isRegister_0 : decode cX10_isRegister 0 = .ok (.iload_n 0, 1) := by decide +kernel
theorem dX10_isRegister_1 : decode cX10_isRegister 1 = .ok (.i2l, 1) := by decide +kernel
theorem dX10_isRegister_2 : decode cX10_isRegister 2 = .ok (.lconst 0, 1) := by decide +kernel
theorem dX10_isRegister_3 : decode cX10_isRegister 3 = .ok (.ldc2_w 213, 3) := by decide +kernel
theorem dX10_isRegister_6 : decode cX10_isRegister 6 = .ok (.invokestatic 63, 3) := by decide +kernel
theorem dX10_isRegister_9 : decode cX10_isRegister 9 = .ok (.ireturn, 1) := by decide +kernel
theorem dX10_areKnown_0 : decode cX10_areKnown 0 = .ok (.iload_n 0, 1) := by decide +kernel
theorem dX10_areKnown_1 : decode cX10_areKnown 1 = .ok (.tableswitch 157 0 12 #[67, 72, 72, 92, 92, 112, 112, 72, 67, 157, 157, 67, 132], 67) := by decide +kernel
theorem dX10_areKnown_68 : decode cX10_areKnown 68 = .ok (.iload_n 1, 1) := by decide +kernel
theorem dX10_areKnown_69 : decode cX10_areKnown 69 = .ok (.invokestatic 272, 3) := by decide +kernel
theorem dX10_areKnown_72 : decode cX10_areKnown 72 = .ok (.ireturn, 1) := by decide +kernel
theorem dX10_areKnown_73 : decode cX10_areKnown 73 = .ok (.iload_n 1, 1) := by decide +kernel
theorem dX10_areKnown_74 : decode cX10_areKnown 74 = .ok (.invokestatic 272, 3) := by decide +kernel
theorem dX10_areKnown_77 : decode cX10_areKnown 77 = .ok (.ifCond .eq 14, 3) := by decide +kernel
theorem dX10_areKnown_80 : decode cX10_areKnown 80 = .ok (.iload_n 3, 1) := by decide +kernel
theorem dX10_areKnown_81 : decode cX10_areKnown 81 = .ok (.invokestatic 272, 3) := by decide +kernel
theorem dX10_areKnown_84 : decode cX10_areKnown 84 = .ok (.ifCond .eq 7, 3) := by decide +kernel
theorem dX10_areKnown_87 : decode cX10_areKnown 87 = .ok (.iconst 1, 1) := by decide +kernel
theorem dX10_areKnown_88 : decode cX10_areKnown 88 = .ok (.goto 4, 3) := by decide +kernel
theorem dX10_areKnown_91 : decode cX10_areKnown 91 = .ok (.iconst 0, 1) := by decide +kernel
theorem dX10_areKnown_92 : decode cX10_areKnown 92 = .ok (.ireturn, 1) := by decide +kernel
theorem dX10_areKnown_93 : decode cX10_areKnown 93 = .ok (.iload_n 1, 1) := by decide +kernel
theorem dX10_areKnown_94 : decode cX10_areKnown 94 = .ok (.invokestatic 200, 3) := by decide +kernel
theorem dX10_areKnown_97 : decode cX10_areKnown 97 = .ok (.ifCond .eq 14, 3) := by decide +kernel
theorem dX10_areKnown_100 : decode cX10_areKnown 100 = .ok (.iload_n 2, 1) := by decide +kernel
theorem dX10_areKnown_101 : decode cX10_areKnown 101 = .ok (.invokestatic 272, 3) := by decide +kernel
theorem dX10_areKnown_104 : decode cX10_areKnown 104 = .ok (.ifCond .eq 7, 3) := by decide +kernel
theorem dX10_areKnown_107 : decode cX10_areKnown 107 = .ok (.iconst 1, 1) := by decide +kernel
theorem dX10_areKnown_108 : decode cX10_areKnown 108 = .ok (.goto 4, 3) := by decide +kernel
theorem dX10_areKnown_111 : decode cX10_areKnown 111 = .ok (.iconst 0, 1) := by decide +kernel
theorem dX10_areKnown_112 : decode cX10_areKnown 112 = .ok (.ireturn, 1) := by decide +kernel
theorem dX10_areKnown_113 : decode cX10_areKnown 113 = .ok (.iload_n 1, 1) := by decide +kernel
theorem dX10_areKnown_114 : decode cX10_areKnown 114 = .ok (.invokestatic 272, 3) := by decide +kernel
theorem dX10_areKnown_117 : decode cX10_areKnown 117 = .ok (.ifCond .eq 14, 3) := by decide +kernel
theorem dX10_areKnown_120 : decode cX10_areKnown 120 = .ok (.iload_n 2, 1) := by decide +kernel
theorem dX10_areKnown_121 : decode cX10_areKnown 121 = .ok (.invokestatic 272, 3) := by decide +kernel
theorem dX10_areKnown_124 : decode cX10_areKnown 124 = .ok (.ifCond .eq 7, 3) := by decide +kernel
theorem dX10_areKnown_127 : decode cX10_areKnown 127 = .ok (.iconst 1, 1) := by decide +kernel
theorem dX10_areKnown_128 : decode cX10_areKnown 128 = .ok (.goto 4, 3) := by decide +kernel
theorem dX10_areKnown_131 : decode cX10_areKnown 131 = .ok (.iconst 0, 1) := by decide +kernel
theorem dX10_areKnown_132 : decode cX10_areKnown 132 = .ok (.ireturn, 1) := by decide +kernel
theorem dX10_areKnown_133 : decode cX10_areKnown 133 = .ok (.iload_n 1, 1) := by decide +kernel
theorem dX10_areKnown_134 : decode cX10_areKnown 134 = .ok (.i2l, 1) := by decide +kernel
theorem dX10_areKnown_135 : decode cX10_areKnown 135 = .ok (.lconst 0, 1) := by decide +kernel
theorem dX10_areKnown_136 : decode cX10_areKnown 136 = .ok (.ldc2_w 219, 3) := by decide +kernel
theorem dX10_areKnown_139 : decode cX10_areKnown 139 = .ok (.invokestatic 63, 3) := by decide +kernel
theorem dX10_areKnown_142 : decode cX10_areKnown 142 = .ok (.ifCond .eq 14, 3) := by decide +kernel
theorem dX10_areKnown_145 : decode cX10_areKnown 145 = .ok (.iload_n 3, 1) := by decide +kernel
theorem dX10_areKnown_146 : decode cX10_areKnown 146 = .ok (.invokestatic 272, 3) := by decide +kernel
theorem dX10_areKnown_149 : decode cX10_areKnown 149 = .ok (.ifCond .eq 7, 3) := by decide +kernel
theorem dX10_areKnown_152 : decode cX10_areKnown 152 = .ok (.iconst 1, 1) := by decide +kernel
theorem dX10_areKnown_153 : decode cX10_areKnown 153 = .ok (.goto 4, 3) := by decide +kernel
theorem dX10_areKnown_156 : decode cX10_areKnown 156 = .ok (.iconst 0, 1) := by decide +kernel
theorem dX10_areKnown_157 : decode cX10_areKnown 157 = .ok (.ireturn, 1) := by decide +kernel
theorem dX10_areKnown_158 : decode cX10_areKnown 158 = .ok (.iconst 1, 1) := by decide +kernel
theorem dX10_areKnown_159 : decode cX10_areKnown 159 = .ok (.ireturn, 1) := by decide +kernel
theorem dX10_act_0 : decode cX10_act 0 = .ok (.iload_n 1, 1) := by decide +kernel
theorem dX10_act_1 : decode cX10_act 1 = .ok (.iload_n 2, 1) := by decide +kernel
theorem dX10_act_2 : decode cX10_act 2 = .ok (.iload_n 3, 1) := by decide +kernel
theorem dX10_act_3 : decode cX10_act 3 = .ok (.iload 4, 2) := by decide +kernel
theorem dX10_act_5 : decode cX10_act 5 = .ok (.invokestatic 275, 3) := by decide +kernel
theorem dX10_act_8 : decode cX10_act 8 = .ok (.ifCond .ne 6, 3) := by decide +kernel
theorem dX10_act_11 : decode cX10_act 11 = .ok (.bipush (-101), 2) := by decide +kernel
theorem dX10_act_13 : decode cX10_act 13 = .ok (.ireturn, 1) := by decide +kernel
theorem dX10_act_14 : decode cX10_act 14 = .ok (.iload_n 1, 1) := by decide +kernel
theorem dX10_act_15 : decode cX10_act 15 = .ok (.i2l, 1) := by decide +kernel
theorem dX10_act_16 : decode cX10_act 16 = .ok (.lconst 0, 1) := by decide +kernel
theorem dX10_act_17 : decode cX10_act 17 = .ok (.ldc2_w 279, 3) := by decide +kernel
theorem dX10_act_20 : decode cX10_act 20 = .ok (.invokestatic 63, 3) := by decide +kernel
theorem dX10_act_23 : decode cX10_act 23 = .ok (.ifCond .eq 52, 3) := by decide +kernel
theorem dX10_act_26 : decode cX10_act 26 = .ok (.iload_n 1, 1) := by decide +kernel
theorem dX10_act_27 : decode cX10_act 27 = .ok (.ifCond .ne 30, 3) := by decide +kernel
theorem dX10_act_30 : decode cX10_act 30 = .ok (.iload_n 3, 1) := by decide +kernel
theorem dX10_act_31 : decode cX10_act 31 = .ok (.i2l, 1) := by decide +kernel
theorem dX10_act_32 : decode cX10_act 32 = .ok (.lconst 0, 1) := by decide +kernel
theorem dX10_act_33 : decode cX10_act 33 = .ok (.ldc2_w 150, 3) := by decide +kernel
theorem dX10_act_36 : decode cX10_act 36 = .ok (.invokestatic 63, 3) := by decide +kernel
theorem dX10_act_39 : decode cX10_act 39 = .ok (.ifCond .eq 36, 3) := by decide +kernel
theorem dX10_act_42 : decode cX10_act 42 = .ok (.iload_n 3, 1) := by decide +kernel
theorem dX10_act_43 : decode cX10_act 43 = .ok (.invokestatic 138, 3) := by decide +kernel
theorem dX10_act_46 : decode cX10_act 46 = .ok (.ifCond .eq 11, 3) := by decide +kernel
theorem dX10_act_49 : decode cX10_act 49 = .ok (.iload 4, 2) := by decide +kernel
theorem dX10_act_51 : decode cX10_act 51 = .ok (.sipush 300, 3) := by decide +kernel
theorem dX10_act_54 : decode cX10_act 54 = .ok (.if_icmp .gt 21, 3) := by decide +kernel
theorem dX10_act_57 : decode cX10_act 57 = .ok (.iload_n 1, 1) := by decide +kernel
theorem dX10_act_58 : decode cX10_act 58 = .ok (.bipush 9, 2) := by decide +kernel
theorem dX10_act_60 : decode cX10_act 60 = .ok (.if_icmp .ne 18, 3) := by decide +kernel
theorem dX10_act_63 : decode cX10_act 63 = .ok (.iload_n 2, 1) := by decide +kernel
theorem dX10_act_64 : decode cX10_act 64 = .ok (.i2l, 1) := by decide +kernel
theorem dX10_act_65 : decode cX10_act 65 = .ok (.lconst 0, 1) := by decide +kernel
theorem dX10_act_66 : decode cX10_act 66 = .ok (.ldc2_w 224, 3) := by decide +kernel
theorem dX10_act_69 : decode cX10_act 69 = .ok (.invokestatic 63, 3) := by decide +kernel
theorem dX10_act_72 : decode cX10_act 72 = .ok (.ifCond .ne 6, 3) := by decide +kernel
theorem dX10_act_75 : decode cX10_act 75 = .ok (.bipush (-102), 2) := by decide +kernel
theorem dX10_act_77 : decode cX10_act 77 = .ok (.ireturn, 1) := by decide +kernel
theorem dX10_act_78 : decode cX10_act 78 = .ok (.aload_n 0, 1) := by decide +kernel
theorem dX10_act_79 : decode cX10_act 79 = .ok (.getfield 9, 3) := by decide +kernel
theorem dX10_act_82 : decode cX10_act 82 = .ok (.bipush 11, 2) := by decide +kernel
theorem dX10_act_84 : decode cX10_act 84 = .ok (.iaload, 1) := by decide +kernel
theorem dX10_act_85 : decode cX10_act 85 = .ok (.bipush 40, 2) := by decide +kernel
theorem dX10_act_87 : decode cX10_act 87 = .ok (.if_icmp .ne 6, 3) := by decide +kernel
theorem dX10_act_90 : decode cX10_act 90 = .ok (.bipush (-104), 2) := by decide +kernel
theorem dX10_act_92 : decode cX10_act 92 = .ok (.ireturn, 1) := by decide +kernel
theorem dX10_act_93 : decode cX10_act 93 = .ok (.sipush 400, 3) := by decide +kernel
theorem dX10_act_96 : decode cX10_act 96 = .ok (.iconst 5, 1) := by decide +kernel
theorem dX10_act_97 : decode cX10_act 97 = .ok (.aload_n 0, 1) := by decide +kernel
theorem dX10_act_98 : decode cX10_act 98 = .ok (.getfield 9, 3) := by decide +kernel
theorem dX10_act_101 : decode cX10_act 101 = .ok (.bipush 11, 2) := by decide +kernel
theorem dX10_act_103 : decode cX10_act 103 = .ok (.iaload, 1) := by decide +kernel
theorem dX10_act_104 : decode cX10_act 104 = .ok (.imul, 1) := by decide +kernel
theorem dX10_act_105 : decode cX10_act 105 = .ok (.iadd, 1) := by decide +kernel
theorem dX10_act_106 : decode cX10_act 106 = .ok (.istore 6, 2) := by decide +kernel
theorem dX10_act_108 : decode cX10_act 108 = .ok (.aload_n 0, 1) := by decide +kernel
theorem dX10_act_109 : decode cX10_act 109 = .ok (.getfield 9, 3) := by decide +kernel
theorem dX10_act_112 : decode cX10_act 112 = .ok (.iload 6, 2) := by decide +kernel
theorem dX10_act_114 : decode cX10_act 114 = .ok (.iload_n 1, 1) := by decide +kernel
theorem dX10_act_115 : decode cX10_act 115 = .ok (.iastore, 1) := by decide +kernel
theorem dX10_act_116 : decode cX10_act 116 = .ok (.aload_n 0, 1) := by decide +kernel
theorem dX10_act_117 : decode cX10_act 117 = .ok (.getfield 9, 3) := by decide +kernel
theorem dX10_act_120 : decode cX10_act 120 = .ok (.iload 6, 2) := by decide +kernel
theorem dX10_act_122 : decode cX10_act 122 = .ok (.iconst 1, 1) := by decide +kernel
theorem dX10_act_123 : decode cX10_act 123 = .ok (.iadd, 1) := by decide +kernel
theorem dX10_act_124 : decode cX10_act 124 = .ok (.iload_n 2, 1) := by decide +kernel
theorem dX10_act_125 : decode cX10_act 125 = .ok (.iastore, 1) := by decide +kernel
theorem dX10_act_126 : decode cX10_act 126 = .ok (.aload_n 0, 1) := by decide +kernel
theorem dX10_act_127 : decode cX10_act 127 = .ok (.getfield 9, 3) := by decide +kernel
theorem dX10_act_130 : decode cX10_act 130 = .ok (.iload 6, 2) := by decide +kernel
theorem dX10_act_132 : decode cX10_act 132 = .ok (.iconst 2, 1) := by decide +kernel
theorem dX10_act_133 : decode cX10_act 133 = .ok (.iadd, 1) := by decide +kernel
theorem dX10_act_134 : decode cX10_act 134 = .ok (.iload_n 3, 1) := by decide +kernel
theorem dX10_act_135 : decode cX10_act 135 = .ok (.iastore, 1) := by decide +kernel
theorem dX10_act_136 : decode cX10_act 136 = .ok (.aload_n 0, 1) := by decide +kernel
theorem dX10_act_137 : decode cX10_act 137 = .ok (.getfield 9, 3) := by decide +kernel
theorem dX10_act_140 : decode cX10_act 140 = .ok (.iload 6, 2) := by decide +kernel
theorem dX10_act_142 : decode cX10_act 142 = .ok (.iconst 3, 1) := by decide +kernel
theorem dX10_act_143 : decode cX10_act 143 = .ok (.iadd, 1) := by decide +kernel
theorem dX10_act_144 : decode cX10_act 144 = .ok (.iload 4, 2) := by decide +kernel
theorem dX10_act_146 : decode cX10_act 146 = .ok (.iastore, 1) := by decide +kernel
theorem dX10_act_147 : decode cX10_act 147 = .ok (.aload_n 0, 1) := by decide +kernel
theorem dX10_act_148 : decode cX10_act 148 = .ok (.getfield 9, 3) := by decide +kernel
theorem dX10_act_151 : decode cX10_act 151 = .ok (.iload 6, 2) := by decide +kernel
theorem dX10_act_153 : decode cX10_act 153 = .ok (.iconst 4, 1) := by decide +kernel
theorem dX10_act_154 : decode cX10_act 154 = .ok (.iadd, 1) := by decide +kernel
theorem dX10_act_155 : decode cX10_act 155 = .ok (.iload 5, 2) := by decide +kernel
theorem dX10_act_157 : decode cX10_act 157 = .ok (.iastore, 1) := by decide +kernel
theorem dX10_act_158 : decode cX10_act 158 = .ok (.aload_n 0, 1) := by decide +kernel
theorem dX10_act_159 : decode cX10_act 159 = .ok (.getfield 9, 3) := by decide +kernel
theorem dX10_act_162 : decode cX10_act 162 = .ok (.bipush 11, 2) := by decide +kernel
theorem dX10_act_164 : decode cX10_act 164 = .ok (.dup2, 1) := by decide +kernel
theorem dX10_act_165 : decode cX10_act 165 = .ok (.iaload, 1) := by decide +kernel
theorem dX10_act_166 : decode cX10_act 166 = .ok (.iconst 1, 1) := by decide +kernel
theorem dX10_act_167 : decode cX10_act 167 = .ok (.iadd, 1) := by decide +kernel
theorem dX10_act_168 : decode cX10_act 168 = .ok (.iastore, 1) := by decide +kernel
theorem dX10_act_169 : decode cX10_act 169 = .ok (.aload_n 0, 1) := by decide +kernel
theorem dX10_act_170 : decode cX10_act 170 = .ok (.getfield 9, 3) := by decide +kernel
theorem dX10_act_173 : decode cX10_act 173 = .ok (.bipush 11, 2) := by decide +kernel
theorem dX10_act_175 : decode cX10_act 175 = .ok (.iaload, 1) := by decide +kernel
theorem dX10_act_176 : decode cX10_act 176 = .ok (.ireturn, 1) := by decide +kernel
theorem dX10_clear_0 : decode cX10_clear 0 = .ok (.aload_n 0, 1) := by decide +kernel
theorem dX10_clear_1 : decode cX10_clear 1 = .ok (.getfield 9, 3) := by decide +kernel
theorem dX10_clear_4 : decode cX10_clear 4 = .ok (.bipush 11, 2) := by decide +kernel
theorem dX10_clear_6 : decode cX10_clear 6 = .ok (.iaload, 1) := by decide +kernel
theorem dX10_clear_7 : decode cX10_clear 7 = .ok (.istore_n 1, 1) := by decide +kernel
theorem dX10_clear_8 : decode cX10_clear 8 = .ok (.aload_n 0, 1) := by decide +kernel
theorem dX10_clear_9 : decode cX10_clear 9 = .ok (.getfield 9, 3) := by decide +kernel
theorem dX10_clear_12 : decode cX10_clear 12 = .ok (.bipush 11, 2) := by decide +kernel
theorem dX10_clear_14 : decode cX10_clear 14 = .ok (.iconst 0, 1) := by decide +kernel
theorem dX10_clear_15 : decode cX10_clear 15 = .ok (.iastore, 1) := by decide +kernel
theorem dX10_clear_16 : decode cX10_clear 16 = .ok (.aload_n 0, 1) := by decide +kernel
theorem dX10_clear_17 : decode cX10_clear 17 = .ok (.getfield 9, 3) := by decide +kernel
theorem dX10_clear_20 : decode cX10_clear 20 = .ok (.bipush 12, 2) := by decide +kernel
theorem dX10_clear_22 : decode cX10_clear 22 = .ok (.iconst 0, 1) := by decide +kernel
theorem dX10_clear_23 : decode cX10_clear 23 = .ok (.iastore, 1) := by decide +kernel
theorem dX10_clear_24 : decode cX10_clear 24 = .ok (.iload_n 1, 1) := by decide +kernel
theorem dX10_clear_25 : decode cX10_clear 25 = .ok (.ireturn, 1) := by decide +kernel
theorem dX10_reg_0 : decode cX10_reg 0 = .ok (.aload_n 0, 1) := by decide +kernel
theorem dX10_reg_1 : decode cX10_reg 1 = .ok (.getfield 9, 3) := by decide +kernel
theorem dX10_reg_4 : decode cX10_reg 4 = .ok (.bipush 76, 2) := by decide +kernel
theorem dX10_reg_6 : decode cX10_reg 6 = .ok (.iload_n 1, 1) := by decide +kernel
theorem dX10_reg_7 : decode cX10_reg 7 = .ok (.iadd, 1) := by decide +kernel
theorem dX10_reg_8 : decode cX10_reg 8 = .ok (.iaload, 1) := by decide +kernel
theorem dX10_reg_9 : decode cX10_reg 9 = .ok (.ireturn, 1) := by decide +kernel
theorem dX10_findingOf_0 : decode cX10_findingOf 0 = .ok (.iload_n 0, 1) := by decide +kernel
theorem dX10_findingOf_1 : decode cX10_findingOf 1 = .ok (.ifCond .ge 10, 3) := by decide +kernel
theorem dX10_findingOf_4 : decode cX10_findingOf 4 = .ok (.bipush (-10), 2) := by decide +kernel
theorem dX10_findingOf_6 : decode cX10_findingOf 6 = .ok (.iload_n 0, 1) := by decide +kernel
theorem dX10_findingOf_7 : decode cX10_findingOf 7 = .ok (.isub, 1) := by decide +kernel
theorem dX10_findingOf_8 : decode cX10_findingOf 8 = .ok (.goto 4, 3) := by decide +kernel
theorem dX10_findingOf_11 : decode cX10_findingOf 11 = .ok (.iconst 0, 1) := by decide +kernel
theorem dX10_findingOf_12 : decode cX10_findingOf 12 = .ok (.ireturn, 1) := by decide +kernel
theorem dX10_into_0 : decode cX10_into 0 = .ok (.aload_n 0, 1) := by decide +kernel
theorem dX10_into_1 : decode cX10_into 1 = .ok (.getfield 9, 3) := by decide +kernel
theorem dX10_into_4 : decode cX10_into 4 = .ok (.bipush 76, 2) := by decide +kernel
theorem dX10_into_6 : decode cX10_into 6 = .ok (.iload_n 1, 1) := by decide +kernel
theorem dX10_into_7 : decode cX10_into 7 = .ok (.iadd, 1) := by decide +kernel
theorem dX10_into_8 : decode cX10_into 8 = .ok (.iload_n 2, 1) := by decide +kernel
theorem dX10_into_9 : decode cX10_into 9 = .ok (.ifCond .ne 10, 3) := by decide +kernel
theorem dX10_into_12 : decode cX10_into 12 = .ok (.aload_n 0, 1) := by decide +kernel
theorem dX10_into_13 : decode cX10_into 13 = .ok (.getfield 171, 3) := by decide +kernel
theorem dX10_into_16 : decode cX10_into 16 = .ok (.goto 12, 3) := by decide +kernel
theorem dX10_into_19 : decode cX10_into 19 = .ok (.aload_n 0, 1) := by decide +kernel
theorem dX10_into_20 : decode cX10_into 20 = .ok (.getfield 9, 3) := by decide +kernel
theorem dX10_into_23 : decode cX10_into 23 = .ok (.bipush 76, 2) := by decide +kernel
theorem dX10_into_25 : decode cX10_into 25 = .ok (.iload_n 1, 1) := by decide +kernel
theorem dX10_into_26 : decode cX10_into 26 = .ok (.iadd, 1) := by decide +kernel
theorem dX10_into_27 : decode cX10_into 27 = .ok (.iaload, 1) := by decide +kernel
theorem dX10_into_28 : decode cX10_into 28 = .ok (.iastore, 1) := by decide +kernel
theorem dX10_into_29 : decode cX10_into 29 = .ok (.iload_n 2, 1) := by decide +kernel
theorem dX10_into_30 : decode cX10_into 30 = .ok (.ireturn, 1) := by decide +kernel
theorem dX10_does_0 : decode cX10_does 0 = .ok (.aload_n 0, 1) := by decide +kernel
theorem dX10_does_1 : decode cX10_does 1 = .ok (.getfield 9, 3) := by decide +kernel
theorem dX10_does_4 : decode cX10_does 4 = .ok (.iload_n 1, 1) := by decide +kernel
theorem dX10_does_5 : decode cX10_does 5 = .ok (.iconst 1, 1) := by decide +kernel
theorem dX10_does_6 : decode cX10_does 6 = .ok (.iadd, 1) := by decide +kernel
theorem dX10_does_7 : decode cX10_does 7 = .ok (.iaload, 1) := by decide +kernel
theorem dX10_does_8 : decode cX10_does 8 = .ok (.istore_n 2, 1) := by decide +kernel
theorem dX10_does_9 : decode cX10_does 9 = .ok (.aload_n 0, 1) := by decide +kernel
theorem dX10_does_10 : decode cX10_does 10 = .ok (.getfield 9, 3) := by decide +kernel
theorem dX10_does_13 : decode cX10_does 13 = .ok (.iload_n 1, 1) := by decide +kernel
theorem dX10_does_14 : decode cX10_does 14 = .ok (.iconst 2, 1) := by decide +kernel
theorem dX10_does_15 : decode cX10_does 15 = .ok (.iadd, 1) := by decide +kernel
theorem dX10_does_16 : decode cX10_does 16 = .ok (.iaload, 1) := by decide +kernel
theorem dX10_does_17 : decode cX10_does 17 = .ok (.istore_n 3, 1) := by decide +kernel
theorem dX10_does_18 : decode cX10_does 18 = .ok (.aload_n 0, 1) := by decide +kernel
theorem dX10_does_19 : decode cX10_does 19 = .ok (.getfield 9, 3) := by decide +kernel
theorem dX10_does_22 : decode cX10_does 22 = .ok (.iload_n 1, 1) := by decide +kernel
theorem dX10_does_23 : decode cX10_does 23 = .ok (.iconst 3, 1) := by decide +kernel
theorem dX10_does_24 : decode cX10_does 24 = .ok (.iadd, 1) := by decide +kernel
theorem dX10_does_25 : decode cX10_does 25 = .ok (.iaload, 1) := by decide +kernel
theorem dX10_does_26 : decode cX10_does 26 = .ok (.istore 4, 2) := by decide +kernel
theorem dX10_does_28 : decode cX10_does 28 = .ok (.aload_n 0, 1) := by decide +kernel
theorem dX10_does_29 : decode cX10_does 29 = .ok (.getfield 9, 3) := by decide +kernel
theorem dX10_does_32 : decode cX10_does 32 = .ok (.iload_n 1, 1) := by decide +kernel
theorem dX10_does_33 : decode cX10_does 33 = .ok (.iaload, 1) := by decide +kernel
theorem dX10_does_34 : decode cX10_does 34 = .ok (.tableswitch 264 0 11 #[62, 88, 108, 125, 136, 156, 171, 189, 215, 227, 239, 251], 62) := by decide +kernel
theorem dX10_does_96 : decode cX10_does 96 = .ok (.aload_n 0, 1) := by decide +kernel
theorem dX10_does_97 : decode cX10_does 97 = .ok (.iload_n 3, 1) := by decide +kernel
theorem dX10_does_98 : decode cX10_does 98 = .ok (.iload 4, 2) := by decide +kernel
theorem dX10_does_100 : decode cX10_does 100 = .ok (.invokevirtual 152, 3) := by decide +kernel
theorem dX10_does_103 : decode cX10_does 103 = .ok (.istore 5, 2) := by decide +kernel
theorem dX10_does_105 : decode cX10_does 105 = .ok (.aload_n 0, 1) := by decide +kernel
theorem dX10_does_106 : decode cX10_does 106 = .ok (.iload 5, 2) := by decide +kernel
theorem dX10_does_108 : decode cX10_does 108 = .ok (.putfield 171, 3) := by decide +kernel
theorem dX10_does_111 : decode cX10_does 111 = .ok (.aload_n 0, 1) := by decide +kernel
theorem dX10_does_112 : decode cX10_does 112 = .ok (.iload_n 2, 1) := by decide +kernel
theorem dX10_does_113 : decode cX10_does 113 = .ok (.iload 5, 2) := by decide +kernel
theorem dX10_does_115 : decode cX10_does 115 = .ok (.invokestatic 281, 3) := by decide +kernel
theorem dX10_does_118 : decode cX10_does 118 = .ok (.invokevirtual 284, 3) := by decide +kernel
theorem dX10_does_121 : decode cX10_does 121 = .ok (.ireturn, 1) := by decide +kernel
theorem dX10_does_122 : decode cX10_does 122 = .ok (.aload_n 0, 1) := by decide +kernel
theorem dX10_does_123 : decode cX10_does 123 = .ok (.aload_n 0, 1) := by decide +kernel
theorem dX10_does_124 : decode cX10_does 124 = .ok (.iload_n 2, 1) := by decide +kernel
theorem dX10_does_125 : decode cX10_does 125 = .ok (.invokevirtual 287, 3) := by decide +kernel
theorem dX10_does_128 : decode cX10_does 128 = .ok (.iload_n 3, 1) := by decide +kernel
theorem dX10_does_129 : decode cX10_does 129 = .ok (.aload_n 0, 1) := by decide +kernel
theorem dX10_does_130 : decode cX10_does 130 = .ok (.iload 4, 2) := by decide +kernel
theorem dX10_does_132 : decode cX10_does 132 = .ok (.invokevirtual 287, 3) := by decide +kernel
theorem dX10_does_135 : decode cX10_does 135 = .ok (.invokevirtual 167, 3) := by decide +kernel
theorem dX10_does_138 : decode cX10_does 138 = .ok (.invokestatic 281, 3) := by decide +kernel
theorem dX10_does_141 : decode cX10_does 141 = .ok (.ireturn, 1) := by decide +kernel
theorem dX10_does_142 : decode cX10_does 142 = .ok (.aload_n 0, 1) := by decide +kernel
theorem dX10_does_143 : decode cX10_does 143 = .ok (.iload 4, 2) := by decide +kernel
theorem dX10_does_145 : decode cX10_does 145 = .ok (.aload_n 0, 1) := by decide +kernel
theorem dX10_does_146 : decode cX10_does 146 = .ok (.aload_n 0, 1) := by decide +kernel
theorem dX10_does_147 : decode cX10_does 147 = .ok (.iload_n 2, 1) := by decide +kernel
theorem dX10_does_148 : decode cX10_does 148 = .ok (.invokevirtual 287, 3) := by decide +kernel
theorem dX10_does_151 : decode cX10_does 151 = .ok (.iload_n 3, 1) := by decide +kernel
theorem dX10_does_152 : decode cX10_does 152 = .ok (.invokevirtual 174, 3) := by decide +kernel
theorem dX10_does_155 : decode cX10_does 155 = .ok (.invokevirtual 284, 3) := by decide +kernel
theorem dX10_does_158 : decode cX10_does 158 = .ok (.ireturn, 1) := by decide +kernel
theorem dX10_does_159 : decode cX10_does 159 = .ok (.aload_n 0, 1) := by decide +kernel
theorem dX10_does_160 : decode cX10_does 160 = .ok (.iload_n 2, 1) := by decide +kernel
theorem dX10_does_161 : decode cX10_does 161 = .ok (.aload_n 0, 1) := by decide +kernel
theorem dX10_does_162 : decode cX10_does 162 = .ok (.iload_n 3, 1) := by decide +kernel
theorem dX10_does_163 : decode cX10_does 163 = .ok (.invokevirtual 287, 3) := by decide +kernel
theorem dX10_does_166 : decode cX10_does 166 = .ok (.invokevirtual 203, 3) := by decide +kernel
theorem dX10_does_169 : decode cX10_does 169 = .ok (.ireturn, 1) := by decide +kernel
theorem dX10_does_170 : decode cX10_does 170 = .ok (.aload_n 0, 1) := by decide +kernel
theorem dX10_does_171 : decode cX10_does 171 = .ok (.aload_n 0, 1) := by decide +kernel
theorem dX10_does_172 : decode cX10_does 172 = .ok (.getfield 9, 3) := by decide +kernel
theorem dX10_does_175 : decode cX10_does 175 = .ok (.bipush 20, 2) := by decide +kernel
theorem dX10_does_177 : decode cX10_does 177 = .ok (.iload_n 2, 1) := by decide +kernel
theorem dX10_does_178 : decode cX10_does 178 = .ok (.iadd, 1) := by decide +kernel
theorem dX10_does_179 : decode cX10_does 179 = .ok (.iaload, 1) := by decide +kernel
theorem dX10_does_180 : decode cX10_does 180 = .ok (.putfield 171, 3) := by decide +kernel
theorem dX10_does_183 : decode cX10_does 183 = .ok (.aload_n 0, 1) := by decide +kernel
theorem dX10_does_184 : decode cX10_does 184 = .ok (.iload_n 3, 1) := by decide +kernel
theorem dX10_does_185 : decode cX10_does 185 = .ok (.iconst 0, 1) := by decide +kernel
theorem dX10_does_186 : decode cX10_does 186 = .ok (.invokevirtual 284, 3) := by decide +kernel
theorem dX10_does_189 : decode cX10_does 189 = .ok (.ireturn, 1) := by decide +kernel
theorem dX10_does_190 : decode cX10_does 190 = .ok (.aload_n 0, 1) := by decide +kernel
theorem dX10_does_191 : decode cX10_does 191 = .ok (.iload_n 3, 1) := by decide +kernel
theorem dX10_does_192 : decode cX10_does 192 = .ok (.aload_n 0, 1) := by decide +kernel
theorem dX10_does_193 : decode cX10_does 193 = .ok (.aload_n 0, 1) := by decide +kernel
theorem dX10_does_194 : decode cX10_does 194 = .ok (.iload_n 2, 1) := by decide +kernel
theorem dX10_does_195 : decode cX10_does 195 = .ok (.invokevirtual 287, 3) := by decide +kernel
theorem dX10_does_198 : decode cX10_does 198 = .ok (.invokevirtual 186, 3) := by decide +kernel
theorem dX10_does_201 : decode cX10_does 201 = .ok (.invokevirtual 284, 3) := by decide +kernel
theorem dX10_does_204 : decode cX10_does 204 = .ok (.ireturn, 1) := by decide +kernel
theorem dX10_does_205 : decode cX10_does 205 = .ok (.aload_n 0, 1) := by decide +kernel
theorem dX10_does_206 : decode cX10_does 206 = .ok (.aload_n 0, 1) := by decide +kernel
theorem dX10_does_207 : decode cX10_does 207 = .ok (.iload_n 2, 1) := by decide +kernel
theorem dX10_does_208 : decode cX10_does 208 = .ok (.invokevirtual 287, 3) := by decide +kernel
theorem dX10_does_211 : decode cX10_does 211 = .ok (.aload_n 0, 1) := by decide +kernel
theorem dX10_does_212 : decode cX10_does 212 = .ok (.iload_n 3, 1) := by decide +kernel
theorem dX10_does_213 : decode cX10_does 213 = .ok (.invokevirtual 287, 3) := by decide +kernel
theorem dX10_does_216 : decode cX10_does 216 = .ok (.invokevirtual 183, 3) := by decide +kernel
theorem dX10_does_219 : decode cX10_does 219 = .ok (.invokestatic 281, 3) := by decide +kernel
theorem dX10_does_222 : decode cX10_does 222 = .ok (.ireturn, 1) := by decide +kernel
theorem dX10_does_223 : decode cX10_does 223 = .ok (.aload_n 0, 1) := by decide +kernel
theorem dX10_does_224 : decode cX10_does 224 = .ok (.aload_n 0, 1) := by decide +kernel
theorem dX10_does_225 : decode cX10_does 225 = .ok (.iload_n 2, 1) := by decide +kernel
theorem dX10_does_226 : decode cX10_does 226 = .ok (.invokevirtual 287, 3) := by decide +kernel
theorem dX10_does_229 : decode cX10_does 229 = .ok (.iload_n 3, 1) := by decide +kernel
theorem dX10_does_230 : decode cX10_does 230 = .ok (.aload_n 0, 1) := by decide +kernel
theorem dX10_does_231 : decode cX10_does 231 = .ok (.iload 4, 2) := by decide +kernel
theorem dX10_does_233 : decode cX10_does 233 = .ok (.invokevirtual 287, 3) := by decide +kernel
theorem dX10_does_236 : decode cX10_does 236 = .ok (.iconst 0, 1) := by decide +kernel
theorem dX10_does_237 : decode cX10_does 237 = .ok (.aload_n 0, 1) := by decide +kernel
theorem dX10_does_238 : decode cX10_does 238 = .ok (.getfield 9, 3) := by decide +kernel
theorem dX10_does_241 : decode cX10_does 241 = .ok (.iload_n 1, 1) := by decide +kernel
theorem dX10_does_242 : decode cX10_does 242 = .ok (.iconst 4, 1) := by decide +kernel
theorem dX10_does_243 : decode cX10_does 243 = .ok (.iadd, 1) := by decide +kernel
theorem dX10_does_244 : decode cX10_does 244 = .ok (.iaload, 1) := by decide +kernel
theorem dX10_does_245 : decode cX10_does 245 = .ok (.invokevirtual 209, 3) := by decide +kernel
theorem dX10_does_248 : decode cX10_does 248 = .ok (.ireturn, 1) := by decide +kernel
theorem dX10_does_249 : decode cX10_does 249 = .ok (.aload_n 0, 1) := by decide +kernel
theorem dX10_does_250 : decode cX10_does 250 = .ok (.getfield 9, 3) := by decide +kernel
theorem dX10_does_253 : decode cX10_does 253 = .ok (.bipush 76, 2) := by decide +kernel
theorem dX10_does_255 : decode cX10_does 255 = .ok (.iload_n 2, 1) := by decide +kernel
theorem dX10_does_256 : decode cX10_does 256 = .ok (.iadd, 1) := by decide +kernel
theorem dX10_does_257 : decode cX10_does 257 = .ok (.iconst (-1), 1) := by decide +kernel
theorem dX10_does_258 : decode cX10_does 258 = .ok (.iastore, 1) := by decide +kernel
theorem dX10_does_259 : decode cX10_does 259 = .ok (.iconst 0, 1) := by decide +kernel
theorem dX10_does_260 : decode cX10_does 260 = .ok (.ireturn, 1) := by decide +kernel
theorem dX10_does_261 : decode cX10_does 261 = .ok (.aload_n 0, 1) := by decide +kernel
theorem dX10_does_262 : decode cX10_does 262 = .ok (.invokevirtual 226, 3) := by decide +kernel
theorem dX10_does_265 : decode cX10_does 265 = .ok (.aload_n 0, 1) := by decide +kernel
theorem dX10_does_266 : decode cX10_does 266 = .ok (.iload_n 2, 1) := by decide +kernel
theorem dX10_does_267 : decode cX10_does 267 = .ok (.invokevirtual 229, 3) := by decide +kernel
theorem dX10_does_270 : decode cX10_does 270 = .ok (.pop, 1) := by decide +kernel
theorem dX10_does_271 : decode cX10_does 271 = .ok (.iconst 0, 1) := by decide +kernel
theorem dX10_does_272 : decode cX10_does 272 = .ok (.ireturn, 1) := by decide +kernel
theorem dX10_does_273 : decode cX10_does 273 = .ok (.iload_n 2, 1) := by decide +kernel
theorem dX10_does_274 : decode cX10_does 274 = .ok (.ifCond .ne 8, 3) := by decide +kernel
theorem dX10_does_277 : decode cX10_does 277 = .ok (.bipush 8, 2) := by decide +kernel
theorem dX10_does_279 : decode cX10_does 279 = .ok (.goto 5, 3) := by decide +kernel
theorem dX10_does_282 : decode cX10_does 282 = .ok (.bipush 7, 2) := by decide +kernel
theorem dX10_does_284 : decode cX10_does 284 = .ok (.ireturn, 1) := by decide +kernel
theorem dX10_does_285 : decode cX10_does 285 = .ok (.aload_n 0, 1) := by decide +kernel
theorem dX10_does_286 : decode cX10_does 286 = .ok (.aload_n 0, 1) := by decide +kernel
theorem dX10_does_287 : decode cX10_does 287 = .ok (.iload_n 2, 1) := by decide +kernel
theorem dX10_does_288 : decode cX10_does 288 = .ok (.invokevirtual 287, 3) := by decide +kernel
theorem dX10_does_291 : decode cX10_does 291 = .ok (.iload_n 3, 1) := by decide +kernel
theorem dX10_does_292 : decode cX10_does 292 = .ok (.iload 4, 2) := by decide +kernel
theorem dX10_does_294 : decode cX10_does 294 = .ok (.invokevirtual 192, 3) := by decide +kernel
theorem dX10_does_297 : decode cX10_does 297 = .ok (.ireturn, 1) := by decide +kernel
theorem dX10_does_298 : decode cX10_does 298 = .ok (.aload_n 0, 1) := by decide +kernel
theorem dX10_does_299 : decode cX10_does 299 = .ok (.iload_n 2, 1) := by decide +kernel
theorem dX10_does_300 : decode cX10_does 300 = .ok (.iload_n 3, 1) := by decide +kernel
theorem dX10_does_301 : decode cX10_does 301 = .ok (.aload_n 0, 1) := by decide +kernel
theorem dX10_does_302 : decode cX10_does 302 = .ok (.iload 4, 2) := by decide +kernel
theorem dX10_does_304 : decode cX10_does 304 = .ok (.invokevirtual 287, 3) := by decide +kernel
theorem dX10_does_307 : decode cX10_does 307 = .ok (.invokevirtual 221, 3) := by decide +kernel
theorem dX10_does_310 : decode cX10_does 310 = .ok (.invokestatic 281, 3) := by decide +kernel
theorem dX10_does_313 : decode cX10_does 313 = .ok (.ireturn, 1) := by decide +kernel
theorem dX10_run_0 : decode cX10_run 0 = .ok (.iload_n 1, 1) := by decide +kernel
theorem dX10_run_1 : decode cX10_run 1 = .ok (.i2l, 1) := by decide +kernel
theorem dX10_run_2 : decode cX10_run 2 = .ok (.lconst 0, 1) := by decide +kernel
theorem dX10_run_3 : decode cX10_run 3 = .ok (.ldc2_w 290, 3) := by decide +kernel
theorem dX10_run_6 : decode cX10_run 6 = .ok (.invokestatic 63, 3) := by decide +kernel
theorem dX10_run_9 : decode cX10_run 9 = .ok (.ifCond .ne 6, 3) := by decide +kernel
theorem dX10_run_12 : decode cX10_run 12 = .ok (.bipush (-102), 2) := by decide +kernel
theorem dX10_run_14 : decode cX10_run 14 = .ok (.ireturn, 1) := by decide +kernel
theorem dX10_run_15 : decode cX10_run 15 = .ok (.aload_n 0, 1) := by decide +kernel
theorem dX10_run_16 : decode cX10_run 16 = .ok (.getfield 9, 3) := by decide +kernel
theorem dX10_run_19 : decode cX10_run 19 = .ok (.bipush 11, 2) := by decide +kernel
theorem dX10_run_21 : decode cX10_run 21 = .ok (.iaload, 1) := by decide +kernel
theorem dX10_run_22 : decode cX10_run 22 = .ok (.ifCond .ne 6, 3) := by decide +kernel
theorem dX10_run_25 : decode cX10_run 25 = .ok (.bipush (-104), 2) := by decide +kernel
theorem dX10_run_27 : decode cX10_run 27 = .ok (.ireturn, 1) := by decide +kernel
theorem dX10_run_28 : decode cX10_run 28 = .ok (.iconst 0, 1) := by decide +kernel
theorem dX10_run_29 : decode cX10_run 29 = .ok (.istore_n 2, 1) := by decide +kernel
theorem dX10_run_30 : decode cX10_run 30 = .ok (.iconst 0, 1) := by decide +kernel
theorem dX10_run_31 : decode cX10_run 31 = .ok (.istore_n 3, 1) := by decide +kernel
theorem dX10_run_32 : decode cX10_run 32 = .ok (.iload_n 2, 1) := by decide +kernel
theorem dX10_run_33 : decode cX10_run 33 = .ok (.iload_n 1, 1) := by decide +kernel
theorem dX10_run_34 : decode cX10_run 34 = .ok (.if_icmp .ge 90, 3) := by decide +kernel
theorem dX10_run_37 : decode cX10_run 37 = .ok (.iload_n 3, 1) := by decide +kernel
theorem dX10_run_38 : decode cX10_run 38 = .ok (.ifCond .ne 86, 3) := by decide +kernel
theorem dX10_run_41 : decode cX10_run 41 = .ok (.aload_n 0, 1) := by decide +kernel
theorem dX10_run_42 : decode cX10_run 42 = .ok (.sipush 400, 3) := by decide +kernel
theorem dX10_run_45 : decode cX10_run 45 = .ok (.iconst 5, 1) := by decide +kernel
theorem dX10_run_46 : decode cX10_run 46 = .ok (.aload_n 0, 1) := by decide +kernel
theorem dX10_run_47 : decode cX10_run 47 = .ok (.getfield 9, 3) := by decide +kernel
theorem dX10_run_50 : decode cX10_run 50 = .ok (.bipush 12, 2) := by decide +kernel
theorem dX10_run_52 : decode cX10_run 52 = .ok (.iaload, 1) := by decide +kernel
theorem dX10_run_53 : decode cX10_run 53 = .ok (.imul, 1) := by decide +kernel
theorem dX10_run_54 : decode cX10_run 54 = .ok (.iadd, 1) := by decide +kernel
theorem dX10_run_55 : decode cX10_run 55 = .ok (.invokevirtual 292, 3) := by decide +kernel
theorem dX10_run_58 : decode cX10_run 58 = .ok (.istore_n 3, 1) := by decide +kernel
theorem dX10_run_59 : decode cX10_run 59 = .ok (.aload_n 0, 1) := by decide +kernel
theorem dX10_run_60 : decode cX10_run 60 = .ok (.getfield 9, 3) := by decide +kernel
theorem dX10_run_63 : decode cX10_run 63 = .ok (.bipush 12, 2) := by decide +kernel
theorem dX10_run_65 : decode cX10_run 65 = .ok (.aload_n 0, 1) := by decide +kernel
theorem dX10_run_66 : decode cX10_run 66 = .ok (.getfield 9, 3) := by decide +kernel
theorem dX10_run_69 : decode cX10_run 69 = .ok (.bipush 12, 2) := by decide +kernel
theorem dX10_run_71 : decode cX10_run 71 = .ok (.iaload, 1) := by decide +kernel
theorem dX10_run_72 : decode cX10_run 72 = .ok (.iconst 1, 1) := by decide +kernel
theorem dX10_run_73 : decode cX10_run 73 = .ok (.iadd, 1) := by decide +kernel
theorem dX10_run_74 : decode cX10_run 74 = .ok (.aload_n 0, 1) := by decide +kernel
theorem dX10_run_75 : decode cX10_run 75 = .ok (.getfield 9, 3) := by decide +kernel
theorem dX10_run_78 : decode cX10_run 78 = .ok (.bipush 11, 2) := by decide +kernel
theorem dX10_run_80 : decode cX10_run 80 = .ok (.iaload, 1) := by decide +kernel
theorem dX10_run_81 : decode cX10_run 81 = .ok (.irem, 1) := by decide +kernel
theorem dX10_run_82 : decode cX10_run 82 = .ok (.iastore, 1) := by decide +kernel
theorem dX10_run_83 : decode cX10_run 83 = .ok (.aload_n 0, 1) := by decide +kernel
theorem dX10_run_84 : decode cX10_run 84 = .ok (.getfield 9, 3) := by decide +kernel
theorem dX10_run_87 : decode cX10_run 87 = .ok (.bipush 13, 2) := by decide +kernel
theorem dX10_run_89 : decode cX10_run 89 = .ok (.dup2, 1) := by decide +kernel
theorem dX10_run_90 : decode cX10_run 90 = .ok (.iaload, 1) := by decide +kernel
theorem dX10_run_91 : decode cX10_run 91 = .ok (.iconst 1, 1) := by decide +kernel
theorem dX10_run_92 : decode cX10_run 92 = .ok (.iadd, 1) := by decide +kernel
theorem dX10_run_93 : decode cX10_run 93 = .ok (.iastore, 1) := by decide +kernel
theorem dX10_run_94 : decode cX10_run 94 = .ok (.aload_n 0, 1) := by decide +kernel
theorem dX10_run_95 : decode cX10_run 95 = .ok (.getfield 9, 3) := by decide +kernel
theorem dX10_run_98 : decode cX10_run 98 = .ok (.bipush 14, 2) := by decide +kernel
theorem dX10_run_100 : decode cX10_run 100 = .ok (.dup2, 1) := by decide +kernel
theorem dX10_run_101 : decode cX10_run 101 = .ok (.iaload, 1) := by decide +kernel
theorem dX10_run_102 : decode cX10_run 102 = .ok (.iload_n 3, 1) := by decide +kernel
theorem dX10_run_103 : decode cX10_run 103 = .ok (.ifCond .le 7, 3) := by decide +kernel
theorem dX10_run_106 : decode cX10_run 106 = .ok (.iconst 1, 1) := by decide +kernel
theorem dX10_run_107 : decode cX10_run 107 = .ok (.goto 4, 3) := by decide +kernel
theorem dX10_run_110 : decode cX10_run 110 = .ok (.iconst 0, 1) := by decide +kernel
theorem dX10_run_111 : decode cX10_run 111 = .ok (.iadd, 1) := by decide +kernel
theorem dX10_run_112 : decode cX10_run 112 = .ok (.iastore, 1) := by decide +kernel
theorem dX10_run_113 : decode cX10_run 113 = .ok (.iinc 2 1, 3) := by decide +kernel
theorem dX10_run_116 : decode cX10_run 116 = .ok (.aload_n 0, 1) := by decide +kernel
theorem dX10_run_117 : decode cX10_run 117 = .ok (.iload_n 3, 1) := by decide +kernel
theorem dX10_run_118 : decode cX10_run 118 = .ok (.putfield 56, 3) := by decide +kernel
theorem dX10_run_121 : decode cX10_run 121 = .ok (.goto (-89), 3) := by decide +kernel
theorem dX10_run_124 : decode cX10_run 124 = .ok (.iload_n 2, 1) := by decide +kernel
theorem dX10_run_125 : decode cX10_run 125 = .ok (.ireturn, 1) := by decide +kernel
theorem dX10_found_0 : decode cX10_found 0 = .ok (.aload_n 0, 1) := by decide +kernel
theorem dX10_found_1 : decode cX10_found 1 = .ok (.getfield 56, 3) := by decide +kernel
theorem dX10_found_4 : decode cX10_found 4 = .ok (.ireturn, 1) := by decide +kernel
theorem dX10_register_0 : decode cX10_register 0 = .ok (.iload_n 1, 1) := by decide +kernel
theorem dX10_register_1 : decode cX10_register 1 = .ok (.invokestatic 272, 3) := by decide +kernel
theorem dX10_register_4 : decode cX10_register 4 = .ok (.ifCond .eq 11, 3) := by decide +kernel
theorem dX10_register_7 : decode cX10_register 7 = .ok (.aload_n 0, 1) := by decide +kernel
theorem dX10_register_8 : decode cX10_register 8 = .ok (.iload_n 1, 1) := by decide +kernel
theorem dX10_register_9 : decode cX10_register 9 = .ok (.invokevirtual 287, 3) := by decide +kernel
theorem dX10_register_12 : decode cX10_register 12 = .ok (.goto 5, 3) := by decide +kernel
theorem dX10_register_15 : decode cX10_register 15 = .ok (.bipush (-101), 2) := by decide +kernel
theorem dX10_register_17 : decode cX10_register 17 = .ok (.ireturn, 1) := by decide +kernel
theorem dX10_keep_0 : decode cX10_keep 0 = .ok (.aload_n 0, 1) := by decide +kernel
theorem dX10_keep_1 : decode cX10_keep 1 = .ok (.aload_n 1, 1) := by decide +kernel
theorem dX10_keep_2 : decode cX10_keep 2 = .ok (.iconst 0, 1) := by decide +kernel
theorem dX10_keep_3 : decode cX10_keep 3 = .ok (.sipush 1100, 3) := by decide +kernel
theorem dX10_keep_6 : decode cX10_keep 6 = .ok (.bipush 10, 2) := by decide +kernel
theorem dX10_keep_8 : decode cX10_keep 8 = .ok (.aload_n 0, 1) := by decide +kernel
theorem dX10_keep_9 : decode cX10_keep 9 = .ok (.iconst 1, 1) := by decide +kernel
theorem dX10_keep_10 : decode cX10_keep 10 = .ok (.iaload, 1) := by decide +kernel
theorem dX10_keep_11 : decode cX10_keep 11 = .ok (.imul, 1) := by decide +kernel
theorem dX10_keep_12 : decode cX10_keep 12 = .ok (.iadd, 1) := by decide +kernel
theorem dX10_keep_13 : decode cX10_keep 13 = .ok (.invokestatic 295, 3) := by decide +kernel
theorem dX10_keep_16 : decode cX10_keep 16 = .ok (.aload_n 0, 1) := by decide +kernel
theorem dX10_keep_17 : decode cX10_keep 17 = .ok (.aload_n 1, 1) := by decide +kernel
theorem dX10_keep_18 : decode cX10_keep 18 = .ok (.sipush 6100, 3) := by decide +kernel
theorem dX10_keep_21 : decode cX10_keep 21 = .ok (.sipush 6100, 3) := by decide +kernel
theorem dX10_keep_24 : decode cX10_keep 24 = .ok (.aload_n 0, 1) := by decide +kernel
theorem dX10_keep_25 : decode cX10_keep 25 = .ok (.iconst 0, 1) := by decide +kernel
theorem dX10_keep_26 : decode cX10_keep 26 = .ok (.iaload, 1) := by decide +kernel
theorem dX10_keep_27 : decode cX10_keep 27 = .ok (.iadd, 1) := by decide +kernel
theorem dX10_keep_28 : decode cX10_keep 28 = .ok (.invokestatic 295, 3) := by decide +kernel
theorem dX10_keep_31 : decode cX10_keep 31 = .ok (.aload_n 0, 1) := by decide +kernel
theorem dX10_keep_32 : decode cX10_keep 32 = .ok (.aload_n 1, 1) := by decide +kernel
theorem dX10_keep_33 : decode cX10_keep 33 = .ok (.sipush 10100, 3) := by decide +kernel
theorem dX10_keep_36 : decode cX10_keep 36 = .ok (.sipush 10100, 3) := by decide +kernel
theorem dX10_keep_39 : decode cX10_keep 39 = .ok (.aload_n 0, 1) := by decide +kernel
theorem dX10_keep_40 : decode cX10_keep 40 = .ok (.bipush 15, 2) := by decide +kernel
theorem dX10_keep_42 : decode cX10_keep 42 = .ok (.iaload, 1) := by decide +kernel
theorem dX10_keep_43 : decode cX10_keep 43 = .ok (.iadd, 1) := by decide +kernel
theorem dX10_keep_44 : decode cX10_keep 44 = .ok (.invokestatic 295, 3) := by decide +kernel
theorem dX10_keep_47 : decode cX10_keep 47 = .ok (.aload_n 0, 1) := by decide +kernel
theorem dX10_keep_48 : decode cX10_keep 48 = .ok (.aload_n 1, 1) := by decide +kernel
theorem dX10_keep_49 : decode cX10_keep 49 = .ok (.sipush 18100, 3) := by decide +kernel
theorem dX10_keep_52 : decode cX10_keep 52 = .ok (.sipush 18100, 3) := by decide +kernel
theorem dX10_keep_55 : decode cX10_keep 55 = .ok (.aload_n 0, 1) := by decide +kernel
theorem dX10_keep_56 : decode cX10_keep 56 = .ok (.bipush 15, 2) := by decide +kernel
theorem dX10_keep_58 : decode cX10_keep 58 = .ok (.iaload, 1) := by decide +kernel
theorem dX10_keep_59 : decode cX10_keep 59 = .ok (.iadd, 1) := by decide +kernel
theorem dX10_keep_60 : decode cX10_keep 60 = .ok (.invokestatic 295, 3) := by decide +kernel
theorem dX10_keep_63 : decode cX10_keep 63 = .ok (.return_, 1) := by decide +kernel
theorem dX10_moves_0 : decode cX10_moves 0 = .ok (.iload_n 2, 1) := by decide +kernel
theorem dX10_moves_1 : decode cX10_moves 1 = .ok (.istore 4, 2) := by decide +kernel
theorem dX10_moves_3 : decode cX10_moves 3 = .ok (.iload 4, 2) := by decide +kernel
theorem dX10_moves_5 : decode cX10_moves 5 = .ok (.iload_n 3, 1) := by decide +kernel
theorem dX10_moves_6 : decode cX10_moves 6 = .ok (.if_icmp .ge 17, 3) := by decide +kernel
theorem dX10_moves_9 : decode cX10_moves 9 = .ok (.aload_n 1, 1) := by decide +kernel
theorem dX10_moves_10 : decode cX10_moves 10 = .ok (.iload 4, 2) := by decide +kernel
theorem dX10_moves_12 : decode cX10_moves 12 = .ok (.aload_n 0, 1) := by decide +kernel
theorem dX10_moves_13 : decode cX10_moves 13 = .ok (.iload 4, 2) := by decide +kernel
theorem dX10_moves_15 : decode cX10_moves 15 = .ok (.iaload, 1) := by decide +kernel
theorem dX10_moves_16 : decode cX10_moves 16 = .ok (.iastore, 1) := by decide +kernel
theorem dX10_moves_17 : decode cX10_moves 17 = .ok (.iinc 4 1, 3) := by decide +kernel
theorem dX10_moves_20 : decode cX10_moves 20 = .ok (.goto (-17), 3) := by decide +kernel
theorem dX10_moves_23 : decode cX10_moves 23 = .ok (.return_, 1) := by decide +kernel
theorem dX10_keepUndo_0 : decode cX10_keepUndo 0 = .ok (.aload_n 0, 1) := by decide +kernel
theorem dX10_keepUndo_1 : decode cX10_keepUndo 1 = .ok (.getfield 9, 3) := by decide +kernel
theorem dX10_keepUndo_4 : decode cX10_keepUndo 4 = .ok (.aload_n 0, 1) := by decide +kernel
theorem dX10_keepUndo_5 : decode cX10_keepUndo 5 = .ok (.getfield 16, 3) := by decide +kernel
theorem dX10_keepUndo_8 : decode cX10_keepUndo 8 = .ok (.invokestatic 299, 3) := by decide +kernel
theorem dX10_keepUndo_11 : decode cX10_keepUndo 11 = .ok (.aload_n 0, 1) := by decide +kernel
theorem dX10_keepUndo_12 : decode cX10_keepUndo 12 = .ok (.iconst 1, 1) := by decide +kernel
theorem dX10_keepUndo_13 : decode cX10_keepUndo 13 = .ok (.putfield 46, 3) := by decide +kernel
theorem dX10_keepUndo_16 : decode cX10_keepUndo 16 = .ok (.return_, 1) := by decide +kernel
theorem dX10_image_0 : decode cX10_image 0 = .ok (.aload_n 0, 1) := by decide +kernel
theorem dX10_image_1 : decode cX10_image 1 = .ok (.getfield 9, 3) := by decide +kernel
theorem dX10_image_4 : decode cX10_image 4 = .ok (.aload_n 0, 1) := by decide +kernel
theorem dX10_image_5 : decode cX10_image 5 = .ok (.getfield 13, 3) := by decide +kernel
theorem dX10_image_8 : decode cX10_image 8 = .ok (.invokestatic 299, 3) := by decide +kernel
theorem dX10_image_11 : decode cX10_image 11 = .ok (.aload_n 0, 1) := by decide +kernel
theorem dX10_image_12 : decode cX10_image 12 = .ok (.iconst 1, 1) := by decide +kernel
theorem dX10_image_13 : decode cX10_image 13 = .ok (.putfield 42, 3) := by decide +kernel
theorem dX10_image_16 : decode cX10_image 16 = .ok (.aload_n 0, 1) := by decide +kernel
theorem dX10_image_17 : decode cX10_image 17 = .ok (.getfield 9, 3) := by decide +kernel
theorem dX10_image_20 : decode cX10_image 20 = .ok (.iconst 2, 1) := by decide +kernel
theorem dX10_image_21 : decode cX10_image 21 = .ok (.iaload, 1) := by decide +kernel
theorem dX10_image_22 : decode cX10_image 22 = .ok (.ireturn, 1) := by decide +kernel
theorem dX10_load_0 : decode cX10_load 0 = .ok (.aload_n 0, 1) := by decide +kernel
theorem dX10_load_1 : decode cX10_load 1 = .ok (.getfield 42, 3) := by decide +kernel
theorem dX10_load_4 : decode cX10_load 4 = .ok (.ifCond .ne 6, 3) := by decide +kernel
theorem dX10_load_7 : decode cX10_load 7 = .ok (.bipush (-104), 2) := by decide +kernel
theorem dX10_load_9 : decode cX10_load 9 = .ok (.ireturn, 1) := by decide +kernel
theorem dX10_load_10 : decode cX10_load 10 = .ok (.aload_n 0, 1) := by decide +kernel
theorem dX10_load_11 : decode cX10_load 11 = .ok (.getfield 13, 3) := by decide +kernel
theorem dX10_load_14 : decode cX10_load 14 = .ok (.aload_n 0, 1) := by decide +kernel
theorem dX10_load_15 : decode cX10_load 15 = .ok (.getfield 9, 3) := by decide +kernel
theorem dX10_load_18 : decode cX10_load 18 = .ok (.invokestatic 299, 3) := by decide +kernel
theorem dX10_load_21 : decode cX10_load 21 = .ok (.aload_n 0, 1) := by decide +kernel
theorem dX10_load_22 : decode cX10_load 22 = .ok (.iconst 0, 1) := by decide +kernel
theorem dX10_load_23 : decode cX10_load 23 = .ok (.putfield 46, 3) := by decide +kernel
theorem dX10_load_26 : decode cX10_load 26 = .ok (.iconst 1, 1) := by decide +kernel
theorem dX10_load_27 : decode cX10_load 27 = .ok (.ireturn, 1) := by decide +kernel
theorem dX10_undoStep_0 : decode cX10_undoStep 0 = .ok (.aload_n 0, 1) := by decide +kernel
theorem dX10_undoStep_1 : decode cX10_undoStep 1 = .ok (.getfield 46, 3) := by decide +kernel
theorem dX10_undoStep_4 : decode cX10_undoStep 4 = .ok (.ifCond .ne 6, 3) := by decide +kernel
theorem dX10_undoStep_7 : decode cX10_undoStep 7 = .ok (.bipush (-104), 2) := by decide +kernel
theorem dX10_undoStep_9 : decode cX10_undoStep 9 = .ok (.ireturn, 1) := by decide +kernel
theorem dX10_undoStep_10 : decode cX10_undoStep 10 = .ok (.aload_n 0, 1) := by decide +kernel
theorem dX10_undoStep_11 : decode cX10_undoStep 11 = .ok (.getfield 16, 3) := by decide +kernel
theorem dX10_undoStep_14 : decode cX10_undoStep 14 = .ok (.aload_n 0, 1) := by decide +kernel
theorem dX10_undoStep_15 : decode cX10_undoStep 15 = .ok (.getfield 9, 3) := by decide +kernel
theorem dX10_undoStep_18 : decode cX10_undoStep 18 = .ok (.invokestatic 299, 3) := by decide +kernel
theorem dX10_undoStep_21 : decode cX10_undoStep 21 = .ok (.aload_n 0, 1) := by decide +kernel
theorem dX10_undoStep_22 : decode cX10_undoStep 22 = .ok (.iconst 0, 1) := by decide +kernel
theorem dX10_undoStep_23 : decode cX10_undoStep 23 = .ok (.putfield 46, 3) := by decide +kernel
theorem dX10_undoStep_26 : decode cX10_undoStep 26 = .ok (.iconst 1, 1) := by decide +kernel
theorem dX10_undoStep_27 : decode cX10_undoStep 27 = .ok (.ireturn, 1) := by decide +kernel
theorem dX10_finding_0 : decode cX10_finding 0 = .ok (.aload_n 0, 1) := by decide +kernel
theorem dX10_finding_1 : decode cX10_finding 1 = .ok (.getfield 49, 3) := by decide +kernel
theorem dX10_finding_4 : decode cX10_finding 4 = .ok (.ireturn, 1) := by decide +kernel
theorem dX10_trace_0 : decode cX10_trace 0 = .ok (.iload_n 1, 1) := by decide +kernel
theorem dX10_trace_1 : decode cX10_trace 1 = .ok (.i2l, 1) := by decide +kernel
theorem dX10_trace_2 : decode cX10_trace 2 = .ok (.lconst 0, 1) := by decide +kernel
theorem dX10_trace_3 : decode cX10_trace 3 = .ok (.ldc2_w 303, 3) := by decide +kernel
theorem dX10_trace_6 : decode cX10_trace 6 = .ok (.invokestatic 63, 3) := by decide +kernel
theorem dX10_trace_9 : decode cX10_trace 9 = .ok (.ifCond .eq 12, 3) := by decide +kernel
theorem dX10_trace_12 : decode cX10_trace 12 = .ok (.aload_n 0, 1) := by decide +kernel
theorem dX10_trace_13 : decode cX10_trace 13 = .ok (.getfield 19, 3) := by decide +kernel
theorem dX10_trace_16 : decode cX10_trace 16 = .ok (.iload_n 1, 1) := by decide +kernel
theorem dX10_trace_17 : decode cX10_trace 17 = .ok (.iaload, 1) := by decide +kernel
theorem dX10_trace_18 : decode cX10_trace 18 = .ok (.goto 5, 3) := by decide +kernel
theorem dX10_trace_21 : decode cX10_trace 21 = .ok (.bipush (-101), 2) := by decide +kernel
theorem dX10_trace_23 : decode cX10_trace 23 = .ok (.ireturn, 1) := by decide +kernel
