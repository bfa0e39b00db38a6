theorem dX0_init_0 : decode cX0_init 0 = .ok (.aload_n 0, 1) := by decide +kernel
theorem dX0_init_1 : decode cX0_init 1 = .ok (.invokespecial 3, 3) := by decide +kernel
theorem dX0_init_4 : decode cX0_init 4 = .ok (.aload_n 0, 1) := by decide +kernel
theorem dX0_init_5 : decode cX0_init 5 = .ok (.aload_n 1, 1) := by decide +kernel
theorem dX0_init_6 : decode cX0_init 6 = .ok (.putfield 9, 3) := by decide +kernel
theorem dX0_init_9 : decode cX0_init 9 = .ok (.aload_n 0, 1) := by decide +kernel
theorem dX0_init_10 : decode cX0_init 10 = .ok (.aload_n 1, 1) := by decide +kernel
theorem dX0_init_11 : decode cX0_init 11 = .ok (.getfield 15, 3) := by decide +kernel
theorem dX0_init_14 : decode cX0_init 14 = .ok (.putfield 21, 3) := by decide +kernel
theorem dX0_init_17 : decode cX0_init 17 = .ok (.aload_n 0, 1) := by decide +kernel
theorem dX0_init_18 : decode cX0_init 18 = .ok (.aload_n 2, 1) := by decide +kernel
theorem dX0_init_19 : decode cX0_init 19 = .ok (.putfield 22, 3) := by decide +kernel
theorem dX0_init_22 : decode cX0_init 22 = .ok (.return_, 1) := by decide +kernel
theorem dX0_makeCell_0 : decode cX0_makeCell 0 = .ok (.iload_n 1, 1) := by decide +kernel
theorem dX0_makeCell_1 : decode cX0_makeCell 1 = .ok (.invokestatic 26, 3) := by decide +kernel
theorem dX0_makeCell_4 : decode cX0_makeCell 4 = .ok (.ifCond .eq 7, 3) := by decide +kernel
theorem dX0_makeCell_7 : decode cX0_makeCell 7 = .ok (.iload_n 2, 1) := by decide +kernel
theorem dX0_makeCell_8 : decode cX0_makeCell 8 = .ok (.goto 4, 3) := by decide +kernel
theorem dX0_makeCell_11 : decode cX0_makeCell 11 = .ok (.iconst 0, 1) := by decide +kernel
theorem dX0_makeCell_12 : decode cX0_makeCell 12 = .ok (.istore_n 3, 1) := by decide +kernel
theorem dX0_makeCell_13 : decode cX0_makeCell 13 = .ok (.iload_n 3, 1) := by decide +kernel
theorem dX0_makeCell_14 : decode cX0_makeCell 14 = .ok (.ifCond .ge 6, 3) := by decide +kernel
theorem dX0_makeCell_17 : decode cX0_makeCell 17 = .ok (.bipush (-14), 2) := by decide +kernel
theorem dX0_makeCell_19 : decode cX0_makeCell 19 = .ok (.ireturn, 1) := by decide +kernel
theorem dX0_makeCell_20 : decode cX0_makeCell 20 = .ok (.iload_n 1, 1) := by decide +kernel
theorem dX0_makeCell_21 : decode cX0_makeCell 21 = .ok (.iload_n 3, 1) := by decide +kernel
theorem dX0_makeCell_22 : decode cX0_makeCell 22 = .ok (.invokestatic 32, 3) := by decide +kernel
theorem dX0_makeCell_25 : decode cX0_makeCell 25 = .ok (.istore 4, 2) := by decide +kernel
theorem dX0_makeCell_27 : decode cX0_makeCell 27 = .ok (.aload_n 0, 1) := by decide +kernel
theorem dX0_makeCell_28 : decode cX0_makeCell 28 = .ok (.getfield 21, 3) := by decide +kernel
theorem dX0_makeCell_31 : decode cX0_makeCell 31 = .ok (.getfield 36, 3) := by decide +kernel
theorem dX0_makeCell_34 : decode cX0_makeCell 34 = .ok (.sipush 500, 3) := by decide +kernel
theorem dX0_makeCell_37 : decode cX0_makeCell 37 = .ok (.if_icmp .ge 35, 3) := by decide +kernel
theorem dX0_makeCell_40 : decode cX0_makeCell 40 = .ok (.iload 4, 2) := by decide +kernel
theorem dX0_makeCell_42 : decode cX0_makeCell 42 = .ok (.aload_n 0, 1) := by decide +kernel
theorem dX0_makeCell_43 : decode cX0_makeCell 43 = .ok (.getfield 21, 3) := by decide +kernel
theorem dX0_makeCell_46 : decode cX0_makeCell 46 = .ok (.invokevirtual 40, 3) := by decide +kernel
theorem dX0_makeCell_49 : decode cX0_makeCell 49 = .ok (.if_icmp .le 26, 3) := by decide +kernel
theorem dX0_makeCell_52 : decode cX0_makeCell 52 = .ok (.iload 4, 2) := by decide +kernel
theorem dX0_makeCell_54 : decode cX0_makeCell 54 = .ok (.aload_n 0, 1) := by decide +kernel
theorem dX0_makeCell_55 : decode cX0_makeCell 55 = .ok (.getfield 21, 3) := by decide +kernel
theorem dX0_makeCell_58 : decode cX0_makeCell 58 = .ok (.getfield 44, 3) := by decide +kernel
theorem dX0_makeCell_61 : decode cX0_makeCell 61 = .ok (.aload_n 0, 1) := by decide +kernel
theorem dX0_makeCell_62 : decode cX0_makeCell 62 = .ok (.getfield 22, 3) := by decide +kernel
theorem dX0_makeCell_65 : decode cX0_makeCell 65 = .ok (.invokevirtual 47, 3) := by decide +kernel
theorem dX0_makeCell_68 : decode cX0_makeCell 68 = .ok (.isub, 1) := by decide +kernel
theorem dX0_makeCell_69 : decode cX0_makeCell 69 = .ok (.if_icmp .le 6, 3) := by decide +kernel
theorem dX0_makeCell_72 : decode cX0_makeCell 72 = .ok (.bipush (-16), 2) := by decide +kernel
theorem dX0_makeCell_74 : decode cX0_makeCell 74 = .ok (.ireturn, 1) := by decide +kernel
theorem dX0_makeCell_75 : decode cX0_makeCell 75 = .ok (.iconst 0, 1) := by decide +kernel
theorem dX0_makeCell_76 : decode cX0_makeCell 76 = .ok (.istore 5, 2) := by decide +kernel
theorem dX0_makeCell_78 : decode cX0_makeCell 78 = .ok (.iload 5, 2) := by decide +kernel
theorem dX0_makeCell_80 : decode cX0_makeCell 80 = .ok (.iconst 2, 1) := by decide +kernel
theorem dX0_makeCell_81 : decode cX0_makeCell 81 = .ok (.if_icmp .ge 28, 3) := by decide +kernel
theorem dX0_makeCell_84 : decode cX0_makeCell 84 = .ok (.iload 4, 2) := by decide +kernel
theorem dX0_makeCell_86 : decode cX0_makeCell 86 = .ok (.aload_n 0, 1) := by decide +kernel
theorem dX0_makeCell_87 : decode cX0_makeCell 87 = .ok (.getfield 21, 3) := by decide +kernel
theorem dX0_makeCell_90 : decode cX0_makeCell 90 = .ok (.invokevirtual 40, 3) := by decide +kernel
theorem dX0_makeCell_93 : decode cX0_makeCell 93 = .ok (.if_icmp .le 16, 3) := by decide +kernel
theorem dX0_makeCell_96 : decode cX0_makeCell 96 = .ok (.aload_n 0, 1) := by decide +kernel
theorem dX0_makeCell_97 : decode cX0_makeCell 97 = .ok (.getfield 22, 3) := by decide +kernel
theorem dX0_makeCell_100 : decode cX0_makeCell 100 = .ok (.invokevirtual 52, 3) := by decide +kernel
theorem dX0_makeCell_103 : decode cX0_makeCell 103 = .ok (.iinc 5 1, 3) := by decide +kernel
theorem dX0_makeCell_106 : decode cX0_makeCell 106 = .ok (.goto (-28), 3) := by decide +kernel
theorem dX0_makeCell_109 : decode cX0_makeCell 109 = .ok (.iload 4, 2) := by decide +kernel
theorem dX0_makeCell_111 : decode cX0_makeCell 111 = .ok (.aload_n 0, 1) := by decide +kernel
theorem dX0_makeCell_112 : decode cX0_makeCell 112 = .ok (.getfield 21, 3) := by decide +kernel
theorem dX0_makeCell_115 : decode cX0_makeCell 115 = .ok (.invokevirtual 40, 3) := by decide +kernel
theorem dX0_makeCell_118 : decode cX0_makeCell 118 = .ok (.if_icmp .le 6, 3) := by decide +kernel
theorem dX0_makeCell_121 : decode cX0_makeCell 121 = .ok (.bipush (-16), 2) := by decide +kernel
theorem dX0_makeCell_123 : decode cX0_makeCell 123 = .ok (.ireturn, 1) := by decide +kernel
theorem dX0_makeCell_124 : decode cX0_makeCell 124 = .ok (.aload_n 0, 1) := by decide +kernel
theorem dX0_makeCell_125 : decode cX0_makeCell 125 = .ok (.getfield 21, 3) := by decide +kernel
theorem dX0_makeCell_128 : decode cX0_makeCell 128 = .ok (.iload_n 1, 1) := by decide +kernel
theorem dX0_makeCell_129 : decode cX0_makeCell 129 = .ok (.iload_n 3, 1) := by decide +kernel
theorem dX0_makeCell_130 : decode cX0_makeCell 130 = .ok (.invokevirtual 55, 3) := by decide +kernel
theorem dX0_makeCell_133 : decode cX0_makeCell 133 = .ok (.istore 5, 2) := by decide +kernel
theorem dX0_makeCell_135 : decode cX0_makeCell 135 = .ok (.aload_n 0, 1) := by decide +kernel
theorem dX0_makeCell_136 : decode cX0_makeCell 136 = .ok (.getfield 22, 3) := by decide +kernel
theorem dX0_makeCell_139 : decode cX0_makeCell 139 = .ok (.iload 5, 2) := by decide +kernel
theorem dX0_makeCell_141 : decode cX0_makeCell 141 = .ok (.iconst 5, 1) := by decide +kernel
theorem dX0_makeCell_142 : decode cX0_makeCell 142 = .ok (.iconst (-1), 1) := by decide +kernel
theorem dX0_makeCell_143 : decode cX0_makeCell 143 = .ok (.iconst (-1), 1) := by decide +kernel
theorem dX0_makeCell_144 : decode cX0_makeCell 144 = .ok (.invokevirtual 58, 3) := by decide +kernel
theorem dX0_makeCell_147 : decode cX0_makeCell 147 = .ok (.iload 5, 2) := by decide +kernel
theorem dX0_makeCell_149 : decode cX0_makeCell 149 = .ok (.ireturn, 1) := by decide +kernel
theorem dX0_wrongAs_0 : decode cX0_wrongAs 0 = .ok (.aload_n 0, 1) := by decide +kernel
theorem dX0_wrongAs_1 : decode cX0_wrongAs 1 = .ok (.getfield 21, 3) := by decide +kernel
theorem dX0_wrongAs_4 : decode cX0_wrongAs 4 = .ok (.iload_n 2, 1) := by decide +kernel
theorem dX0_wrongAs_5 : decode cX0_wrongAs 5 = .ok (.invokevirtual 62, 3) := by decide +kernel
theorem dX0_wrongAs_8 : decode cX0_wrongAs 8 = .ok (.ifCond .ne 6, 3) := by decide +kernel
theorem dX0_wrongAs_11 : decode cX0_wrongAs 11 = .ok (.bipush (-11), 2) := by decide +kernel
theorem dX0_wrongAs_13 : decode cX0_wrongAs 13 = .ok (.ireturn, 1) := by decide +kernel
theorem dX0_wrongAs_14 : decode cX0_wrongAs 14 = .ok (.aload_n 0, 1) := by decide +kernel
theorem dX0_wrongAs_15 : decode cX0_wrongAs 15 = .ok (.getfield 21, 3) := by decide +kernel
theorem dX0_wrongAs_18 : decode cX0_wrongAs 18 = .ok (.iload_n 1, 1) := by decide +kernel
theorem dX0_wrongAs_19 : decode cX0_wrongAs 19 = .ok (.iload_n 2, 1) := by decide +kernel
theorem dX0_wrongAs_20 : decode cX0_wrongAs 20 = .ok (.invokevirtual 65, 3) := by decide +kernel
theorem dX0_wrongAs_23 : decode cX0_wrongAs 23 = .ok (.ifCond .eq 7, 3) := by decide +kernel
theorem dX0_wrongAs_26 : decode cX0_wrongAs 26 = .ok (.iconst 0, 1) := by decide +kernel
theorem dX0_wrongAs_27 : decode cX0_wrongAs 27 = .ok (.goto 5, 3) := by decide +kernel
theorem dX0_wrongAs_30 : decode cX0_wrongAs 30 = .ok (.bipush (-13), 2) := by decide +kernel
theorem dX0_wrongAs_32 : decode cX0_wrongAs 32 = .ok (.ireturn, 1) := by decide +kernel
theorem dX0_wrongForLinks_0 : decode cX0_wrongForLinks 0 = .ok (.aload_n 0, 1) := by decide +kernel
theorem dX0_wrongForLinks_1 : decode cX0_wrongForLinks 1 = .ok (.getfield 21, 3) := by decide +kernel
theorem dX0_wrongForLinks_4 : decode cX0_wrongForLinks 4 = .ok (.iload_n 1, 1) := by decide +kernel
theorem dX0_wrongForLinks_5 : decode cX0_wrongForLinks 5 = .ok (.invokevirtual 62, 3) := by decide +kernel
theorem dX0_wrongForLinks_8 : decode cX0_wrongForLinks 8 = .ok (.ifCond .ne 6, 3) := by decide +kernel
theorem dX0_wrongForLinks_11 : decode cX0_wrongForLinks 11 = .ok (.bipush (-11), 2) := by decide +kernel
theorem dX0_wrongForLinks_13 : decode cX0_wrongForLinks 13 = .ok (.ireturn, 1) := by decide +kernel
theorem dX0_wrongForLinks_14 : decode cX0_wrongForLinks 14 = .ok (.aload_n 0, 1) := by decide +kernel
theorem dX0_wrongForLinks_15 : decode cX0_wrongForLinks 15 = .ok (.getfield 21, 3) := by decide +kernel
theorem dX0_wrongForLinks_18 : decode cX0_wrongForLinks 18 = .ok (.iconst 2, 1) := by decide +kernel
theorem dX0_wrongForLinks_19 : decode cX0_wrongForLinks 19 = .ok (.iload_n 1, 1) := by decide +kernel
theorem dX0_wrongForLinks_20 : decode cX0_wrongForLinks 20 = .ok (.invokevirtual 65, 3) := by decide +kernel
theorem dX0_wrongForLinks_23 : decode cX0_wrongForLinks 23 = .ok (.ifCond .eq 8, 3) := by decide +kernel
theorem dX0_wrongForLinks_26 : decode cX0_wrongForLinks 26 = .ok (.bipush (-13), 2) := by decide +kernel
theorem dX0_wrongForLinks_28 : decode cX0_wrongForLinks 28 = .ok (.goto 4, 3) := by decide +kernel
theorem dX0_wrongForLinks_31 : decode cX0_wrongForLinks 31 = .ok (.iconst 0, 1) := by decide +kernel
theorem dX0_wrongForLinks_32 : decode cX0_wrongForLinks 32 = .ok (.ireturn, 1) := by decide +kernel
theorem dX0_isGoneTarget_0 : decode cX0_isGoneTarget 0 = .ok (.iload_n 1, 1) := by decide +kernel
theorem dX0_isGoneTarget_1 : decode cX0_isGoneTarget 1 = .ok (.iconst (-1), 1) := by decide +kernel
theorem dX0_isGoneTarget_2 : decode cX0_isGoneTarget 2 = .ok (.if_icmp .eq 18, 3) := by decide +kernel
theorem dX0_isGoneTarget_5 : decode cX0_isGoneTarget 5 = .ok (.aload_n 0, 1) := by decide +kernel
theorem dX0_isGoneTarget_6 : decode cX0_isGoneTarget 6 = .ok (.getfield 21, 3) := by decide +kernel
theorem dX0_isGoneTarget_9 : decode cX0_isGoneTarget 9 = .ok (.iload_n 1, 1) := by decide +kernel
theorem dX0_isGoneTarget_10 : decode cX0_isGoneTarget 10 = .ok (.invokevirtual 62, 3) := by decide +kernel
theorem dX0_isGoneTarget_13 : decode cX0_isGoneTarget 13 = .ok (.ifCond .ne 7, 3) := by decide +kernel
theorem dX0_isGoneTarget_16 : decode cX0_isGoneTarget 16 = .ok (.iconst 1, 1) := by decide +kernel
theorem dX0_isGoneTarget_17 : decode cX0_isGoneTarget 17 = .ok (.goto 4, 3) := by decide +kernel
theorem dX0_isGoneTarget_20 : decode cX0_isGoneTarget 20 = .ok (.iconst 0, 1) := by decide +kernel
theorem dX0_isGoneTarget_21 : decode cX0_isGoneTarget 21 = .ok (.ireturn, 1) := by decide +kernel
theorem dX0_setLink_0 : decode cX0_setLink 0 = .ok (.aload_n 0, 1) := by decide +kernel
theorem dX0_setLink_1 : decode cX0_setLink 1 = .ok (.iload_n 1, 1) := by decide +kernel
theorem dX0_setLink_2 : decode cX0_setLink 2 = .ok (.invokevirtual 69, 3) := by decide +kernel
theorem dX0_setLink_5 : decode cX0_setLink 5 = .ok (.istore 4, 2) := by decide +kernel
theorem dX0_setLink_7 : decode cX0_setLink 7 = .ok (.iload 4, 2) := by decide +kernel
theorem dX0_setLink_9 : decode cX0_setLink 9 = .ok (.ifCond .eq 6, 3) := by decide +kernel
theorem dX0_setLink_12 : decode cX0_setLink 12 = .ok (.iload 4, 2) := by decide +kernel
theorem dX0_setLink_14 : decode cX0_setLink 14 = .ok (.ireturn, 1) := by decide +kernel
theorem dX0_setLink_15 : decode cX0_setLink 15 = .ok (.aload_n 0, 1) := by decide +kernel
theorem dX0_setLink_16 : decode cX0_setLink 16 = .ok (.iload_n 3, 1) := by decide +kernel
theorem dX0_setLink_17 : decode cX0_setLink 17 = .ok (.invokevirtual 73, 3) := by decide +kernel
theorem dX0_setLink_20 : decode cX0_setLink 20 = .ok (.ifCond .eq 6, 3) := by decide +kernel
theorem dX0_setLink_23 : decode cX0_setLink 23 = .ok (.bipush (-11), 2) := by decide +kernel
theorem dX0_setLink_25 : decode cX0_setLink 25 = .ok (.ireturn, 1) := by decide +kernel
theorem dX0_setLink_26 : decode cX0_setLink 26 = .ok (.iload_n 2, 1) := by decide +kernel
theorem dX0_setLink_27 : decode cX0_setLink 27 = .ok (.ifCond .lt 15, 3) := by decide +kernel
theorem dX0_setLink_30 : decode cX0_setLink 30 = .ok (.iload_n 2, 1) := by decide +kernel
theorem dX0_setLink_31 : decode cX0_setLink 31 = .ok (.aload_n 0, 1) := by decide +kernel
theorem dX0_setLink_32 : decode cX0_setLink 32 = .ok (.getfield 21, 3) := by decide +kernel
theorem dX0_setLink_35 : decode cX0_setLink 35 = .ok (.iload_n 1, 1) := by decide +kernel
theorem dX0_setLink_36 : decode cX0_setLink 36 = .ok (.invokevirtual 76, 3) := by decide +kernel
theorem dX0_setLink_39 : decode cX0_setLink 39 = .ok (.if_icmp .lt 6, 3) := by decide +kernel
theorem dX0_setLink_42 : decode cX0_setLink 42 = .ok (.bipush (-12), 2) := by decide +kernel
theorem dX0_setLink_44 : decode cX0_setLink 44 = .ok (.ireturn, 1) := by decide +kernel
theorem dX0_setLink_45 : decode cX0_setLink 45 = .ok (.aload_n 0, 1) := by decide +kernel
theorem dX0_setLink_46 : decode cX0_setLink 46 = .ok (.iload_n 1, 1) := by decide +kernel
theorem dX0_setLink_47 : decode cX0_setLink 47 = .ok (.iload_n 2, 1) := by decide +kernel
theorem dX0_setLink_48 : decode cX0_setLink 48 = .ok (.iload_n 3, 1) := by decide +kernel
theorem dX0_setLink_49 : decode cX0_setLink 49 = .ok (.invokevirtual 79, 3) := by decide +kernel
theorem dX0_setLink_52 : decode cX0_setLink 52 = .ok (.iconst 1, 1) := by decide +kernel
theorem dX0_setLink_53 : decode cX0_setLink 53 = .ok (.ireturn, 1) := by decide +kernel
theorem dX0_changeLink_0 : decode cX0_changeLink 0 = .ok (.aload_n 0, 1) := by decide +kernel
theorem dX0_changeLink_1 : decode cX0_changeLink 1 = .ok (.getfield 21, 3) := by decide +kernel
theorem dX0_changeLink_4 : decode cX0_changeLink 4 = .ok (.iload_n 1, 1) := by decide +kernel
theorem dX0_changeLink_5 : decode cX0_changeLink 5 = .ok (.invokevirtual 83, 3) := by decide +kernel
theorem dX0_changeLink_8 : decode cX0_changeLink 8 = .ok (.iload_n 2, 1) := by decide +kernel
theorem dX0_changeLink_9 : decode cX0_changeLink 9 = .ok (.iadd, 1) := by decide +kernel
theorem dX0_changeLink_10 : decode cX0_changeLink 10 = .ok (.istore 4, 2) := by decide +kernel
theorem dX0_changeLink_12 : decode cX0_changeLink 12 = .ok (.aload_n 0, 1) := by decide +kernel
theorem dX0_changeLink_13 : decode cX0_changeLink 13 = .ok (.getfield 22, 3) := by decide +kernel
theorem dX0_changeLink_16 : decode cX0_changeLink 16 = .ok (.aload_n 0, 1) := by decide +kernel
theorem dX0_changeLink_17 : decode cX0_changeLink 17 = .ok (.getfield 21, 3) := by decide +kernel
theorem dX0_changeLink_20 : decode cX0_changeLink 20 = .ok (.getfield 86, 3) := by decide +kernel
theorem dX0_changeLink_23 : decode cX0_changeLink 23 = .ok (.iload 4, 2) := by decide +kernel
theorem dX0_changeLink_25 : decode cX0_changeLink 25 = .ok (.iaload, 1) := by decide +kernel
theorem dX0_changeLink_26 : decode cX0_changeLink 26 = .ok (.iconst 2, 1) := by decide +kernel
theorem dX0_changeLink_27 : decode cX0_changeLink 27 = .ok (.iload_n 1, 1) := by decide +kernel
theorem dX0_changeLink_28 : decode cX0_changeLink 28 = .ok (.iload_n 2, 1) := by decide +kernel
theorem dX0_changeLink_29 : decode cX0_changeLink 29 = .ok (.invokevirtual 58, 3) := by decide +kernel
theorem dX0_changeLink_32 : decode cX0_changeLink 32 = .ok (.aload_n 0, 1) := by decide +kernel
theorem dX0_changeLink_33 : decode cX0_changeLink 33 = .ok (.getfield 21, 3) := by decide +kernel
theorem dX0_changeLink_36 : decode cX0_changeLink 36 = .ok (.getfield 86, 3) := by decide +kernel
theorem dX0_changeLink_39 : decode cX0_changeLink 39 = .ok (.iload 4, 2) := by decide +kernel
theorem dX0_changeLink_41 : decode cX0_changeLink 41 = .ok (.iload_n 3, 1) := by decide +kernel
theorem dX0_changeLink_42 : decode cX0_changeLink 42 = .ok (.iastore, 1) := by decide +kernel
theorem dX0_changeLink_43 : decode cX0_changeLink 43 = .ok (.aload_n 0, 1) := by decide +kernel
theorem dX0_changeLink_44 : decode cX0_changeLink 44 = .ok (.getfield 22, 3) := by decide +kernel
theorem dX0_changeLink_47 : decode cX0_changeLink 47 = .ok (.iload_n 3, 1) := by decide +kernel
theorem dX0_changeLink_48 : decode cX0_changeLink 48 = .ok (.iconst 3, 1) := by decide +kernel
theorem dX0_changeLink_49 : decode cX0_changeLink 49 = .ok (.iload_n 1, 1) := by decide +kernel
theorem dX0_changeLink_50 : decode cX0_changeLink 50 = .ok (.iload_n 2, 1) := by decide +kernel
theorem dX0_changeLink_51 : decode cX0_changeLink 51 = .ok (.invokevirtual 58, 3) := by decide +kernel
theorem dX0_changeLink_54 : decode cX0_changeLink 54 = .ok (.return_, 1) := by decide +kernel
theorem dX0_linkOf_0 : decode cX0_linkOf 0 = .ok (.aload_n 0, 1) := by decide +kernel
theorem dX0_linkOf_1 : decode cX0_linkOf 1 = .ok (.iload_n 1, 1) := by decide +kernel
theorem dX0_linkOf_2 : decode cX0_linkOf 2 = .ok (.invokevirtual 69, 3) := by decide +kernel
theorem dX0_linkOf_5 : decode cX0_linkOf 5 = .ok (.istore_n 3, 1) := by decide +kernel
theorem dX0_linkOf_6 : decode cX0_linkOf 6 = .ok (.iload_n 3, 1) := by decide +kernel
theorem dX0_linkOf_7 : decode cX0_linkOf 7 = .ok (.ifCond .eq 5, 3) := by decide +kernel
theorem dX0_linkOf_10 : decode cX0_linkOf 10 = .ok (.iload_n 3, 1) := by decide +kernel
theorem dX0_linkOf_11 : decode cX0_linkOf 11 = .ok (.ireturn, 1) := by decide +kernel
theorem dX0_linkOf_12 : decode cX0_linkOf 12 = .ok (.iload_n 2, 1) := by decide +kernel
theorem dX0_linkOf_13 : decode cX0_linkOf 13 = .ok (.ifCond .lt 15, 3) := by decide +kernel
theorem dX0_linkOf_16 : decode cX0_linkOf 16 = .ok (.iload_n 2, 1) := by decide +kernel
theorem dX0_linkOf_17 : decode cX0_linkOf 17 = .ok (.aload_n 0, 1) := by decide +kernel
theorem dX0_linkOf_18 : decode cX0_linkOf 18 = .ok (.getfield 21, 3) := by decide +kernel
theorem dX0_linkOf_21 : decode cX0_linkOf 21 = .ok (.iload_n 1, 1) := by decide +kernel
theorem dX0_linkOf_22 : decode cX0_linkOf 22 = .ok (.invokevirtual 76, 3) := by decide +kernel
theorem dX0_linkOf_25 : decode cX0_linkOf 25 = .ok (.if_icmp .lt 8, 3) := by decide +kernel
theorem dX0_linkOf_28 : decode cX0_linkOf 28 = .ok (.bipush (-12), 2) := by decide +kernel
theorem dX0_linkOf_30 : decode cX0_linkOf 30 = .ok (.goto 21, 3) := by decide +kernel
theorem dX0_linkOf_33 : decode cX0_linkOf 33 = .ok (.aload_n 0, 1) := by decide +kernel
theorem dX0_linkOf_34 : decode cX0_linkOf 34 = .ok (.getfield 21, 3) := by decide +kernel
theorem dX0_linkOf_37 : decode cX0_linkOf 37 = .ok (.getfield 86, 3) := by decide +kernel
theorem dX0_linkOf_40 : decode cX0_linkOf 40 = .ok (.aload_n 0, 1) := by decide +kernel
theorem dX0_linkOf_41 : decode cX0_linkOf 41 = .ok (.getfield 21, 3) := by decide +kernel
theorem dX0_linkOf_44 : decode cX0_linkOf 44 = .ok (.iload_n 1, 1) := by decide +kernel
theorem dX0_linkOf_45 : decode cX0_linkOf 45 = .ok (.invokevirtual 83, 3) := by decide +kernel
theorem dX0_linkOf_48 : decode cX0_linkOf 48 = .ok (.iload_n 2, 1) := by decide +kernel
theorem dX0_linkOf_49 : decode cX0_linkOf 49 = .ok (.iadd, 1) := by decide +kernel
theorem dX0_linkOf_50 : decode cX0_linkOf 50 = .ok (.iaload, 1) := by decide +kernel
theorem dX0_linkOf_51 : decode cX0_linkOf 51 = .ok (.ireturn, 1) := by decide +kernel
theorem dX0_setWeakLink_0 : decode cX0_setWeakLink 0 = .ok (.aload_n 0, 1) := by decide +kernel
theorem dX0_setWeakLink_1 : decode cX0_setWeakLink 1 = .ok (.iconst 3, 1) := by decide +kernel
theorem dX0_setWeakLink_2 : decode cX0_setWeakLink 2 = .ok (.iload_n 1, 1) := by decide +kernel
theorem dX0_setWeakLink_3 : decode cX0_setWeakLink 3 = .ok (.invokevirtual 90, 3) := by decide +kernel
theorem dX0_setWeakLink_6 : decode cX0_setWeakLink 6 = .ok (.istore_n 3, 1) := by decide +kernel
theorem dX0_setWeakLink_7 : decode cX0_setWeakLink 7 = .ok (.iload_n 3, 1) := by decide +kernel
theorem dX0_setWeakLink_8 : decode cX0_setWeakLink 8 = .ok (.ifCond .eq 5, 3) := by decide +kernel
theorem dX0_setWeakLink_11 : decode cX0_setWeakLink 11 = .ok (.iload_n 3, 1) := by decide +kernel
theorem dX0_setWeakLink_12 : decode cX0_setWeakLink 12 = .ok (.ireturn, 1) := by decide +kernel
theorem dX0_setWeakLink_13 : decode cX0_setWeakLink 13 = .ok (.aload_n 0, 1) := by decide +kernel
theorem dX0_setWeakLink_14 : decode cX0_setWeakLink 14 = .ok (.iload_n 2, 1) := by decide +kernel
theorem dX0_setWeakLink_15 : decode cX0_setWeakLink 15 = .ok (.invokevirtual 73, 3) := by decide +kernel
theorem dX0_setWeakLink_18 : decode cX0_setWeakLink 18 = .ok (.ifCond .eq 6, 3) := by decide +kernel
theorem dX0_setWeakLink_21 : decode cX0_setWeakLink 21 = .ok (.bipush (-11), 2) := by decide +kernel
theorem dX0_setWeakLink_23 : decode cX0_setWeakLink 23 = .ok (.ireturn, 1) := by decide +kernel
theorem dX0_setWeakLink_24 : decode cX0_setWeakLink 24 = .ok (.aload_n 0, 1) := by decide +kernel
theorem dX0_setWeakLink_25 : decode cX0_setWeakLink 25 = .ok (.getfield 21, 3) := by decide +kernel
theorem dX0_setWeakLink_28 : decode cX0_setWeakLink 28 = .ok (.getfield 86, 3) := by decide +kernel
theorem dX0_setWeakLink_31 : decode cX0_setWeakLink 31 = .ok (.aload_n 0, 1) := by decide +kernel
theorem dX0_setWeakLink_32 : decode cX0_setWeakLink 32 = .ok (.getfield 21, 3) := by decide +kernel
theorem dX0_setWeakLink_35 : decode cX0_setWeakLink 35 = .ok (.iload_n 1, 1) := by decide +kernel
theorem dX0_setWeakLink_36 : decode cX0_setWeakLink 36 = .ok (.invokevirtual 93, 3) := by decide +kernel
theorem dX0_setWeakLink_39 : decode cX0_setWeakLink 39 = .ok (.iload_n 2, 1) := by decide +kernel
theorem dX0_setWeakLink_40 : decode cX0_setWeakLink 40 = .ok (.iastore, 1) := by decide +kernel
theorem dX0_setWeakLink_41 : decode cX0_setWeakLink 41 = .ok (.iconst 1, 1) := by decide +kernel
theorem dX0_setWeakLink_42 : decode cX0_setWeakLink 42 = .ok (.ireturn, 1) := by decide +kernel
theorem dX0_lookAt_0 : decode cX0_lookAt 0 = .ok (.aload_n 0, 1) := by decide +kernel
theorem dX0_lookAt_1 : decode cX0_lookAt 1 = .ok (.iconst 3, 1) := by decide +kernel
theorem dX0_lookAt_2 : decode cX0_lookAt 2 = .ok (.iload_n 1, 1) := by decide +kernel
theorem dX0_lookAt_3 : decode cX0_lookAt 3 = .ok (.invokevirtual 90, 3) := by decide +kernel
theorem dX0_lookAt_6 : decode cX0_lookAt 6 = .ok (.istore_n 2, 1) := by decide +kernel
theorem dX0_lookAt_7 : decode cX0_lookAt 7 = .ok (.iload_n 2, 1) := by decide +kernel
theorem dX0_lookAt_8 : decode cX0_lookAt 8 = .ok (.ifCond .eq 5, 3) := by decide +kernel
theorem dX0_lookAt_11 : decode cX0_lookAt 11 = .ok (.iload_n 2, 1) := by decide +kernel
theorem dX0_lookAt_12 : decode cX0_lookAt 12 = .ok (.ireturn, 1) := by decide +kernel
theorem dX0_lookAt_13 : decode cX0_lookAt 13 = .ok (.aload_n 0, 1) := by decide +kernel
theorem dX0_lookAt_14 : decode cX0_lookAt 14 = .ok (.getfield 21, 3) := by decide +kernel
theorem dX0_lookAt_17 : decode cX0_lookAt 17 = .ok (.getfield 86, 3) := by decide +kernel
theorem dX0_lookAt_20 : decode cX0_lookAt 20 = .ok (.aload_n 0, 1) := by decide +kernel
theorem dX0_lookAt_21 : decode cX0_lookAt 21 = .ok (.getfield 21, 3) := by decide +kernel
theorem dX0_lookAt_24 : decode cX0_lookAt 24 = .ok (.iload_n 1, 1) := by decide +kernel
theorem dX0_lookAt_25 : decode cX0_lookAt 25 = .ok (.invokevirtual 93, 3) := by decide +kernel
theorem dX0_lookAt_28 : decode cX0_lookAt 28 = .ok (.iaload, 1) := by decide +kernel
theorem dX0_lookAt_29 : decode cX0_lookAt 29 = .ok (.istore_n 3, 1) := by decide +kernel
theorem dX0_lookAt_30 : decode cX0_lookAt 30 = .ok (.aload_n 0, 1) := by decide +kernel
theorem dX0_lookAt_31 : decode cX0_lookAt 31 = .ok (.getfield 22, 3) := by decide +kernel
theorem dX0_lookAt_34 : decode cX0_lookAt 34 = .ok (.iload_n 3, 1) := by decide +kernel
theorem dX0_lookAt_35 : decode cX0_lookAt 35 = .ok (.iconst 4, 1) := by decide +kernel
theorem dX0_lookAt_36 : decode cX0_lookAt 36 = .ok (.iload_n 1, 1) := by decide +kernel
theorem dX0_lookAt_37 : decode cX0_lookAt 37 = .ok (.iconst 0, 1) := by decide +kernel
theorem dX0_lookAt_38 : decode cX0_lookAt 38 = .ok (.invokevirtual 58, 3) := by decide +kernel
theorem dX0_lookAt_41 : decode cX0_lookAt 41 = .ok (.iload_n 3, 1) := by decide +kernel
theorem dX0_lookAt_42 : decode cX0_lookAt 42 = .ok (.ireturn, 1) := by decide +kernel
theorem dX0_byteOf_0 : decode cX0_byteOf 0 = .ok (.aload_n 0, 1) := by decide +kernel
theorem dX0_byteOf_1 : decode cX0_byteOf 1 = .ok (.iconst 2, 1) := by decide +kernel
theorem dX0_byteOf_2 : decode cX0_byteOf 2 = .ok (.iload_n 1, 1) := by decide +kernel
theorem dX0_byteOf_3 : decode cX0_byteOf 3 = .ok (.invokevirtual 90, 3) := by decide +kernel
theorem dX0_byteOf_6 : decode cX0_byteOf 6 = .ok (.istore_n 3, 1) := by decide +kernel
theorem dX0_byteOf_7 : decode cX0_byteOf 7 = .ok (.iload_n 3, 1) := by decide +kernel
theorem dX0_byteOf_8 : decode cX0_byteOf 8 = .ok (.ifCond .eq 5, 3) := by decide +kernel
theorem dX0_byteOf_11 : decode cX0_byteOf 11 = .ok (.iload_n 3, 1) := by decide +kernel
theorem dX0_byteOf_12 : decode cX0_byteOf 12 = .ok (.ireturn, 1) := by decide +kernel
theorem dX0_byteOf_13 : decode cX0_byteOf 13 = .ok (.iload_n 2, 1) := by decide +kernel
theorem dX0_byteOf_14 : decode cX0_byteOf 14 = .ok (.ifCond .lt 15, 3) := by decide +kernel
theorem dX0_byteOf_17 : decode cX0_byteOf 17 = .ok (.iload_n 2, 1) := by decide +kernel
theorem dX0_byteOf_18 : decode cX0_byteOf 18 = .ok (.aload_n 0, 1) := by decide +kernel
theorem dX0_byteOf_19 : decode cX0_byteOf 19 = .ok (.getfield 21, 3) := by decide +kernel
theorem dX0_byteOf_22 : decode cX0_byteOf 22 = .ok (.iload_n 1, 1) := by decide +kernel
theorem dX0_byteOf_23 : decode cX0_byteOf 23 = .ok (.invokevirtual 96, 3) := by decide +kernel
theorem dX0_byteOf_26 : decode cX0_byteOf 26 = .ok (.if_icmp .lt 6, 3) := by decide +kernel
theorem dX0_byteOf_29 : decode cX0_byteOf 29 = .ok (.bipush (-12), 2) := by decide +kernel
theorem dX0_byteOf_31 : decode cX0_byteOf 31 = .ok (.ireturn, 1) := by decide +kernel
theorem dX0_byteOf_32 : decode cX0_byteOf 32 = .ok (.aload_n 0, 1) := by decide +kernel
theorem dX0_byteOf_33 : decode cX0_byteOf 33 = .ok (.getfield 21, 3) := by decide +kernel
theorem dX0_byteOf_36 : decode cX0_byteOf 36 = .ok (.getfield 86, 3) := by decide +kernel
theorem dX0_byteOf_39 : decode cX0_byteOf 39 = .ok (.aload_n 0, 1) := by decide +kernel
theorem dX0_byteOf_40 : decode cX0_byteOf 40 = .ok (.getfield 21, 3) := by decide +kernel
theorem dX0_byteOf_43 : decode cX0_byteOf 43 = .ok (.getfield 99, 3) := by decide +kernel
theorem dX0_byteOf_46 : decode cX0_byteOf 46 = .ok (.iload_n 1, 1) := by decide +kernel
theorem dX0_byteOf_47 : decode cX0_byteOf 47 = .ok (.iaload, 1) := by decide +kernel
theorem dX0_byteOf_48 : decode cX0_byteOf 48 = .ok (.iconst 2, 1) := by decide +kernel
theorem dX0_byteOf_49 : decode cX0_byteOf 49 = .ok (.iadd, 1) := by decide +kernel
theorem dX0_byteOf_50 : decode cX0_byteOf 50 = .ok (.iload_n 2, 1) := by decide +kernel
theorem dX0_byteOf_51 : decode cX0_byteOf 51 = .ok (.iconst 4, 1) := by decide +kernel
theorem dX0_byteOf_52 : decode cX0_byteOf 52 = .ok (.idiv, 1) := by decide +kernel
theorem dX0_byteOf_53 : decode cX0_byteOf 53 = .ok (.iadd, 1) := by decide +kernel
theorem dX0_byteOf_54 : decode cX0_byteOf 54 = .ok (.iaload, 1) := by decide +kernel
theorem dX0_byteOf_55 : decode cX0_byteOf 55 = .ok (.bipush 8, 2) := by decide +kernel
theorem dX0_byteOf_57 : decode cX0_byteOf 57 = .ok (.iload_n 2, 1) := by decide +kernel
theorem dX0_byteOf_58 : decode cX0_byteOf 58 = .ok (.iconst 4, 1) := by decide +kernel
theorem dX0_byteOf_59 : decode cX0_byteOf 59 = .ok (.irem, 1) := by decide +kernel
theorem dX0_byteOf_60 : decode cX0_byteOf 60 = .ok (.imul, 1) := by decide +kernel
theorem dX0_byteOf_61 : decode cX0_byteOf 61 = .ok (.iushr, 1) := by decide +kernel
theorem dX0_byteOf_62 : decode cX0_byteOf 62 = .ok (.sipush 255, 3) := by decide +kernel
theorem dX0_byteOf_65 : decode cX0_byteOf 65 = .ok (.iand, 1) := by decide +kernel
theorem dX0_byteOf_66 : decode cX0_byteOf 66 = .ok (.ireturn, 1) := by decide +kernel
theorem dX0_setByte_0 : decode cX0_setByte 0 = .ok (.aload_n 0, 1) := by decide +kernel
theorem dX0_setByte_1 : decode cX0_setByte 1 = .ok (.iload_n 1, 1) := by decide +kernel
theorem dX0_setByte_2 : decode cX0_setByte 2 = .ok (.iload_n 2, 1) := by decide +kernel
theorem dX0_setByte_3 : decode cX0_setByte 3 = .ok (.invokevirtual 102, 3) := by decide +kernel
theorem dX0_setByte_6 : decode cX0_setByte 6 = .ok (.istore 4, 2) := by decide +kernel
theorem dX0_setByte_8 : decode cX0_setByte 8 = .ok (.iload 4, 2) := by decide +kernel
theorem dX0_setByte_10 : decode cX0_setByte 10 = .ok (.ifCond .lt 66, 3) := by decide +kernel
theorem dX0_setByte_13 : decode cX0_setByte 13 = .ok (.aload_n 0, 1) := by decide +kernel
theorem dX0_setByte_14 : decode cX0_setByte 14 = .ok (.getfield 21, 3) := by decide +kernel
theorem dX0_setByte_17 : decode cX0_setByte 17 = .ok (.getfield 99, 3) := by decide +kernel
theorem dX0_setByte_20 : decode cX0_setByte 20 = .ok (.iload_n 1, 1) := by decide +kernel
theorem dX0_setByte_21 : decode cX0_setByte 21 = .ok (.iaload, 1) := by decide +kernel
theorem dX0_setByte_22 : decode cX0_setByte 22 = .ok (.iconst 2, 1) := by decide +kernel
theorem dX0_setByte_23 : decode cX0_setByte 23 = .ok (.iadd, 1) := by decide +kernel
theorem dX0_setByte_24 : decode cX0_setByte 24 = .ok (.iload_n 2, 1) := by decide +kernel
theorem dX0_setByte_25 : decode cX0_setByte 25 = .ok (.iconst 4, 1) := by decide +kernel
theorem dX0_setByte_26 : decode cX0_setByte 26 = .ok (.idiv, 1) := by decide +kernel
theorem dX0_setByte_27 : decode cX0_setByte 27 = .ok (.iadd, 1) := by decide +kernel
theorem dX0_setByte_28 : decode cX0_setByte 28 = .ok (.istore 5, 2) := by decide +kernel
theorem dX0_setByte_30 : decode cX0_setByte 30 = .ok (.bipush 8, 2) := by decide +kernel
theorem dX0_setByte_32 : decode cX0_setByte 32 = .ok (.iload_n 2, 1) := by decide +kernel
theorem dX0_setByte_33 : decode cX0_setByte 33 = .ok (.iconst 4, 1) := by decide +kernel
theorem dX0_setByte_34 : decode cX0_setByte 34 = .ok (.irem, 1) := by decide +kernel
theorem dX0_setByte_35 : decode cX0_setByte 35 = .ok (.imul, 1) := by decide +kernel
theorem dX0_setByte_36 : decode cX0_setByte 36 = .ok (.istore 6, 2) := by decide +kernel
theorem dX0_setByte_38 : decode cX0_setByte 38 = .ok (.aload_n 0, 1) := by decide +kernel
theorem dX0_setByte_39 : decode cX0_setByte 39 = .ok (.getfield 21, 3) := by decide +kernel
theorem dX0_setByte_42 : decode cX0_setByte 42 = .ok (.getfield 86, 3) := by decide +kernel
theorem dX0_setByte_45 : decode cX0_setByte 45 = .ok (.iload 5, 2) := by decide +kernel
theorem dX0_setByte_47 : decode cX0_setByte 47 = .ok (.aload_n 0, 1) := by decide +kernel
theorem dX0_setByte_48 : decode cX0_setByte 48 = .ok (.getfield 21, 3) := by decide +kernel
theorem dX0_setByte_51 : decode cX0_setByte 51 = .ok (.getfield 86, 3) := by decide +kernel
theorem dX0_setByte_54 : decode cX0_setByte 54 = .ok (.iload 5, 2) := by decide +kernel
theorem dX0_setByte_56 : decode cX0_setByte 56 = .ok (.iaload, 1) := by decide +kernel
theorem dX0_setByte_57 : decode cX0_setByte 57 = .ok (.sipush 255, 3) := by decide +kernel
theorem dX0_setByte_60 : decode cX0_setByte 60 = .ok (.iload 6, 2) := by decide +kernel
theorem dX0_setByte_62 : decode cX0_setByte 62 = .ok (.ishl, 1) := by decide +kernel
theorem dX0_setByte_63 : decode cX0_setByte 63 = .ok (.iconst (-1), 1) := by decide +kernel
theorem dX0_setByte_64 : decode cX0_setByte 64 = .ok (.ixor, 1) := by decide +kernel
theorem dX0_setByte_65 : decode cX0_setByte 65 = .ok (.iand, 1) := by decide +kernel
theorem dX0_setByte_66 : decode cX0_setByte 66 = .ok (.iload_n 3, 1) := by decide +kernel
theorem dX0_setByte_67 : decode cX0_setByte 67 = .ok (.sipush 255, 3) := by decide +kernel
theorem dX0_setByte_70 : decode cX0_setByte 70 = .ok (.iand, 1) := by decide +kernel
theorem dX0_setByte_71 : decode cX0_setByte 71 = .ok (.iload 6, 2) := by decide +kernel
theorem dX0_setByte_73 : decode cX0_setByte 73 = .ok (.ishl, 1) := by decide +kernel
theorem dX0_setByte_74 : decode cX0_setByte 74 = .ok (.ior, 1) := by decide +kernel
theorem dX0_setByte_75 : decode cX0_setByte 75 = .ok (.iastore, 1) := by decide +kernel
theorem dX0_setByte_76 : decode cX0_setByte 76 = .ok (.iload 4, 2) := by decide +kernel
theorem dX0_setByte_78 : decode cX0_setByte 78 = .ok (.ireturn, 1) := by decide +kernel
theorem dX0_setKey_0 : decode cX0_setKey 0 = .ok (.aload_n 0, 1) := by decide +kernel
theorem dX0_setKey_1 : decode cX0_setKey 1 = .ok (.iconst 5, 1) := by decide +kernel
theorem dX0_setKey_2 : decode cX0_setKey 2 = .ok (.iload_n 1, 1) := by decide +kernel
theorem dX0_setKey_3 : decode cX0_setKey 3 = .ok (.invokevirtual 90, 3) := by decide +kernel
theorem dX0_setKey_6 : decode cX0_setKey 6 = .ok (.istore 4, 2) := by decide +kernel
theorem dX0_setKey_8 : decode cX0_setKey 8 = .ok (.iload 4, 2) := by decide +kernel
theorem dX0_setKey_10 : decode cX0_setKey 10 = .ok (.ifCond .eq 6, 3) := by decide +kernel
theorem dX0_setKey_13 : decode cX0_setKey 13 = .ok (.iload 4, 2) := by decide +kernel
theorem dX0_setKey_15 : decode cX0_setKey 15 = .ok (.ireturn, 1) := by decide +kernel
theorem dX0_setKey_16 : decode cX0_setKey 16 = .ok (.aload_n 0, 1) := by decide +kernel
theorem dX0_setKey_17 : decode cX0_setKey 17 = .ok (.getfield 21, 3) := by decide +kernel
theorem dX0_setKey_20 : decode cX0_setKey 20 = .ok (.iload_n 1, 1) := by decide +kernel
theorem dX0_setKey_21 : decode cX0_setKey 21 = .ok (.invokevirtual 96, 3) := by decide +kernel
theorem dX0_setKey_24 : decode cX0_setKey 24 = .ok (.istore 5, 2) := by decide +kernel
theorem dX0_setKey_26 : decode cX0_setKey 26 = .ok (.iload_n 2, 1) := by decide +kernel
theorem dX0_setKey_27 : decode cX0_setKey 27 = .ok (.ifCond .lt 9, 3) := by decide +kernel
theorem dX0_setKey_30 : decode cX0_setKey 30 = .ok (.iload_n 2, 1) := by decide +kernel
theorem dX0_setKey_31 : decode cX0_setKey 31 = .ok (.iload 5, 2) := by decide +kernel
theorem dX0_setKey_33 : decode cX0_setKey 33 = .ok (.if_icmp .lt 6, 3) := by decide +kernel
theorem dX0_setKey_36 : decode cX0_setKey 36 = .ok (.bipush (-12), 2) := by decide +kernel
theorem dX0_setKey_38 : decode cX0_setKey 38 = .ok (.ireturn, 1) := by decide +kernel
theorem dX0_setKey_39 : decode cX0_setKey 39 = .ok (.aload_n 0, 1) := by decide +kernel
theorem dX0_setKey_40 : decode cX0_setKey 40 = .ok (.getfield 21, 3) := by decide +kernel
theorem dX0_setKey_43 : decode cX0_setKey 43 = .ok (.getfield 86, 3) := by decide +kernel
theorem dX0_setKey_46 : decode cX0_setKey 46 = .ok (.aload_n 0, 1) := by decide +kernel
theorem dX0_setKey_47 : decode cX0_setKey 47 = .ok (.getfield 21, 3) := by decide +kernel
theorem dX0_setKey_50 : decode cX0_setKey 50 = .ok (.getfield 99, 3) := by decide +kernel
theorem dX0_setKey_53 : decode cX0_setKey 53 = .ok (.iload_n 1, 1) := by decide +kernel
theorem dX0_setKey_54 : decode cX0_setKey 54 = .ok (.iaload, 1) := by decide +kernel
theorem dX0_setKey_55 : decode cX0_setKey 55 = .ok (.iconst 2, 1) := by decide +kernel
theorem dX0_setKey_56 : decode cX0_setKey 56 = .ok (.iadd, 1) := by decide +kernel
theorem dX0_setKey_57 : decode cX0_setKey 57 = .ok (.iload 5, 2) := by decide +kernel
theorem dX0_setKey_59 : decode cX0_setKey 59 = .ok (.iadd, 1) := by decide +kernel
theorem dX0_setKey_60 : decode cX0_setKey 60 = .ok (.iload_n 2, 1) := by decide +kernel
theorem dX0_setKey_61 : decode cX0_setKey 61 = .ok (.iadd, 1) := by decide +kernel
theorem dX0_setKey_62 : decode cX0_setKey 62 = .ok (.iload_n 3, 1) := by decide +kernel
theorem dX0_setKey_63 : decode cX0_setKey 63 = .ok (.iastore, 1) := by decide +kernel
theorem dX0_setKey_64 : decode cX0_setKey 64 = .ok (.iconst 1, 1) := by decide +kernel
theorem dX0_setKey_65 : decode cX0_setKey 65 = .ok (.ireturn, 1) := by decide +kernel
theorem dX0_placeOfKey_0 : decode cX0_placeOfKey 0 = .ok (.aload_n 0, 1) := by decide +kernel
theorem dX0_placeOfKey_1 : decode cX0_placeOfKey 1 = .ok (.iconst 5, 1) := by decide +kernel
theorem dX0_placeOfKey_2 : decode cX0_placeOfKey 2 = .ok (.iload_n 1, 1) := by decide +kernel
theorem dX0_placeOfKey_3 : decode cX0_placeOfKey 3 = .ok (.invokevirtual 90, 3) := by decide +kernel
theorem dX0_placeOfKey_6 : decode cX0_placeOfKey 6 = .ok (.istore_n 3, 1) := by decide +kernel
theorem dX0_placeOfKey_7 : decode cX0_placeOfKey 7 = .ok (.iload_n 3, 1) := by decide +kernel
theorem dX0_placeOfKey_8 : decode cX0_placeOfKey 8 = .ok (.ifCond .eq 5, 3) := by decide +kernel
theorem dX0_placeOfKey_11 : decode cX0_placeOfKey 11 = .ok (.iload_n 3, 1) := by decide +kernel
theorem dX0_placeOfKey_12 : decode cX0_placeOfKey 12 = .ok (.ireturn, 1) := by decide +kernel
theorem dX0_placeOfKey_13 : decode cX0_placeOfKey 13 = .ok (.aload_n 0, 1) := by decide +kernel
theorem dX0_placeOfKey_14 : decode cX0_placeOfKey 14 = .ok (.getfield 21, 3) := by decide +kernel
theorem dX0_placeOfKey_17 : decode cX0_placeOfKey 17 = .ok (.iload_n 1, 1) := by decide +kernel
theorem dX0_placeOfKey_18 : decode cX0_placeOfKey 18 = .ok (.invokevirtual 96, 3) := by decide +kernel
theorem dX0_placeOfKey_21 : decode cX0_placeOfKey 21 = .ok (.istore 4, 2) := by decide +kernel
theorem dX0_placeOfKey_23 : decode cX0_placeOfKey 23 = .ok (.aload_n 0, 1) := by decide +kernel
theorem dX0_placeOfKey_24 : decode cX0_placeOfKey 24 = .ok (.getfield 21, 3) := by decide +kernel
theorem dX0_placeOfKey_27 : decode cX0_placeOfKey 27 = .ok (.getfield 99, 3) := by decide +kernel
theorem dX0_placeOfKey_30 : decode cX0_placeOfKey 30 = .ok (.iload_n 1, 1) := by decide +kernel
theorem dX0_placeOfKey_31 : decode cX0_placeOfKey 31 = .ok (.iaload, 1) := by decide +kernel
theorem dX0_placeOfKey_32 : decode cX0_placeOfKey 32 = .ok (.iconst 2, 1) := by decide +kernel
theorem dX0_placeOfKey_33 : decode cX0_placeOfKey 33 = .ok (.iadd, 1) := by decide +kernel
theorem dX0_placeOfKey_34 : decode cX0_placeOfKey 34 = .ok (.iload 4, 2) := by decide +kernel
theorem dX0_placeOfKey_36 : decode cX0_placeOfKey 36 = .ok (.iadd, 1) := by decide +kernel
theorem dX0_placeOfKey_37 : decode cX0_placeOfKey 37 = .ok (.istore 5, 2) := by decide +kernel
theorem dX0_placeOfKey_39 : decode cX0_placeOfKey 39 = .ok (.iconst 0, 1) := by decide +kernel
theorem dX0_placeOfKey_40 : decode cX0_placeOfKey 40 = .ok (.istore 6, 2) := by decide +kernel
theorem dX0_placeOfKey_42 : decode cX0_placeOfKey 42 = .ok (.iload 6, 2) := by decide +kernel
theorem dX0_placeOfKey_44 : decode cX0_placeOfKey 44 = .ok (.iload 4, 2) := by decide +kernel
theorem dX0_placeOfKey_46 : decode cX0_placeOfKey 46 = .ok (.if_icmp .ge 29, 3) := by decide +kernel
theorem dX0_placeOfKey_49 : decode cX0_placeOfKey 49 = .ok (.aload_n 0, 1) := by decide +kernel
theorem dX0_placeOfKey_50 : decode cX0_placeOfKey 50 = .ok (.getfield 21, 3) := by decide +kernel
theorem dX0_placeOfKey_53 : decode cX0_placeOfKey 53 = .ok (.getfield 86, 3) := by decide +kernel
theorem dX0_placeOfKey_56 : decode cX0_placeOfKey 56 = .ok (.iload 5, 2) := by decide +kernel
theorem dX0_placeOfKey_58 : decode cX0_placeOfKey 58 = .ok (.iload 6, 2) := by decide +kernel
theorem dX0_placeOfKey_60 : decode cX0_placeOfKey 60 = .ok (.iadd, 1) := by decide +kernel
theorem dX0_placeOfKey_61 : decode cX0_placeOfKey 61 = .ok (.iaload, 1) := by decide +kernel
theorem dX0_placeOfKey_62 : decode cX0_placeOfKey 62 = .ok (.iload_n 2, 1) := by decide +kernel
theorem dX0_placeOfKey_63 : decode cX0_placeOfKey 63 = .ok (.if_icmp .ne 6, 3) := by decide +kernel
theorem dX0_placeOfKey_66 : decode cX0_placeOfKey 66 = .ok (.iload 6, 2) := by decide +kernel
theorem dX0_placeOfKey_68 : decode cX0_placeOfKey 68 = .ok (.ireturn, 1) := by decide +kernel
theorem dX0_placeOfKey_69 : decode cX0_placeOfKey 69 = .ok (.iinc 6 1, 3) := by decide +kernel
theorem dX0_placeOfKey_72 : decode cX0_placeOfKey 72 = .ok (.goto (-30), 3) := by decide +kernel
theorem dX0_placeOfKey_75 : decode cX0_placeOfKey 75 = .ok (.iconst (-1), 1) := by decide +kernel
theorem dX0_placeOfKey_76 : decode cX0_placeOfKey 76 = .ok (.ireturn, 1) := by decide +kernel
theorem dX0_setRoot_0 : decode cX0_setRoot 0 = .ok (.aload_n 0, 1) := by decide +kernel
theorem dX0_setRoot_1 : decode cX0_setRoot 1 = .ok (.iload_n 2, 1) := by decide +kernel
theorem dX0_setRoot_2 : decode cX0_setRoot 2 = .ok (.invokevirtual 73, 3) := by decide +kernel
theorem dX0_setRoot_5 : decode cX0_setRoot 5 = .ok (.ifCond .eq 6, 3) := by decide +kernel
theorem dX0_setRoot_8 : decode cX0_setRoot 8 = .ok (.bipush (-11), 2) := by decide +kernel
theorem dX0_setRoot_10 : decode cX0_setRoot 10 = .ok (.ireturn, 1) := by decide +kernel
theorem dX0_setRoot_11 : decode cX0_setRoot 11 = .ok (.aload_n 0, 1) := by decide +kernel
theorem dX0_setRoot_12 : decode cX0_setRoot 12 = .ok (.getfield 9, 3) := by decide +kernel
theorem dX0_setRoot_15 : decode cX0_setRoot 15 = .ok (.getfield 105, 3) := by decide +kernel
theorem dX0_setRoot_18 : decode cX0_setRoot 18 = .ok (.iload_n 1, 1) := by decide +kernel
theorem dX0_setRoot_19 : decode cX0_setRoot 19 = .ok (.iaload, 1) := by decide +kernel
theorem dX0_setRoot_20 : decode cX0_setRoot 20 = .ok (.istore_n 3, 1) := by decide +kernel
theorem dX0_setRoot_21 : decode cX0_setRoot 21 = .ok (.aload_n 0, 1) := by decide +kernel
theorem dX0_setRoot_22 : decode cX0_setRoot 22 = .ok (.getfield 9, 3) := by decide +kernel
theorem dX0_setRoot_25 : decode cX0_setRoot 25 = .ok (.getfield 105, 3) := by decide +kernel
theorem dX0_setRoot_28 : decode cX0_setRoot 28 = .ok (.iload_n 1, 1) := by decide +kernel
theorem dX0_setRoot_29 : decode cX0_setRoot 29 = .ok (.iload_n 2, 1) := by decide +kernel
theorem dX0_setRoot_30 : decode cX0_setRoot 30 = .ok (.iastore, 1) := by decide +kernel
theorem dX0_setRoot_31 : decode cX0_setRoot 31 = .ok (.aload_n 0, 1) := by decide +kernel
theorem dX0_setRoot_32 : decode cX0_setRoot 32 = .ok (.getfield 22, 3) := by decide +kernel
theorem dX0_setRoot_35 : decode cX0_setRoot 35 = .ok (.iload_n 2, 1) := by decide +kernel
theorem dX0_setRoot_36 : decode cX0_setRoot 36 = .ok (.iconst 3, 1) := by decide +kernel
theorem dX0_setRoot_37 : decode cX0_setRoot 37 = .ok (.iconst (-1), 1) := by decide +kernel
theorem dX0_setRoot_38 : decode cX0_setRoot 38 = .ok (.iload_n 1, 1) := by decide +kernel
theorem dX0_setRoot_39 : decode cX0_setRoot 39 = .ok (.invokevirtual 58, 3) := by decide +kernel
theorem dX0_setRoot_42 : decode cX0_setRoot 42 = .ok (.iload_n 3, 1) := by decide +kernel
theorem dX0_setRoot_43 : decode cX0_setRoot 43 = .ok (.ireturn, 1) := by decide +kernel
theorem dX0_copyLinks_0 : decode cX0_copyLinks 0 = .ok (.aload_n 0, 1) := by decide +kernel
theorem dX0_copyLinks_1 : decode cX0_copyLinks 1 = .ok (.iconst 0, 1) := by decide +kernel
theorem dX0_copyLinks_2 : decode cX0_copyLinks 2 = .ok (.putfield 108, 3) := by decide +kernel
theorem dX0_copyLinks_5 : decode cX0_copyLinks 5 = .ok (.aload_n 0, 1) := by decide +kernel
theorem dX0_copyLinks_6 : decode cX0_copyLinks 6 = .ok (.getfield 21, 3) := by decide +kernel
theorem dX0_copyLinks_9 : decode cX0_copyLinks 9 = .ok (.iload_n 1, 1) := by decide +kernel
theorem dX0_copyLinks_10 : decode cX0_copyLinks 10 = .ok (.invokevirtual 62, 3) := by decide +kernel
theorem dX0_copyLinks_13 : decode cX0_copyLinks 13 = .ok (.ifCond .eq 14, 3) := by decide +kernel
theorem dX0_copyLinks_16 : decode cX0_copyLinks 16 = .ok (.aload_n 0, 1) := by decide +kernel
theorem dX0_copyLinks_17 : decode cX0_copyLinks 17 = .ok (.getfield 21, 3) := by decide +kernel
theorem dX0_copyLinks_20 : decode cX0_copyLinks 20 = .ok (.iload_n 3, 1) := by decide +kernel
theorem dX0_copyLinks_21 : decode cX0_copyLinks 21 = .ok (.invokevirtual 62, 3) := by decide +kernel
theorem dX0_copyLinks_24 : decode cX0_copyLinks 24 = .ok (.ifCond .ne 6, 3) := by decide +kernel
theorem dX0_copyLinks_27 : decode cX0_copyLinks 27 = .ok (.bipush (-11), 2) := by decide +kernel
theorem dX0_copyLinks_29 : decode cX0_copyLinks 29 = .ok (.ireturn, 1) := by decide +kernel
theorem dX0_copyLinks_30 : decode cX0_copyLinks 30 = .ok (.aload_n 0, 1) := by decide +kernel
theorem dX0_copyLinks_31 : decode cX0_copyLinks 31 = .ok (.getfield 21, 3) := by decide +kernel
theorem dX0_copyLinks_34 : decode cX0_copyLinks 34 = .ok (.iconst 1, 1) := by decide +kernel
theorem dX0_copyLinks_35 : decode cX0_copyLinks 35 = .ok (.iload_n 1, 1) := by decide +kernel
theorem dX0_copyLinks_36 : decode cX0_copyLinks 36 = .ok (.invokevirtual 65, 3) := by decide +kernel
theorem dX0_copyLinks_39 : decode cX0_copyLinks 39 = .ok (.ifCond .eq 15, 3) := by decide +kernel
theorem dX0_copyLinks_42 : decode cX0_copyLinks 42 = .ok (.aload_n 0, 1) := by decide +kernel
theorem dX0_copyLinks_43 : decode cX0_copyLinks 43 = .ok (.getfield 21, 3) := by decide +kernel
theorem dX0_copyLinks_46 : decode cX0_copyLinks 46 = .ok (.iconst 1, 1) := by decide +kernel
theorem dX0_copyLinks_47 : decode cX0_copyLinks 47 = .ok (.iload_n 3, 1) := by decide +kernel
theorem dX0_copyLinks_48 : decode cX0_copyLinks 48 = .ok (.invokevirtual 65, 3) := by decide +kernel
theorem dX0_copyLinks_51 : decode cX0_copyLinks 51 = .ok (.ifCond .ne 6, 3) := by decide +kernel
theorem dX0_copyLinks_54 : decode cX0_copyLinks 54 = .ok (.bipush (-13), 2) := by decide +kernel
theorem dX0_copyLinks_56 : decode cX0_copyLinks 56 = .ok (.ireturn, 1) := by decide +kernel
theorem dX0_copyLinks_57 : decode cX0_copyLinks 57 = .ok (.iload 5, 2) := by decide +kernel
theorem dX0_copyLinks_59 : decode cX0_copyLinks 59 = .ok (.ifCond .ge 6, 3) := by decide +kernel
theorem dX0_copyLinks_62 : decode cX0_copyLinks 62 = .ok (.bipush (-14), 2) := by decide +kernel
theorem dX0_copyLinks_64 : decode cX0_copyLinks 64 = .ok (.ireturn, 1) := by decide +kernel
theorem dX0_copyLinks_65 : decode cX0_copyLinks 65 = .ok (.aload_n 0, 1) := by decide +kernel
theorem dX0_copyLinks_66 : decode cX0_copyLinks 66 = .ok (.getfield 21, 3) := by decide +kernel
theorem dX0_copyLinks_69 : decode cX0_copyLinks 69 = .ok (.iload_n 1, 1) := by decide +kernel
theorem dX0_copyLinks_70 : decode cX0_copyLinks 70 = .ok (.invokevirtual 76, 3) := by decide +kernel
theorem dX0_copyLinks_73 : decode cX0_copyLinks 73 = .ok (.istore 6, 2) := by decide +kernel
theorem dX0_copyLinks_75 : decode cX0_copyLinks 75 = .ok (.aload_n 0, 1) := by decide +kernel
theorem dX0_copyLinks_76 : decode cX0_copyLinks 76 = .ok (.getfield 21, 3) := by decide +kernel
theorem dX0_copyLinks_79 : decode cX0_copyLinks 79 = .ok (.iload_n 3, 1) := by decide +kernel
theorem dX0_copyLinks_80 : decode cX0_copyLinks 80 = .ok (.invokevirtual 76, 3) := by decide +kernel
theorem dX0_copyLinks_83 : decode cX0_copyLinks 83 = .ok (.istore 7, 2) := by decide +kernel
theorem dX0_copyLinks_85 : decode cX0_copyLinks 85 = .ok (.iconst 0, 1) := by decide +kernel
theorem dX0_copyLinks_86 : decode cX0_copyLinks 86 = .ok (.istore 8, 2) := by decide +kernel
theorem dX0_copyLinks_88 : decode cX0_copyLinks 88 = .ok (.iload 8, 2) := by decide +kernel
theorem dX0_copyLinks_90 : decode cX0_copyLinks 90 = .ok (.iload 5, 2) := by decide +kernel
theorem dX0_copyLinks_92 : decode cX0_copyLinks 92 = .ok (.if_icmp .ge 81, 3) := by decide +kernel
theorem dX0_copyLinks_95 : decode cX0_copyLinks 95 = .ok (.iload_n 2, 1) := by decide +kernel
theorem dX0_copyLinks_96 : decode cX0_copyLinks 96 = .ok (.ifCond .lt 27, 3) := by decide +kernel
theorem dX0_copyLinks_99 : decode cX0_copyLinks 99 = .ok (.iload_n 2, 1) := by decide +kernel
theorem dX0_copyLinks_100 : decode cX0_copyLinks 100 = .ok (.iload 6, 2) := by decide +kernel
theorem dX0_copyLinks_102 : decode cX0_copyLinks 102 = .ok (.iload 8, 2) := by decide +kernel
theorem dX0_copyLinks_104 : decode cX0_copyLinks 104 = .ok (.isub, 1) := by decide +kernel
theorem dX0_copyLinks_105 : decode cX0_copyLinks 105 = .ok (.if_icmp .ge 18, 3) := by decide +kernel
theorem dX0_copyLinks_108 : decode cX0_copyLinks 108 = .ok (.iload 4, 2) := by decide +kernel
theorem dX0_copyLinks_110 : decode cX0_copyLinks 110 = .ok (.ifCond .lt 13, 3) := by decide +kernel
theorem dX0_copyLinks_113 : decode cX0_copyLinks 113 = .ok (.iload 4, 2) := by decide +kernel
theorem dX0_copyLinks_115 : decode cX0_copyLinks 115 = .ok (.iload 7, 2) := by decide +kernel
theorem dX0_copyLinks_117 : decode cX0_copyLinks 117 = .ok (.iload 8, 2) := by decide +kernel
theorem dX0_copyLinks_119 : decode cX0_copyLinks 119 = .ok (.isub, 1) := by decide +kernel
theorem dX0_copyLinks_120 : decode cX0_copyLinks 120 = .ok (.if_icmp .lt 6, 3) := by decide +kernel
theorem dX0_copyLinks_123 : decode cX0_copyLinks 123 = .ok (.bipush (-12), 2) := by decide +kernel
theorem dX0_copyLinks_125 : decode cX0_copyLinks 125 = .ok (.ireturn, 1) := by decide +kernel
theorem dX0_copyLinks_126 : decode cX0_copyLinks 126 = .ok (.aload_n 0, 1) := by decide +kernel
theorem dX0_copyLinks_127 : decode cX0_copyLinks 127 = .ok (.iload_n 3, 1) := by decide +kernel
theorem dX0_copyLinks_128 : decode cX0_copyLinks 128 = .ok (.iload 4, 2) := by decide +kernel
theorem dX0_copyLinks_130 : decode cX0_copyLinks 130 = .ok (.iload 8, 2) := by decide +kernel
theorem dX0_copyLinks_132 : decode cX0_copyLinks 132 = .ok (.iadd, 1) := by decide +kernel
theorem dX0_copyLinks_133 : decode cX0_copyLinks 133 = .ok (.aload_n 0, 1) := by decide +kernel
theorem dX0_copyLinks_134 : decode cX0_copyLinks 134 = .ok (.getfield 21, 3) := by decide +kernel
theorem dX0_copyLinks_137 : decode cX0_copyLinks 137 = .ok (.getfield 86, 3) := by decide +kernel
theorem dX0_copyLinks_140 : decode cX0_copyLinks 140 = .ok (.aload_n 0, 1) := by decide +kernel
theorem dX0_copyLinks_141 : decode cX0_copyLinks 141 = .ok (.getfield 21, 3) := by decide +kernel
theorem dX0_copyLinks_144 : decode cX0_copyLinks 144 = .ok (.iload_n 1, 1) := by decide +kernel
theorem dX0_copyLinks_145 : decode cX0_copyLinks 145 = .ok (.invokevirtual 83, 3) := by decide +kernel
theorem dX0_copyLinks_148 : decode cX0_copyLinks 148 = .ok (.iload_n 2, 1) := by decide +kernel
theorem dX0_copyLinks_149 : decode cX0_copyLinks 149 = .ok (.iadd, 1) := by decide +kernel
theorem dX0_copyLinks_150 : decode cX0_copyLinks 150 = .ok (.iload 8, 2) := by decide +kernel
theorem dX0_copyLinks_152 : decode cX0_copyLinks 152 = .ok (.iadd, 1) := by decide +kernel
theorem dX0_copyLinks_153 : decode cX0_copyLinks 153 = .ok (.iaload, 1) := by decide +kernel
theorem dX0_copyLinks_154 : decode cX0_copyLinks 154 = .ok (.invokevirtual 79, 3) := by decide +kernel
theorem dX0_copyLinks_157 : decode cX0_copyLinks 157 = .ok (.aload_n 0, 1) := by decide +kernel
theorem dX0_copyLinks_158 : decode cX0_copyLinks 158 = .ok (.dup, 1) := by decide +kernel
theorem dX0_copyLinks_159 : decode cX0_copyLinks 159 = .ok (.getfield 108, 3) := by decide +kernel
theorem dX0_copyLinks_162 : decode cX0_copyLinks 162 = .ok (.iconst 1, 1) := by decide +kernel
theorem dX0_copyLinks_163 : decode cX0_copyLinks 163 = .ok (.iadd, 1) := by decide +kernel
theorem dX0_copyLinks_164 : decode cX0_copyLinks 164 = .ok (.putfield 108, 3) := by decide +kernel
theorem dX0_copyLinks_167 : decode cX0_copyLinks 167 = .ok (.iinc 8 1, 3) := by decide +kernel
theorem dX0_copyLinks_170 : decode cX0_copyLinks 170 = .ok (.goto (-82), 3) := by decide +kernel
theorem dX0_copyLinks_173 : decode cX0_copyLinks 173 = .ok (.iload 5, 2) := by decide +kernel
theorem dX0_copyLinks_175 : decode cX0_copyLinks 175 = .ok (.ireturn, 1) := by decide +kernel
theorem dX0_setShelf_0 : decode cX0_setShelf 0 = .ok (.aload_n 0, 1) := by decide +kernel
theorem dX0_setShelf_1 : decode cX0_setShelf 1 = .ok (.iload_n 3, 1) := by decide +kernel
theorem dX0_setShelf_2 : decode cX0_setShelf 2 = .ok (.invokevirtual 73, 3) := by decide +kernel
theorem dX0_setShelf_5 : decode cX0_setShelf 5 = .ok (.ifCond .eq 6, 3) := by decide +kernel
theorem dX0_setShelf_8 : decode cX0_setShelf 8 = .ok (.bipush (-11), 2) := by decide +kernel
theorem dX0_setShelf_10 : decode cX0_setShelf 10 = .ok (.ireturn, 1) := by decide +kernel
theorem dX0_setShelf_11 : decode cX0_setShelf 11 = .ok (.iload_n 2, 1) := by decide +kernel
theorem dX0_setShelf_12 : decode cX0_setShelf 12 = .ok (.ifCond .lt 9, 3) := by decide +kernel
theorem dX0_setShelf_15 : decode cX0_setShelf 15 = .ok (.iload_n 2, 1) := by decide +kernel
theorem dX0_setShelf_16 : decode cX0_setShelf 16 = .ok (.bipush 8, 2) := by decide +kernel
theorem dX0_setShelf_18 : decode cX0_setShelf 18 = .ok (.if_icmp .lt 6, 3) := by decide +kernel
theorem dX0_setShelf_21 : decode cX0_setShelf 21 = .ok (.bipush (-12), 2) := by decide +kernel
theorem dX0_setShelf_23 : decode cX0_setShelf 23 = .ok (.ireturn, 1) := by decide +kernel
theorem dX0_setShelf_24 : decode cX0_setShelf 24 = .ok (.iload_n 3, 1) := by decide +kernel
theorem dX0_setShelf_25 : decode cX0_setShelf 25 = .ok (.iconst (-1), 1) := by decide +kernel
theorem dX0_setShelf_26 : decode cX0_setShelf 26 = .ok (.if_icmp .eq 18, 3) := by decide +kernel
theorem dX0_setShelf_29 : decode cX0_setShelf 29 = .ok (.aload_n 0, 1) := by decide +kernel
theorem dX0_setShelf_30 : decode cX0_setShelf 30 = .ok (.getfield 21, 3) := by decide +kernel
theorem dX0_setShelf_33 : decode cX0_setShelf 33 = .ok (.iload_n 1, 1) := by decide +kernel
theorem dX0_setShelf_34 : decode cX0_setShelf 34 = .ok (.iload_n 3, 1) := by decide +kernel
theorem dX0_setShelf_35 : decode cX0_setShelf 35 = .ok (.invokevirtual 65, 3) := by decide +kernel
theorem dX0_setShelf_38 : decode cX0_setShelf 38 = .ok (.ifCond .ne 6, 3) := by decide +kernel
theorem dX0_setShelf_41 : decode cX0_setShelf 41 = .ok (.bipush (-15), 2) := by decide +kernel
theorem dX0_setShelf_43 : decode cX0_setShelf 43 = .ok (.ireturn, 1) := by decide +kernel
theorem dX0_setShelf_44 : decode cX0_setShelf 44 = .ok (.aload_n 0, 1) := by decide +kernel
theorem dX0_setShelf_45 : decode cX0_setShelf 45 = .ok (.getfield 9, 3) := by decide +kernel
theorem dX0_setShelf_48 : decode cX0_setShelf 48 = .ok (.getfield 111, 3) := by decide +kernel
theorem dX0_setShelf_51 : decode cX0_setShelf 51 = .ok (.iload_n 1, 1) := by decide +kernel
theorem dX0_setShelf_52 : decode cX0_setShelf 52 = .ok (.bipush 8, 2) := by decide +kernel
theorem dX0_setShelf_54 : decode cX0_setShelf 54 = .ok (.imul, 1) := by decide +kernel
theorem dX0_setShelf_55 : decode cX0_setShelf 55 = .ok (.iload_n 2, 1) := by decide +kernel
theorem dX0_setShelf_56 : decode cX0_setShelf 56 = .ok (.iadd, 1) := by decide +kernel
theorem dX0_setShelf_57 : decode cX0_setShelf 57 = .ok (.iload_n 3, 1) := by decide +kernel
theorem dX0_setShelf_58 : decode cX0_setShelf 58 = .ok (.iastore, 1) := by decide +kernel
theorem dX0_setShelf_59 : decode cX0_setShelf 59 = .ok (.iconst 1, 1) := by decide +kernel
theorem dX0_setShelf_60 : decode cX0_setShelf 60 = .ok (.ireturn, 1) := by decide +kernel
theorem dX1_init_0 : decode cX1_init 0 = .ok (.aload_n 0, 1) := by decide +kernel
theorem dX1_init_1 : decode cX1_init 1 = .ok (.invokespecial 3, 3) := by decide +kernel
theorem dX1_init_4 : decode cX1_init 4 = .ok (.aload_n 0, 1) := by decide +kernel
theorem dX1_init_5 : decode cX1_init 5 = .ok (.iconst 0, 1) := by decide +kernel
theorem dX1_init_6 : decode cX1_init 6 = .ok (.newarray .int, 2) := by decide +kernel
theorem dX1_init_8 : decode cX1_init 8 = .ok (.putfield 9, 3) := by decide +kernel
theorem dX1_init_11 : decode cX1_init 11 = .ok (.aload_n 0, 1) := by decide +kernel
theorem dX1_init_12 : decode cX1_init 12 = .ok (.sipush 500, 3) := by decide +kernel
theorem dX1_init_15 : decode cX1_init 15 = .ok (.newarray .int, 2) := by decide +kernel
theorem dX1_init_17 : decode cX1_init 17 = .ok (.putfield 15, 3) := by decide +kernel
theorem dX1_init_20 : decode cX1_init 20 = .ok (.aload_n 0, 1) := by decide +kernel
theorem dX1_init_21 : decode cX1_init 21 = .ok (.sipush 501, 3) := by decide +kernel
theorem dX1_init_24 : decode cX1_init 24 = .ok (.newarray .int, 2) := by decide +kernel
theorem dX1_init_26 : decode cX1_init 26 = .ok (.putfield 18, 3) := by decide +kernel
theorem dX1_init_29 : decode cX1_init 29 = .ok (.return_, 1) := by decide +kernel
theorem dX1_firstWrong_0 : decode cX1_firstWrong 0 = .ok (.aload_n 0, 1) := by decide +kernel
theorem dX1_firstWrong_1 : decode cX1_firstWrong 1 = .ok (.aload_n 1, 1) := by decide +kernel
theorem dX1_firstWrong_2 : decode cX1_firstWrong 2 = .ok (.putfield 9, 3) := by decide +kernel
theorem dX1_firstWrong_5 : decode cX1_firstWrong 5 = .ok (.aload_n 0, 1) := by decide +kernel
theorem dX1_firstWrong_6 : decode cX1_firstWrong 6 = .ok (.iload_n 2, 1) := by decide +kernel
theorem dX1_firstWrong_7 : decode cX1_firstWrong 7 = .ok (.putfield 21, 3) := by decide +kernel
theorem dX1_firstWrong_10 : decode cX1_firstWrong 10 = .ok (.aload_n 0, 1) := by decide +kernel
theorem dX1_firstWrong_11 : decode cX1_firstWrong 11 = .ok (.invokevirtual 25, 3) := by decide +kernel
theorem dX1_firstWrong_14 : decode cX1_firstWrong 14 = .ok (.istore_n 3, 1) := by decide +kernel
theorem dX1_firstWrong_15 : decode cX1_firstWrong 15 = .ok (.iload_n 3, 1) := by decide +kernel
theorem dX1_firstWrong_16 : decode cX1_firstWrong 16 = .ok (.iconst (-1), 1) := by decide +kernel
theorem dX1_firstWrong_17 : decode cX1_firstWrong 17 = .ok (.if_icmp .eq 5, 3) := by decide +kernel
theorem dX1_firstWrong_20 : decode cX1_firstWrong 20 = .ok (.iload_n 3, 1) := by decide +kernel
theorem dX1_firstWrong_21 : decode cX1_firstWrong 21 = .ok (.ireturn, 1) := by decide +kernel
theorem dX1_firstWrong_22 : decode cX1_firstWrong 22 = .ok (.aload_n 0, 1) := by decide +kernel
theorem dX1_firstWrong_23 : decode cX1_firstWrong 23 = .ok (.invokevirtual 29, 3) := by decide +kernel
theorem dX1_firstWrong_26 : decode cX1_firstWrong 26 = .ok (.aload_n 0, 1) := by decide +kernel
theorem dX1_firstWrong_27 : decode cX1_firstWrong 27 = .ok (.invokevirtual 32, 3) := by decide +kernel
theorem dX1_firstWrong_30 : decode cX1_firstWrong 30 = .ok (.istore_n 3, 1) := by decide +kernel
theorem dX1_firstWrong_31 : decode cX1_firstWrong 31 = .ok (.iload_n 3, 1) := by decide +kernel
theorem dX1_firstWrong_32 : decode cX1_firstWrong 32 = .ok (.iconst (-1), 1) := by decide +kernel
theorem dX1_firstWrong_33 : decode cX1_firstWrong 33 = .ok (.if_icmp .eq 5, 3) := by decide +kernel
theorem dX1_firstWrong_36 : decode cX1_firstWrong 36 = .ok (.iload_n 3, 1) := by decide +kernel
theorem dX1_firstWrong_37 : decode cX1_firstWrong 37 = .ok (.ireturn, 1) := by decide +kernel
theorem dX1_firstWrong_38 : decode cX1_firstWrong 38 = .ok (.aload_n 0, 1) := by decide +kernel
theorem dX1_firstWrong_39 : decode cX1_firstWrong 39 = .ok (.getfield 9, 3) := by decide +kernel
theorem dX1_firstWrong_42 : decode cX1_firstWrong 42 = .ok (.aload_n 0, 1) := by decide +kernel
theorem dX1_firstWrong_43 : decode cX1_firstWrong 43 = .ok (.getfield 21, 3) := by decide +kernel
theorem dX1_firstWrong_46 : decode cX1_firstWrong 46 = .ok (.iconst 1, 1) := by decide +kernel
theorem dX1_firstWrong_47 : decode cX1_firstWrong 47 = .ok (.isub, 1) := by decide +kernel
theorem dX1_firstWrong_48 : decode cX1_firstWrong 48 = .ok (.iaload, 1) := by decide +kernel
theorem dX1_firstWrong_49 : decode cX1_firstWrong 49 = .ok (.aload_n 0, 1) := by decide +kernel
theorem dX1_firstWrong_50 : decode cX1_firstWrong 50 = .ok (.getfield 9, 3) := by decide +kernel
theorem dX1_firstWrong_53 : decode cX1_firstWrong 53 = .ok (.aload_n 0, 1) := by decide +kernel
theorem dX1_firstWrong_54 : decode cX1_firstWrong 54 = .ok (.getfield 21, 3) := by decide +kernel
theorem dX1_firstWrong_57 : decode cX1_firstWrong 57 = .ok (.iconst 1, 1) := by decide +kernel
theorem dX1_firstWrong_58 : decode cX1_firstWrong 58 = .ok (.isub, 1) := by decide +kernel
theorem dX1_firstWrong_59 : decode cX1_firstWrong 59 = .ok (.invokestatic 35, 3) := by decide +kernel
theorem dX1_firstWrong_62 : decode cX1_firstWrong 62 = .ok (.if_icmp .ne 7, 3) := by decide +kernel
theorem dX1_firstWrong_65 : decode cX1_firstWrong 65 = .ok (.iconst (-1), 1) := by decide +kernel
theorem dX1_firstWrong_66 : decode cX1_firstWrong 66 = .ok (.goto 9, 3) := by decide +kernel
theorem dX1_firstWrong_69 : decode cX1_firstWrong 69 = .ok (.aload_n 0, 1) := by decide +kernel
theorem dX1_firstWrong_70 : decode cX1_firstWrong 70 = .ok (.getfield 21, 3) := by decide +kernel
theorem dX1_firstWrong_73 : decode cX1_firstWrong 73 = .ok (.iconst 1, 1) := by decide +kernel
theorem dX1_firstWrong_74 : decode cX1_firstWrong 74 = .ok (.isub, 1) := by decide +kernel
theorem dX1_firstWrong_75 : decode cX1_firstWrong 75 = .ok (.ireturn, 1) := by decide +kernel
theorem dX1_isIn_0 : decode cX1_isIn 0 = .ok (.iload_n 0, 1) := by decide +kernel
theorem dX1_isIn_1 : decode cX1_isIn 1 = .ok (.iload_n 1, 1) := by decide +kernel
theorem dX1_isIn_2 : decode cX1_isIn 2 = .ok (.if_icmp .lt 12, 3) := by decide +kernel
theorem dX1_isIn_5 : decode cX1_isIn 5 = .ok (.iload_n 0, 1) := by decide +kernel
theorem dX1_isIn_6 : decode cX1_isIn 6 = .ok (.iload_n 2, 1) := by decide +kernel
theorem dX1_isIn_7 : decode cX1_isIn 7 = .ok (.if_icmp .gt 7, 3) := by decide +kernel
theorem dX1_isIn_10 : decode cX1_isIn 10 = .ok (.iconst 1, 1) := by decide +kernel
theorem dX1_isIn_11 : decode cX1_isIn 11 = .ok (.goto 4, 3) := by decide +kernel
theorem dX1_isIn_14 : decode cX1_isIn 14 = .ok (.iconst 0, 1) := by decide +kernel
theorem dX1_isIn_15 : decode cX1_isIn 15 = .ok (.ireturn, 1) := by decide +kernel
theorem dX1_firstWrongInForm_0 : decode cX1_firstWrongInForm 0 = .ok (.aload_n 0, 1) := by decide +kernel
theorem dX1_firstWrongInForm_1 : decode cX1_firstWrongInForm 1 = .ok (.getfield 21, 3) := by decide +kernel
theorem dX1_firstWrongInForm_4 : decode cX1_firstWrongInForm 4 = .ok (.bipush 24, 2) := by decide +kernel
theorem dX1_firstWrongInForm_6 : decode cX1_firstWrongInForm 6 = .ok (.if_icmp .gt 8, 3) := by decide +kernel
theorem dX1_firstWrongInForm_9 : decode cX1_firstWrongInForm 9 = .ok (.aload_n 0, 1) := by decide +kernel
theorem dX1_firstWrongInForm_10 : decode cX1_firstWrongInForm 10 = .ok (.getfield 21, 3) := by decide +kernel
theorem dX1_firstWrongInForm_13 : decode cX1_firstWrongInForm 13 = .ok (.ireturn, 1) := by decide +kernel
theorem dX1_firstWrongInForm_14 : decode cX1_firstWrongInForm 14 = .ok (.aload_n 0, 1) := by decide +kernel
theorem dX1_firstWrongInForm_15 : decode cX1_firstWrongInForm 15 = .ok (.aload_n 0, 1) := by decide +kernel
theorem dX1_firstWrongInForm_16 : decode cX1_firstWrongInForm 16 = .ok (.getfield 9, 3) := by decide +kernel
theorem dX1_firstWrongInForm_19 : decode cX1_firstWrongInForm 19 = .ok (.bipush 24, 2) := by decide +kernel
theorem dX1_firstWrongInForm_21 : decode cX1_firstWrongInForm 21 = .ok (.iaload, 1) := by decide +kernel
theorem dX1_firstWrongInForm_22 : decode cX1_firstWrongInForm 22 = .ok (.putfield 41, 3) := by decide +kernel
theorem dX1_firstWrongInForm_25 : decode cX1_firstWrongInForm 25 = .ok (.aload_n 0, 1) := by decide +kernel
theorem dX1_firstWrongInForm_26 : decode cX1_firstWrongInForm 26 = .ok (.getfield 41, 3) := by decide +kernel
theorem dX1_firstWrongInForm_29 : decode cX1_firstWrongInForm 29 = .ok (.iconst 0, 1) := by decide +kernel
theorem dX1_firstWrongInForm_30 : decode cX1_firstWrongInForm 30 = .ok (.sipush 500, 3) := by decide +kernel
theorem dX1_firstWrongInForm_33 : decode cX1_firstWrongInForm 33 = .ok (.invokestatic 44, 3) := by decide +kernel
theorem dX1_firstWrongInForm_36 : decode cX1_firstWrongInForm 36 = .ok (.ifCond .ne 6, 3) := by decide +kernel
theorem dX1_firstWrongInForm_39 : decode cX1_firstWrongInForm 39 = .ok (.bipush 24, 2) := by decide +kernel
theorem dX1_firstWrongInForm_41 : decode cX1_firstWrongInForm 41 = .ok (.ireturn, 1) := by decide +kernel
theorem dX1_firstWrongInForm_42 : decode cX1_firstWrongInForm 42 = .ok (.bipush 25, 2) := by decide +kernel
theorem dX1_firstWrongInForm_44 : decode cX1_firstWrongInForm 44 = .ok (.istore_n 1, 1) := by decide +kernel
theorem dX1_firstWrongInForm_45 : decode cX1_firstWrongInForm 45 = .ok (.iconst 0, 1) := by decide +kernel
theorem dX1_firstWrongInForm_46 : decode cX1_firstWrongInForm 46 = .ok (.istore_n 2, 1) := by decide +kernel
theorem dX1_firstWrongInForm_47 : decode cX1_firstWrongInForm 47 = .ok (.iload_n 2, 1) := by decide +kernel
theorem dX1_firstWrongInForm_48 : decode cX1_firstWrongInForm 48 = .ok (.aload_n 0, 1) := by decide +kernel
theorem dX1_firstWrongInForm_49 : decode cX1_firstWrongInForm 49 = .ok (.getfield 41, 3) := by decide +kernel
theorem dX1_firstWrongInForm_52 : decode cX1_firstWrongInForm 52 = .ok (.if_icmp .ge 60, 3) := by decide +kernel
theorem dX1_firstWrongInForm_55 : decode cX1_firstWrongInForm 55 = .ok (.iload_n 1, 1) := by decide +kernel
theorem dX1_firstWrongInForm_56 : decode cX1_firstWrongInForm 56 = .ok (.iconst 5, 1) := by decide +kernel
theorem dX1_firstWrongInForm_57 : decode cX1_firstWrongInForm 57 = .ok (.iadd, 1) := by decide +kernel
theorem dX1_firstWrongInForm_58 : decode cX1_firstWrongInForm 58 = .ok (.aload_n 0, 1) := by decide +kernel
theorem dX1_firstWrongInForm_59 : decode cX1_firstWrongInForm 59 = .ok (.getfield 21, 3) := by decide +kernel
theorem dX1_firstWrongInForm_62 : decode cX1_firstWrongInForm 62 = .ok (.if_icmp .lt 8, 3) := by decide +kernel
theorem dX1_firstWrongInForm_65 : decode cX1_firstWrongInForm 65 = .ok (.aload_n 0, 1) := by decide +kernel
theorem dX1_firstWrongInForm_66 : decode cX1_firstWrongInForm 66 = .ok (.getfield 21, 3) := by decide +kernel
theorem dX1_firstWrongInForm_69 : decode cX1_firstWrongInForm 69 = .ok (.ireturn, 1) := by decide +kernel
theorem dX1_firstWrongInForm_70 : decode cX1_firstWrongInForm 70 = .ok (.aload_n 0, 1) := by decide +kernel
theorem dX1_firstWrongInForm_71 : decode cX1_firstWrongInForm 71 = .ok (.getfield 9, 3) := by decide +kernel
theorem dX1_firstWrongInForm_74 : decode cX1_firstWrongInForm 74 = .ok (.iload_n 1, 1) := by decide +kernel
theorem dX1_firstWrongInForm_75 : decode cX1_firstWrongInForm 75 = .ok (.iconst 5, 1) := by decide +kernel
theorem dX1_firstWrongInForm_76 : decode cX1_firstWrongInForm 76 = .ok (.iadd, 1) := by decide +kernel
theorem dX1_firstWrongInForm_77 : decode cX1_firstWrongInForm 77 = .ok (.iaload, 1) := by decide +kernel
theorem dX1_firstWrongInForm_78 : decode cX1_firstWrongInForm 78 = .ok (.iconst 0, 1) := by decide +kernel
theorem dX1_firstWrongInForm_79 : decode cX1_firstWrongInForm 79 = .ok (.sipush 300, 3) := by decide +kernel
theorem dX1_firstWrongInForm_82 : decode cX1_firstWrongInForm 82 = .ok (.invokestatic 44, 3) := by decide +kernel
theorem dX1_firstWrongInForm_85 : decode cX1_firstWrongInForm 85 = .ok (.ifCond .ne 7, 3) := by decide +kernel
theorem dX1_firstWrongInForm_88 : decode cX1_firstWrongInForm 88 = .ok (.iload_n 1, 1) := by decide +kernel
theorem dX1_firstWrongInForm_89 : decode cX1_firstWrongInForm 89 = .ok (.iconst 5, 1) := by decide +kernel
theorem dX1_firstWrongInForm_90 : decode cX1_firstWrongInForm 90 = .ok (.iadd, 1) := by decide +kernel
theorem dX1_firstWrongInForm_91 : decode cX1_firstWrongInForm 91 = .ok (.ireturn, 1) := by decide +kernel
theorem dX1_firstWrongInForm_92 : decode cX1_firstWrongInForm 92 = .ok (.iload_n 1, 1) := by decide +kernel
theorem dX1_firstWrongInForm_93 : decode cX1_firstWrongInForm 93 = .ok (.bipush 6, 2) := by decide +kernel
theorem dX1_firstWrongInForm_95 : decode cX1_firstWrongInForm 95 = .ok (.aload_n 0, 1) := by decide +kernel
theorem dX1_firstWrongInForm_96 : decode cX1_firstWrongInForm 96 = .ok (.getfield 9, 3) := by decide +kernel
theorem dX1_firstWrongInForm_99 : decode cX1_firstWrongInForm 99 = .ok (.iload_n 1, 1) := by decide +kernel
theorem dX1_firstWrongInForm_100 : decode cX1_firstWrongInForm 100 = .ok (.iconst 5, 1) := by decide +kernel
theorem dX1_firstWrongInForm_101 : decode cX1_firstWrongInForm 101 = .ok (.iadd, 1) := by decide +kernel
theorem dX1_firstWrongInForm_102 : decode cX1_firstWrongInForm 102 = .ok (.iaload, 1) := by decide +kernel
theorem dX1_firstWrongInForm_103 : decode cX1_firstWrongInForm 103 = .ok (.iadd, 1) := by decide +kernel
theorem dX1_firstWrongInForm_104 : decode cX1_firstWrongInForm 104 = .ok (.iadd, 1) := by decide +kernel
theorem dX1_firstWrongInForm_105 : decode cX1_firstWrongInForm 105 = .ok (.istore_n 1, 1) := by decide +kernel
theorem dX1_firstWrongInForm_106 : decode cX1_firstWrongInForm 106 = .ok (.iinc 2 1, 3) := by decide +kernel
theorem dX1_firstWrongInForm_109 : decode cX1_firstWrongInForm 109 = .ok (.goto (-62), 3) := by decide +kernel
theorem dX1_firstWrongInForm_112 : decode cX1_firstWrongInForm 112 = .ok (.iload_n 1, 1) := by decide +kernel
theorem dX1_firstWrongInForm_113 : decode cX1_firstWrongInForm 113 = .ok (.aload_n 0, 1) := by decide +kernel
theorem dX1_firstWrongInForm_114 : decode cX1_firstWrongInForm 114 = .ok (.getfield 21, 3) := by decide +kernel
theorem dX1_firstWrongInForm_117 : decode cX1_firstWrongInForm 117 = .ok (.if_icmp .lt 8, 3) := by decide +kernel
theorem dX1_firstWrongInForm_120 : decode cX1_firstWrongInForm 120 = .ok (.aload_n 0, 1) := by decide +kernel
theorem dX1_firstWrongInForm_121 : decode cX1_firstWrongInForm 121 = .ok (.getfield 21, 3) := by decide +kernel
theorem dX1_firstWrongInForm_124 : decode cX1_firstWrongInForm 124 = .ok (.ireturn, 1) := by decide +kernel
theorem dX1_firstWrongInForm_125 : decode cX1_firstWrongInForm 125 = .ok (.aload_n 0, 1) := by decide +kernel
theorem dX1_firstWrongInForm_126 : decode cX1_firstWrongInForm 126 = .ok (.getfield 9, 3) := by decide +kernel
theorem dX1_firstWrongInForm_129 : decode cX1_firstWrongInForm 129 = .ok (.iload_n 1, 1) := by decide +kernel
theorem dX1_firstWrongInForm_130 : decode cX1_firstWrongInForm 130 = .ok (.iaload, 1) := by decide +kernel
theorem dX1_firstWrongInForm_131 : decode cX1_firstWrongInForm 131 = .ok (.iconst 0, 1) := by decide +kernel
theorem dX1_firstWrongInForm_132 : decode cX1_firstWrongInForm 132 = .ok (.sipush 500, 3) := by decide +kernel
theorem dX1_firstWrongInForm_135 : decode cX1_firstWrongInForm 135 = .ok (.invokestatic 44, 3) := by decide +kernel
theorem dX1_firstWrongInForm_138 : decode cX1_firstWrongInForm 138 = .ok (.ifCond .eq 24, 3) := by decide +kernel
theorem dX1_firstWrongInForm_141 : decode cX1_firstWrongInForm 141 = .ok (.aload_n 0, 1) := by decide +kernel
theorem dX1_firstWrongInForm_142 : decode cX1_firstWrongInForm 142 = .ok (.getfield 21, 3) := by decide +kernel
theorem dX1_firstWrongInForm_145 : decode cX1_firstWrongInForm 145 = .ok (.iload_n 1, 1) := by decide +kernel
theorem dX1_firstWrongInForm_146 : decode cX1_firstWrongInForm 146 = .ok (.aload_n 0, 1) := by decide +kernel
theorem dX1_firstWrongInForm_147 : decode cX1_firstWrongInForm 147 = .ok (.getfield 9, 3) := by decide +kernel
theorem dX1_firstWrongInForm_150 : decode cX1_firstWrongInForm 150 = .ok (.iload_n 1, 1) := by decide +kernel
theorem dX1_firstWrongInForm_151 : decode cX1_firstWrongInForm 151 = .ok (.iaload, 1) := by decide +kernel
theorem dX1_firstWrongInForm_152 : decode cX1_firstWrongInForm 152 = .ok (.iadd, 1) := by decide +kernel
theorem dX1_firstWrongInForm_153 : decode cX1_firstWrongInForm 153 = .ok (.iconst 2, 1) := by decide +kernel
theorem dX1_firstWrongInForm_154 : decode cX1_firstWrongInForm 154 = .ok (.iadd, 1) := by decide +kernel
theorem dX1_firstWrongInForm_155 : decode cX1_firstWrongInForm 155 = .ok (.if_icmp .ne 7, 3) := by decide +kernel
theorem dX1_firstWrongInForm_158 : decode cX1_firstWrongInForm 158 = .ok (.iconst (-1), 1) := by decide +kernel
theorem dX1_firstWrongInForm_159 : decode cX1_firstWrongInForm 159 = .ok (.goto 4, 3) := by decide +kernel
theorem dX1_firstWrongInForm_162 : decode cX1_firstWrongInForm 162 = .ok (.iload_n 1, 1) := by decide +kernel
theorem dX1_firstWrongInForm_163 : decode cX1_firstWrongInForm 163 = .ok (.ireturn, 1) := by decide +kernel
theorem dX1_noteKept_0 : decode cX1_noteKept 0 = .ok (.aload_n 0, 1) := by decide +kernel
theorem dX1_noteKept_1 : decode cX1_noteKept 1 = .ok (.getfield 15, 3) := by decide +kernel
theorem dX1_noteKept_4 : decode cX1_noteKept 4 = .ok (.iconst (-1), 1) := by decide +kernel
theorem dX1_noteKept_5 : decode cX1_noteKept 5 = .ok (.invokestatic 48, 3) := by decide +kernel
theorem dX1_noteKept_8 : decode cX1_noteKept 8 = .ok (.bipush 25, 2) := by decide +kernel
theorem dX1_noteKept_10 : decode cX1_noteKept 10 = .ok (.istore_n 1, 1) := by decide +kernel
theorem dX1_noteKept_11 : decode cX1_noteKept 11 = .ok (.iconst 0, 1) := by decide +kernel
theorem dX1_noteKept_12 : decode cX1_noteKept 12 = .ok (.istore_n 2, 1) := by decide +kernel
theorem dX1_noteKept_13 : decode cX1_noteKept 13 = .ok (.iload_n 2, 1) := by decide +kernel
theorem dX1_noteKept_14 : decode cX1_noteKept 14 = .ok (.aload_n 0, 1) := by decide +kernel
theorem dX1_noteKept_15 : decode cX1_noteKept 15 = .ok (.getfield 41, 3) := by decide +kernel
theorem dX1_noteKept_18 : decode cX1_noteKept 18 = .ok (.if_icmp .ge 58, 3) := by decide +kernel
theorem dX1_noteKept_21 : decode cX1_noteKept 21 = .ok (.aload_n 0, 1) := by decide +kernel
theorem dX1_noteKept_22 : decode cX1_noteKept 22 = .ok (.getfield 9, 3) := by decide +kernel
theorem dX1_noteKept_25 : decode cX1_noteKept 25 = .ok (.iload_n 1, 1) := by decide +kernel
theorem dX1_noteKept_26 : decode cX1_noteKept 26 = .ok (.iaload, 1) := by decide +kernel
theorem dX1_noteKept_27 : decode cX1_noteKept 27 = .ok (.istore_n 3, 1) := by decide +kernel
theorem dX1_noteKept_28 : decode cX1_noteKept 28 = .ok (.iload_n 3, 1) := by decide +kernel
theorem dX1_noteKept_29 : decode cX1_noteKept 29 = .ok (.iconst 0, 1) := by decide +kernel
theorem dX1_noteKept_30 : decode cX1_noteKept 30 = .ok (.sipush 499, 3) := by decide +kernel
theorem dX1_noteKept_33 : decode cX1_noteKept 33 = .ok (.invokestatic 44, 3) := by decide +kernel
theorem dX1_noteKept_36 : decode cX1_noteKept 36 = .ok (.ifCond .eq 20, 3) := by decide +kernel
theorem dX1_noteKept_39 : decode cX1_noteKept 39 = .ok (.aload_n 0, 1) := by decide +kernel
theorem dX1_noteKept_40 : decode cX1_noteKept 40 = .ok (.getfield 15, 3) := by decide +kernel
theorem dX1_noteKept_43 : decode cX1_noteKept 43 = .ok (.iload_n 3, 1) := by decide +kernel
theorem dX1_noteKept_44 : decode cX1_noteKept 44 = .ok (.iaload, 1) := by decide +kernel
theorem dX1_noteKept_45 : decode cX1_noteKept 45 = .ok (.iconst (-1), 1) := by decide +kernel
theorem dX1_noteKept_46 : decode cX1_noteKept 46 = .ok (.if_icmp .ne 10, 3) := by decide +kernel
theorem dX1_noteKept_49 : decode cX1_noteKept 49 = .ok (.aload_n 0, 1) := by decide +kernel
theorem dX1_noteKept_50 : decode cX1_noteKept 50 = .ok (.getfield 15, 3) := by decide +kernel
theorem dX1_noteKept_53 : decode cX1_noteKept 53 = .ok (.iload_n 3, 1) := by decide +kernel
theorem dX1_noteKept_54 : decode cX1_noteKept 54 = .ok (.iload_n 1, 1) := by decide +kernel
theorem dX1_noteKept_55 : decode cX1_noteKept 55 = .ok (.iastore, 1) := by decide +kernel
theorem dX1_noteKept_56 : decode cX1_noteKept 56 = .ok (.iload_n 1, 1) := by decide +kernel
theorem dX1_noteKept_57 : decode cX1_noteKept 57 = .ok (.bipush 6, 2) := by decide +kernel
theorem dX1_noteKept_59 : decode cX1_noteKept 59 = .ok (.aload_n 0, 1) := by decide +kernel
theorem dX1_noteKept_60 : decode cX1_noteKept 60 = .ok (.getfield 9, 3) := by decide +kernel
theorem dX1_noteKept_63 : decode cX1_noteKept 63 = .ok (.iload_n 1, 1) := by decide +kernel
theorem dX1_noteKept_64 : decode cX1_noteKept 64 = .ok (.iconst 5, 1) := by decide +kernel
theorem dX1_noteKept_65 : decode cX1_noteKept 65 = .ok (.iadd, 1) := by decide +kernel
theorem dX1_noteKept_66 : decode cX1_noteKept 66 = .ok (.iaload, 1) := by decide +kernel
theorem dX1_noteKept_67 : decode cX1_noteKept 67 = .ok (.iadd, 1) := by decide +kernel
theorem dX1_noteKept_68 : decode cX1_noteKept 68 = .ok (.iadd, 1) := by decide +kernel
theorem dX1_noteKept_69 : decode cX1_noteKept 69 = .ok (.istore_n 1, 1) := by decide +kernel
theorem dX1_noteKept_70 : decode cX1_noteKept 70 = .ok (.iinc 2 1, 3) := by decide +kernel
theorem dX1_noteKept_73 : decode cX1_noteKept 73 = .ok (.goto (-60), 3) := by decide +kernel
theorem dX1_noteKept_76 : decode cX1_noteKept 76 = .ok (.return_, 1) := by decide +kernel
theorem dX1_isKept_0 : decode cX1_isKept 0 = .ok (.iload_n 1, 1) := by decide +kernel
theorem dX1_isKept_1 : decode cX1_isKept 1 = .ok (.iconst 0, 1) := by decide +kernel
theorem dX1_isKept_2 : decode cX1_isKept 2 = .ok (.sipush 499, 3) := by decide +kernel
theorem dX1_isKept_5 : decode cX1_isKept 5 = .ok (.invokestatic 44, 3) := by decide +kernel
theorem dX1_isKept_8 : decode cX1_isKept 8 = .ok (.ifCond .eq 17, 3) := by decide +kernel
theorem dX1_isKept_11 : decode cX1_isKept 11 = .ok (.aload_n 0, 1) := by decide +kernel
theorem dX1_isKept_12 : decode cX1_isKept 12 = .ok (.getfield 15, 3) := by decide +kernel
theorem dX1_isKept_15 : decode cX1_isKept 15 = .ok (.iload_n 1, 1) := by decide +kernel
theorem dX1_isKept_16 : decode cX1_isKept 16 = .ok (.iaload, 1) := by decide +kernel
theorem dX1_isKept_17 : decode cX1_isKept 17 = .ok (.iconst (-1), 1) := by decide +kernel
theorem dX1_isKept_18 : decode cX1_isKept 18 = .ok (.if_icmp .eq 7, 3) := by decide +kernel
theorem dX1_isKept_21 : decode cX1_isKept 21 = .ok (.iconst 1, 1) := by decide +kernel
theorem dX1_isKept_22 : decode cX1_isKept 22 = .ok (.goto 4, 3) := by decide +kernel
theorem dX1_isKept_25 : decode cX1_isKept 25 = .ok (.iconst 0, 1) := by decide +kernel
theorem dX1_isKept_26 : decode cX1_isKept 26 = .ok (.ireturn, 1) := by decide +kernel
theorem dX1_firstWrongLink_0 : decode cX1_firstWrongLink 0 = .ok (.iload_n 1, 1) := by decide +kernel
theorem dX1_firstWrongLink_1 : decode cX1_firstWrongLink 1 = .ok (.istore_n 3, 1) := by decide +kernel
theorem dX1_firstWrongLink_2 : decode cX1_firstWrongLink 2 = .ok (.iload_n 3, 1) := by decide +kernel
theorem dX1_firstWrongLink_3 : decode cX1_firstWrongLink 3 = .ok (.iload_n 2, 1) := by decide +kernel
theorem dX1_firstWrongLink_4 : decode cX1_firstWrongLink 4 = .ok (.if_icmp .ge 34, 3) := by decide +kernel
theorem dX1_firstWrongLink_7 : decode cX1_firstWrongLink 7 = .ok (.aload_n 0, 1) := by decide +kernel
theorem dX1_firstWrongLink_8 : decode cX1_firstWrongLink 8 = .ok (.getfield 9, 3) := by decide +kernel
theorem dX1_firstWrongLink_11 : decode cX1_firstWrongLink 11 = .ok (.iload_n 3, 1) := by decide +kernel
theorem dX1_firstWrongLink_12 : decode cX1_firstWrongLink 12 = .ok (.iaload, 1) := by decide +kernel
theorem dX1_firstWrongLink_13 : decode cX1_firstWrongLink 13 = .ok (.iconst (-1), 1) := by decide +kernel
theorem dX1_firstWrongLink_14 : decode cX1_firstWrongLink 14 = .ok (.if_icmp .eq 18, 3) := by decide +kernel
theorem dX1_firstWrongLink_17 : decode cX1_firstWrongLink 17 = .ok (.aload_n 0, 1) := by decide +kernel
theorem dX1_firstWrongLink_18 : decode cX1_firstWrongLink 18 = .ok (.aload_n 0, 1) := by decide +kernel
theorem dX1_firstWrongLink_19 : decode cX1_firstWrongLink 19 = .ok (.getfield 9, 3) := by decide +kernel
theorem dX1_firstWrongLink_22 : decode cX1_firstWrongLink 22 = .ok (.iload_n 3, 1) := by decide +kernel
theorem dX1_firstWrongLink_23 : decode cX1_firstWrongLink 23 = .ok (.iaload, 1) := by decide +kernel
theorem dX1_firstWrongLink_24 : decode cX1_firstWrongLink 24 = .ok (.invokevirtual 54, 3) := by decide +kernel
theorem dX1_firstWrongLink_27 : decode cX1_firstWrongLink 27 = .ok (.ifCond .ne 5, 3) := by decide +kernel
theorem dX1_firstWrongLink_30 : decode cX1_firstWrongLink 30 = .ok (.iload_n 3, 1) := by decide +kernel
theorem dX1_firstWrongLink_31 : decode cX1_firstWrongLink 31 = .ok (.ireturn, 1) := by decide +kernel
theorem dX1_firstWrongLink_32 : decode cX1_firstWrongLink 32 = .ok (.iinc 3 1, 3) := by decide +kernel
theorem dX1_firstWrongLink_35 : decode cX1_firstWrongLink 35 = .ok (.goto (-33), 3) := by decide +kernel
theorem dX1_firstWrongLink_38 : decode cX1_firstWrongLink 38 = .ok (.iconst (-1), 1) := by decide +kernel
theorem dX1_firstWrongLink_39 : decode cX1_firstWrongLink 39 = .ok (.ireturn, 1) := by decide +kernel
theorem dX1_firstWrongInMeaning_0 : decode cX1_firstWrongInMeaning 0 = .ok (.aload_n 0, 1) := by decide +kernel
theorem dX1_firstWrongInMeaning_1 : decode cX1_firstWrongInMeaning 1 = .ok (.iconst 0, 1) := by decide +kernel
theorem dX1_firstWrongInMeaning_2 : decode cX1_firstWrongInMeaning 2 = .ok (.bipush 24, 2) := by decide +kernel
theorem dX1_firstWrongInMeaning_4 : decode cX1_firstWrongInMeaning 4 = .ok (.invokevirtual 58, 3) := by decide +kernel
theorem dX1_firstWrongInMeaning_7 : decode cX1_firstWrongInMeaning 7 = .ok (.istore_n 1, 1) := by decide +kernel
theorem dX1_firstWrongInMeaning_8 : decode cX1_firstWrongInMeaning 8 = .ok (.aload_n 0, 1) := by decide +kernel
theorem dX1_firstWrongInMeaning_9 : decode cX1_firstWrongInMeaning 9 = .ok (.getfield 18, 3) := by decide +kernel
theorem dX1_firstWrongInMeaning_12 : decode cX1_firstWrongInMeaning 12 = .ok (.iconst 0, 1) := by decide +kernel
theorem dX1_firstWrongInMeaning_13 : decode cX1_firstWrongInMeaning 13 = .ok (.invokestatic 48, 3) := by decide +kernel
theorem dX1_firstWrongInMeaning_16 : decode cX1_firstWrongInMeaning 16 = .ok (.bipush 25, 2) := by decide +kernel
theorem dX1_firstWrongInMeaning_18 : decode cX1_firstWrongInMeaning 18 = .ok (.istore_n 2, 1) := by decide +kernel
theorem dX1_firstWrongInMeaning_19 : decode cX1_firstWrongInMeaning 19 = .ok (.iconst 0, 1) := by decide +kernel
theorem dX1_firstWrongInMeaning_20 : decode cX1_firstWrongInMeaning 20 = .ok (.istore_n 3, 1) := by decide +kernel
theorem dX1_firstWrongInMeaning_21 : decode cX1_firstWrongInMeaning 21 = .ok (.iload_n 3, 1) := by decide +kernel
theorem dX1_firstWrongInMeaning_22 : decode cX1_firstWrongInMeaning 22 = .ok (.aload_n 0, 1) := by decide +kernel
theorem dX1_firstWrongInMeaning_23 : decode cX1_firstWrongInMeaning 23 = .ok (.getfield 41, 3) := by decide +kernel
theorem dX1_firstWrongInMeaning_26 : decode cX1_firstWrongInMeaning 26 = .ok (.if_icmp .ge 34, 3) := by decide +kernel
theorem dX1_firstWrongInMeaning_29 : decode cX1_firstWrongInMeaning 29 = .ok (.iload_n 1, 1) := by decide +kernel
theorem dX1_firstWrongInMeaning_30 : decode cX1_firstWrongInMeaning 30 = .ok (.iconst (-1), 1) := by decide +kernel
theorem dX1_firstWrongInMeaning_31 : decode cX1_firstWrongInMeaning 31 = .ok (.if_icmp .ne 29, 3) := by decide +kernel
theorem dX1_firstWrongInMeaning_34 : decode cX1_firstWrongInMeaning 34 = .ok (.aload_n 0, 1) := by decide +kernel
theorem dX1_firstWrongInMeaning_35 : decode cX1_firstWrongInMeaning 35 = .ok (.iload_n 2, 1) := by decide +kernel
theorem dX1_firstWrongInMeaning_36 : decode cX1_firstWrongInMeaning 36 = .ok (.invokevirtual 62, 3) := by decide +kernel
theorem dX1_firstWrongInMeaning_39 : decode cX1_firstWrongInMeaning 39 = .ok (.istore_n 1, 1) := by decide +kernel
theorem dX1_firstWrongInMeaning_40 : decode cX1_firstWrongInMeaning 40 = .ok (.iload_n 2, 1) := by decide +kernel
theorem dX1_firstWrongInMeaning_41 : decode cX1_firstWrongInMeaning 41 = .ok (.bipush 6, 2) := by decide +kernel
theorem dX1_firstWrongInMeaning_43 : decode cX1_firstWrongInMeaning 43 = .ok (.aload_n 0, 1) := by decide +kernel
theorem dX1_firstWrongInMeaning_44 : decode cX1_firstWrongInMeaning 44 = .ok (.getfield 9, 3) := by decide +kernel
theorem dX1_firstWrongInMeaning_47 : decode cX1_firstWrongInMeaning 47 = .ok (.iload_n 2, 1) := by decide +kernel
theorem dX1_firstWrongInMeaning_48 : decode cX1_firstWrongInMeaning 48 = .ok (.iconst 5, 1) := by decide +kernel
theorem dX1_firstWrongInMeaning_49 : decode cX1_firstWrongInMeaning 49 = .ok (.iadd, 1) := by decide +kernel
theorem dX1_firstWrongInMeaning_50 : decode cX1_firstWrongInMeaning 50 = .ok (.iaload, 1) := by decide +kernel
theorem dX1_firstWrongInMeaning_51 : decode cX1_firstWrongInMeaning 51 = .ok (.iadd, 1) := by decide +kernel
theorem dX1_firstWrongInMeaning_52 : decode cX1_firstWrongInMeaning 52 = .ok (.iadd, 1) := by decide +kernel
theorem dX1_firstWrongInMeaning_53 : decode cX1_firstWrongInMeaning 53 = .ok (.istore_n 2, 1) := by decide +kernel
theorem dX1_firstWrongInMeaning_54 : decode cX1_firstWrongInMeaning 54 = .ok (.iinc 3 1, 3) := by decide +kernel
theorem dX1_firstWrongInMeaning_57 : decode cX1_firstWrongInMeaning 57 = .ok (.goto (-36), 3) := by decide +kernel
theorem dX1_firstWrongInMeaning_60 : decode cX1_firstWrongInMeaning 60 = .ok (.iload_n 1, 1) := by decide +kernel
theorem dX1_firstWrongInMeaning_61 : decode cX1_firstWrongInMeaning 61 = .ok (.iconst (-1), 1) := by decide +kernel
theorem dX1_firstWrongInMeaning_62 : decode cX1_firstWrongInMeaning 62 = .ok (.if_icmp .eq 7, 3) := by decide +kernel
theorem dX1_firstWrongInMeaning_65 : decode cX1_firstWrongInMeaning 65 = .ok (.iload_n 1, 1) := by decide +kernel
theorem dX1_firstWrongInMeaning_66 : decode cX1_firstWrongInMeaning 66 = .ok (.goto 8, 3) := by decide +kernel
theorem dX1_firstWrongInMeaning_69 : decode cX1_firstWrongInMeaning 69 = .ok (.aload_n 0, 1) := by decide +kernel
theorem dX1_firstWrongInMeaning_70 : decode cX1_firstWrongInMeaning 70 = .ok (.iload_n 2, 1) := by decide +kernel
theorem dX1_firstWrongInMeaning_71 : decode cX1_firstWrongInMeaning 71 = .ok (.invokevirtual 66, 3) := by decide +kernel
theorem dX1_firstWrongInMeaning_74 : decode cX1_firstWrongInMeaning 74 = .ok (.ireturn, 1) := by decide +kernel
theorem dX1_firstWrongOfKept_0 : decode cX1_firstWrongOfKept 0 = .ok (.aload_n 0, 1) := by decide +kernel
theorem dX1_firstWrongOfKept_1 : decode cX1_firstWrongOfKept 1 = .ok (.getfield 9, 3) := by decide +kernel
theorem dX1_firstWrongOfKept_4 : decode cX1_firstWrongOfKept 4 = .ok (.iload_n 1, 1) := by decide +kernel
theorem dX1_firstWrongOfKept_5 : decode cX1_firstWrongOfKept 5 = .ok (.iaload, 1) := by decide +kernel
theorem dX1_firstWrongOfKept_6 : decode cX1_firstWrongOfKept 6 = .ok (.istore_n 2, 1) := by decide +kernel
theorem dX1_firstWrongOfKept_7 : decode cX1_firstWrongOfKept 7 = .ok (.aload_n 0, 1) := by decide +kernel
theorem dX1_firstWrongOfKept_8 : decode cX1_firstWrongOfKept 8 = .ok (.iload_n 2, 1) := by decide +kernel
theorem dX1_firstWrongOfKept_9 : decode cX1_firstWrongOfKept 9 = .ok (.invokevirtual 54, 3) := by decide +kernel
theorem dX1_firstWrongOfKept_12 : decode cX1_firstWrongOfKept 12 = .ok (.ifCond .eq 13, 3) := by decide +kernel
theorem dX1_firstWrongOfKept_15 : decode cX1_firstWrongOfKept 15 = .ok (.aload_n 0, 1) := by decide +kernel
theorem dX1_firstWrongOfKept_16 : decode cX1_firstWrongOfKept 16 = .ok (.getfield 15, 3) := by decide +kernel
theorem dX1_firstWrongOfKept_19 : decode cX1_firstWrongOfKept 19 = .ok (.iload_n 2, 1) := by decide +kernel
theorem dX1_firstWrongOfKept_20 : decode cX1_firstWrongOfKept 20 = .ok (.iaload, 1) := by decide +kernel
theorem dX1_firstWrongOfKept_21 : decode cX1_firstWrongOfKept 21 = .ok (.iload_n 1, 1) := by decide +kernel
theorem dX1_firstWrongOfKept_22 : decode cX1_firstWrongOfKept 22 = .ok (.if_icmp .eq 5, 3) := by decide +kernel
theorem dX1_firstWrongOfKept_25 : decode cX1_firstWrongOfKept 25 = .ok (.iload_n 1, 1) := by decide +kernel
theorem dX1_firstWrongOfKept_26 : decode cX1_firstWrongOfKept 26 = .ok (.ireturn, 1) := by decide +kernel
theorem dX1_firstWrongOfKept_27 : decode cX1_firstWrongOfKept 27 = .ok (.aload_n 0, 1) := by decide +kernel
theorem dX1_firstWrongOfKept_28 : decode cX1_firstWrongOfKept 28 = .ok (.iload_n 1, 1) := by decide +kernel
theorem dX1_firstWrongOfKept_29 : decode cX1_firstWrongOfKept 29 = .ok (.invokevirtual 69, 3) := by decide +kernel
theorem dX1_firstWrongOfKept_32 : decode cX1_firstWrongOfKept 32 = .ok (.istore_n 3, 1) := by decide +kernel
theorem dX1_firstWrongOfKept_33 : decode cX1_firstWrongOfKept 33 = .ok (.iload_n 3, 1) := by decide +kernel
theorem dX1_firstWrongOfKept_34 : decode cX1_firstWrongOfKept 34 = .ok (.iconst (-1), 1) := by decide +kernel
theorem dX1_firstWrongOfKept_35 : decode cX1_firstWrongOfKept 35 = .ok (.if_icmp .eq 5, 3) := by decide +kernel
theorem dX1_firstWrongOfKept_38 : decode cX1_firstWrongOfKept 38 = .ok (.iload_n 3, 1) := by decide +kernel
theorem dX1_firstWrongOfKept_39 : decode cX1_firstWrongOfKept 39 = .ok (.ireturn, 1) := by decide +kernel
theorem dX1_firstWrongOfKept_40 : decode cX1_firstWrongOfKept 40 = .ok (.aload_n 0, 1) := by decide +kernel
theorem dX1_firstWrongOfKept_41 : decode cX1_firstWrongOfKept 41 = .ok (.iload_n 1, 1) := by decide +kernel
theorem dX1_firstWrongOfKept_42 : decode cX1_firstWrongOfKept 42 = .ok (.invokevirtual 72, 3) := by decide +kernel
theorem dX1_firstWrongOfKept_45 : decode cX1_firstWrongOfKept 45 = .ok (.ifCond .eq 7, 3) := by decide +kernel
theorem dX1_firstWrongOfKept_48 : decode cX1_firstWrongOfKept 48 = .ok (.iload_n 1, 1) := by decide +kernel
theorem dX1_firstWrongOfKept_49 : decode cX1_firstWrongOfKept 49 = .ok (.iconst 4, 1) := by decide +kernel
theorem dX1_firstWrongOfKept_50 : decode cX1_firstWrongOfKept 50 = .ok (.iadd, 1) := by decide +kernel
theorem dX1_firstWrongOfKept_51 : decode cX1_firstWrongOfKept 51 = .ok (.ireturn, 1) := by decide +kernel
theorem dX1_firstWrongOfKept_52 : decode cX1_firstWrongOfKept 52 = .ok (.aload_n 0, 1) := by decide +kernel
theorem dX1_firstWrongOfKept_53 : decode cX1_firstWrongOfKept 53 = .ok (.getfield 18, 3) := by decide +kernel
theorem dX1_firstWrongOfKept_56 : decode cX1_firstWrongOfKept 56 = .ok (.aload_n 0, 1) := by decide +kernel
theorem dX1_firstWrongOfKept_57 : decode cX1_firstWrongOfKept 57 = .ok (.getfield 9, 3) := by decide +kernel
theorem dX1_firstWrongOfKept_60 : decode cX1_firstWrongOfKept 60 = .ok (.iload_n 1, 1) := by decide +kernel
theorem dX1_firstWrongOfKept_61 : decode cX1_firstWrongOfKept 61 = .ok (.iconst 4, 1) := by decide +kernel
theorem dX1_firstWrongOfKept_62 : decode cX1_firstWrongOfKept 62 = .ok (.iadd, 1) := by decide +kernel
theorem dX1_firstWrongOfKept_63 : decode cX1_firstWrongOfKept 63 = .ok (.iaload, 1) := by decide +kernel
theorem dX1_firstWrongOfKept_64 : decode cX1_firstWrongOfKept 64 = .ok (.iconst 1, 1) := by decide +kernel
theorem dX1_firstWrongOfKept_65 : decode cX1_firstWrongOfKept 65 = .ok (.iastore, 1) := by decide +kernel
theorem dX1_firstWrongOfKept_66 : decode cX1_firstWrongOfKept 66 = .ok (.aload_n 0, 1) := by decide +kernel
theorem dX1_firstWrongOfKept_67 : decode cX1_firstWrongOfKept 67 = .ok (.iload_n 1, 1) := by decide +kernel
theorem dX1_firstWrongOfKept_68 : decode cX1_firstWrongOfKept 68 = .ok (.bipush 6, 2) := by decide +kernel
theorem dX1_firstWrongOfKept_70 : decode cX1_firstWrongOfKept 70 = .ok (.iadd, 1) := by decide +kernel
theorem dX1_firstWrongOfKept_71 : decode cX1_firstWrongOfKept 71 = .ok (.iload_n 1, 1) := by decide +kernel
theorem dX1_firstWrongOfKept_72 : decode cX1_firstWrongOfKept 72 = .ok (.bipush 6, 2) := by decide +kernel
theorem dX1_firstWrongOfKept_74 : decode cX1_firstWrongOfKept 74 = .ok (.iadd, 1) := by decide +kernel
theorem dX1_firstWrongOfKept_75 : decode cX1_firstWrongOfKept 75 = .ok (.aload_n 0, 1) := by decide +kernel
theorem dX1_firstWrongOfKept_76 : decode cX1_firstWrongOfKept 76 = .ok (.getfield 9, 3) := by decide +kernel
theorem dX1_firstWrongOfKept_79 : decode cX1_firstWrongOfKept 79 = .ok (.iload_n 1, 1) := by decide +kernel
theorem dX1_firstWrongOfKept_80 : decode cX1_firstWrongOfKept 80 = .ok (.iconst 5, 1) := by decide +kernel
theorem dX1_firstWrongOfKept_81 : decode cX1_firstWrongOfKept 81 = .ok (.iadd, 1) := by decide +kernel
theorem dX1_firstWrongOfKept_82 : decode cX1_firstWrongOfKept 82 = .ok (.iaload, 1) := by decide +kernel
theorem dX1_firstWrongOfKept_83 : decode cX1_firstWrongOfKept 83 = .ok (.iadd, 1) := by decide +kernel
theorem dX1_firstWrongOfKept_84 : decode cX1_firstWrongOfKept 84 = .ok (.invokevirtual 58, 3) := by decide +kernel
theorem dX1_firstWrongOfKept_87 : decode cX1_firstWrongOfKept 87 = .ok (.ireturn, 1) := by decide +kernel
theorem dX1_firstWrongOfReason_0 : decode cX1_firstWrongOfReason 0 = .ok (.aload_n 0, 1) := by decide +kernel
theorem dX1_firstWrongOfReason_1 : decode cX1_firstWrongOfReason 1 = .ok (.getfield 9, 3) := by decide +kernel
theorem dX1_firstWrongOfReason_4 : decode cX1_firstWrongOfReason 4 = .ok (.iload_n 1, 1) := by decide +kernel
theorem dX1_firstWrongOfReason_5 : decode cX1_firstWrongOfReason 5 = .ok (.iconst 1, 1) := by decide +kernel
theorem dX1_firstWrongOfReason_6 : decode cX1_firstWrongOfReason 6 = .ok (.iadd, 1) := by decide +kernel
theorem dX1_firstWrongOfReason_7 : decode cX1_firstWrongOfReason 7 = .ok (.iaload, 1) := by decide +kernel
theorem dX1_firstWrongOfReason_8 : decode cX1_firstWrongOfReason 8 = .ok (.istore_n 2, 1) := by decide +kernel
theorem dX1_firstWrongOfReason_9 : decode cX1_firstWrongOfReason 9 = .ok (.iload_n 2, 1) := by decide +kernel
theorem dX1_firstWrongOfReason_10 : decode cX1_firstWrongOfReason 10 = .ok (.iconst 0, 1) := by decide +kernel
theorem dX1_firstWrongOfReason_11 : decode cX1_firstWrongOfReason 11 = .ok (.iconst 5, 1) := by decide +kernel
theorem dX1_firstWrongOfReason_12 : decode cX1_firstWrongOfReason 12 = .ok (.invokestatic 44, 3) := by decide +kernel
theorem dX1_firstWrongOfReason_15 : decode cX1_firstWrongOfReason 15 = .ok (.ifCond .ne 7, 3) := by decide +kernel
theorem dX1_firstWrongOfReason_18 : decode cX1_firstWrongOfReason 18 = .ok (.iload_n 1, 1) := by decide +kernel
theorem dX1_firstWrongOfReason_19 : decode cX1_firstWrongOfReason 19 = .ok (.iconst 1, 1) := by decide +kernel
theorem dX1_firstWrongOfReason_20 : decode cX1_firstWrongOfReason 20 = .ok (.iadd, 1) := by decide +kernel
theorem dX1_firstWrongOfReason_21 : decode cX1_firstWrongOfReason 21 = .ok (.ireturn, 1) := by decide +kernel
theorem dX1_firstWrongOfReason_22 : decode cX1_firstWrongOfReason 22 = .ok (.aload_n 0, 1) := by decide +kernel
theorem dX1_firstWrongOfReason_23 : decode cX1_firstWrongOfReason 23 = .ok (.getfield 9, 3) := by decide +kernel
theorem dX1_firstWrongOfReason_26 : decode cX1_firstWrongOfReason 26 = .ok (.iload_n 1, 1) := by decide +kernel
theorem dX1_firstWrongOfReason_27 : decode cX1_firstWrongOfReason 27 = .ok (.iconst 2, 1) := by decide +kernel
theorem dX1_firstWrongOfReason_28 : decode cX1_firstWrongOfReason 28 = .ok (.iadd, 1) := by decide +kernel
theorem dX1_firstWrongOfReason_29 : decode cX1_firstWrongOfReason 29 = .ok (.iaload, 1) := by decide +kernel
theorem dX1_firstWrongOfReason_30 : decode cX1_firstWrongOfReason 30 = .ok (.istore_n 3, 1) := by decide +kernel
theorem dX1_firstWrongOfReason_31 : decode cX1_firstWrongOfReason 31 = .ok (.aload_n 0, 1) := by decide +kernel
theorem dX1_firstWrongOfReason_32 : decode cX1_firstWrongOfReason 32 = .ok (.iload_n 2, 1) := by decide +kernel
theorem dX1_firstWrongOfReason_33 : decode cX1_firstWrongOfReason 33 = .ok (.iload_n 3, 1) := by decide +kernel
theorem dX1_firstWrongOfReason_34 : decode cX1_firstWrongOfReason 34 = .ok (.invokevirtual 75, 3) := by decide +kernel
theorem dX1_firstWrongOfReason_37 : decode cX1_firstWrongOfReason 37 = .ok (.ifCond .ne 7, 3) := by decide +kernel
theorem dX1_firstWrongOfReason_40 : decode cX1_firstWrongOfReason 40 = .ok (.iload_n 1, 1) := by decide +kernel
theorem dX1_firstWrongOfReason_41 : decode cX1_firstWrongOfReason 41 = .ok (.iconst 2, 1) := by decide +kernel
theorem dX1_firstWrongOfReason_42 : decode cX1_firstWrongOfReason 42 = .ok (.iadd, 1) := by decide +kernel
theorem dX1_firstWrongOfReason_43 : decode cX1_firstWrongOfReason 43 = .ok (.ireturn, 1) := by decide +kernel
theorem dX1_firstWrongOfReason_44 : decode cX1_firstWrongOfReason 44 = .ok (.iload_n 2, 1) := by decide +kernel
theorem dX1_firstWrongOfReason_45 : decode cX1_firstWrongOfReason 45 = .ok (.iload_n 3, 1) := by decide +kernel
theorem dX1_firstWrongOfReason_46 : decode cX1_firstWrongOfReason 46 = .ok (.aload_n 0, 1) := by decide +kernel
theorem dX1_firstWrongOfReason_47 : decode cX1_firstWrongOfReason 47 = .ok (.getfield 9, 3) := by decide +kernel
theorem dX1_firstWrongOfReason_50 : decode cX1_firstWrongOfReason 50 = .ok (.iload_n 1, 1) := by decide +kernel
theorem dX1_firstWrongOfReason_51 : decode cX1_firstWrongOfReason 51 = .ok (.iconst 3, 1) := by decide +kernel
theorem dX1_firstWrongOfReason_52 : decode cX1_firstWrongOfReason 52 = .ok (.iadd, 1) := by decide +kernel
theorem dX1_firstWrongOfReason_53 : decode cX1_firstWrongOfReason 53 = .ok (.iaload, 1) := by decide +kernel
theorem dX1_firstWrongOfReason_54 : decode cX1_firstWrongOfReason 54 = .ok (.invokestatic 79, 3) := by decide +kernel
theorem dX1_firstWrongOfReason_57 : decode cX1_firstWrongOfReason 57 = .ok (.ifCond .eq 7, 3) := by decide +kernel
theorem dX1_firstWrongOfReason_60 : decode cX1_firstWrongOfReason 60 = .ok (.iconst (-1), 1) := by decide +kernel
theorem dX1_firstWrongOfReason_61 : decode cX1_firstWrongOfReason 61 = .ok (.goto 6, 3) := by decide +kernel
theorem dX1_firstWrongOfReason_64 : decode cX1_firstWrongOfReason 64 = .ok (.iload_n 1, 1) := by decide +kernel
theorem dX1_firstWrongOfReason_65 : decode cX1_firstWrongOfReason 65 = .ok (.iconst 3, 1) := by decide +kernel
theorem dX1_firstWrongOfReason_66 : decode cX1_firstWrongOfReason 66 = .ok (.iadd, 1) := by decide +kernel
theorem dX1_firstWrongOfReason_67 : decode cX1_firstWrongOfReason 67 = .ok (.ireturn, 1) := by decide +kernel
theorem dX1_isFirstRight_0 : decode cX1_isFirstRight 0 = .ok (.iload_n 1, 1) := by decide +kernel
theorem dX1_isFirstRight_1 : decode cX1_isFirstRight 1 = .ok (.tableswitch 73 0 5 #[39, 47, 73, 53, 73, 62], 39) := by decide +kernel
theorem dX1_isFirstRight_40 : decode cX1_isFirstRight 40 = .ok (.iload_n 2, 1) := by decide +kernel
theorem dX1_isFirstRight_41 : decode cX1_isFirstRight 41 = .ok (.iconst 0, 1) := by decide +kernel
theorem dX1_isFirstRight_42 : decode cX1_isFirstRight 42 = .ok (.bipush 23, 2) := by decide +kernel
theorem dX1_isFirstRight_44 : decode cX1_isFirstRight 44 = .ok (.invokestatic 44, 3) := by decide +kernel
theorem dX1_isFirstRight_47 : decode cX1_isFirstRight 47 = .ok (.ireturn, 1) := by decide +kernel
theorem dX1_isFirstRight_48 : decode cX1_isFirstRight 48 = .ok (.aload_n 0, 1) := by decide +kernel
theorem dX1_isFirstRight_49 : decode cX1_isFirstRight 49 = .ok (.iload_n 2, 1) := by decide +kernel
theorem dX1_isFirstRight_50 : decode cX1_isFirstRight 50 = .ok (.invokevirtual 54, 3) := by decide +kernel
theorem dX1_isFirstRight_53 : decode cX1_isFirstRight 53 = .ok (.ireturn, 1) := by decide +kernel
theorem dX1_isFirstRight_54 : decode cX1_isFirstRight 54 = .ok (.iload_n 2, 1) := by decide +kernel
theorem dX1_isFirstRight_55 : decode cX1_isFirstRight 55 = .ok (.iconst (-1), 1) := by decide +kernel
theorem dX1_isFirstRight_56 : decode cX1_isFirstRight 56 = .ok (.sipush 499, 3) := by decide +kernel
theorem dX1_isFirstRight_59 : decode cX1_isFirstRight 59 = .ok (.invokestatic 44, 3) := by decide +kernel
theorem dX1_isFirstRight_62 : decode cX1_isFirstRight 62 = .ok (.ireturn, 1) := by decide +kernel
theorem dX1_isFirstRight_63 : decode cX1_isFirstRight 63 = .ok (.iload_n 2, 1) := by decide +kernel
theorem dX1_isFirstRight_64 : decode cX1_isFirstRight 64 = .ok (.iconst (-1), 1) := by decide +kernel
theorem dX1_isFirstRight_65 : decode cX1_isFirstRight 65 = .ok (.if_icmp .ne 7, 3) := by decide +kernel
theorem dX1_isFirstRight_68 : decode cX1_isFirstRight 68 = .ok (.iconst 1, 1) := by decide +kernel
theorem dX1_isFirstRight_69 : decode cX1_isFirstRight 69 = .ok (.goto 4, 3) := by decide +kernel
theorem dX1_isFirstRight_72 : decode cX1_isFirstRight 72 = .ok (.iconst 0, 1) := by decide +kernel
theorem dX1_isFirstRight_73 : decode cX1_isFirstRight 73 = .ok (.ireturn, 1) := by decide +kernel
theorem dX1_isFirstRight_74 : decode cX1_isFirstRight 74 = .ok (.iload_n 2, 1) := by decide +kernel
theorem dX1_isFirstRight_75 : decode cX1_isFirstRight 75 = .ok (.iconst 0, 1) := by decide +kernel
theorem dX1_isFirstRight_76 : decode cX1_isFirstRight 76 = .ok (.sipush 499, 3) := by decide +kernel
theorem dX1_isFirstRight_79 : decode cX1_isFirstRight 79 = .ok (.invokestatic 44, 3) := by decide +kernel
theorem dX1_isFirstRight_82 : decode cX1_isFirstRight 82 = .ok (.ireturn, 1) := by decide +kernel
theorem dX1_isSecondRight_0 : decode cX1_isSecondRight 0 = .ok (.iload_n 0, 1) := by decide +kernel
theorem dX1_isSecondRight_1 : decode cX1_isSecondRight 1 = .ok (.lookupswitch 56 #[(0, 35), (4, 46), (5, 35)], 35) := by decide +kernel
theorem dX1_isSecondRight_36 : decode cX1_isSecondRight 36 = .ok (.iload_n 2, 1) := by decide +kernel
theorem dX1_isSecondRight_37 : decode cX1_isSecondRight 37 = .ok (.iconst (-1), 1) := by decide +kernel
theorem dX1_isSecondRight_38 : decode cX1_isSecondRight 38 = .ok (.if_icmp .ne 7, 3) := by decide +kernel
theorem dX1_isSecondRight_41 : decode cX1_isSecondRight 41 = .ok (.iconst 1, 1) := by decide +kernel
theorem dX1_isSecondRight_42 : decode cX1_isSecondRight 42 = .ok (.goto 4, 3) := by decide +kernel
theorem dX1_isSecondRight_45 : decode cX1_isSecondRight 45 = .ok (.iconst 0, 1) := by decide +kernel
theorem dX1_isSecondRight_46 : decode cX1_isSecondRight 46 = .ok (.ireturn, 1) := by decide +kernel
theorem dX1_isSecondRight_47 : decode cX1_isSecondRight 47 = .ok (.iload_n 2, 1) := by decide +kernel
theorem dX1_isSecondRight_48 : decode cX1_isSecondRight 48 = .ok (.ifCond .ne 7, 3) := by decide +kernel
theorem dX1_isSecondRight_51 : decode cX1_isSecondRight 51 = .ok (.iconst 1, 1) := by decide +kernel
theorem dX1_isSecondRight_52 : decode cX1_isSecondRight 52 = .ok (.goto 4, 3) := by decide +kernel
theorem dX1_isSecondRight_55 : decode cX1_isSecondRight 55 = .ok (.iconst 0, 1) := by decide +kernel
theorem dX1_isSecondRight_56 : decode cX1_isSecondRight 56 = .ok (.ireturn, 1) := by decide +kernel
theorem dX1_isSecondRight_57 : decode cX1_isSecondRight 57 = .ok (.iload_n 2, 1) := by decide +kernel
theorem dX1_isSecondRight_58 : decode cX1_isSecondRight 58 = .ok (.iconst 0, 1) := by decide +kernel
theorem dX1_isSecondRight_59 : decode cX1_isSecondRight 59 = .ok (.iload_n 1, 1) := by decide +kernel
theorem dX1_isSecondRight_60 : decode cX1_isSecondRight 60 = .ok (.iconst (-1), 1) := by decide +kernel
theorem dX1_isSecondRight_61 : decode cX1_isSecondRight 61 = .ok (.if_icmp .ne 8, 3) := by decide +kernel
theorem dX1_isSecondRight_64 : decode cX1_isSecondRight 64 = .ok (.bipush 23, 2) := by decide +kernel
theorem dX1_isSecondRight_66 : decode cX1_isSecondRight 66 = .ok (.goto 6, 3) := by decide +kernel
theorem dX1_isSecondRight_69 : decode cX1_isSecondRight 69 = .ok (.sipush 299, 3) := by decide +kernel
theorem dX1_isSecondRight_72 : decode cX1_isSecondRight 72 = .ok (.invokestatic 44, 3) := by decide +kernel
theorem dX1_isSecondRight_75 : decode cX1_isSecondRight 75 = .ok (.ireturn, 1) := by decide +kernel
theorem dX1_isRankWrong_0 : decode cX1_isRankWrong 0 = .ok (.aload_n 0, 1) := by decide +kernel
theorem dX1_isRankWrong_1 : decode cX1_isRankWrong 1 = .ok (.getfield 9, 3) := by decide +kernel
theorem dX1_isRankWrong_4 : decode cX1_isRankWrong 4 = .ok (.iload_n 1, 1) := by decide +kernel
theorem dX1_isRankWrong_5 : decode cX1_isRankWrong 5 = .ok (.iconst 4, 1) := by decide +kernel
theorem dX1_isRankWrong_6 : decode cX1_isRankWrong 6 = .ok (.iadd, 1) := by decide +kernel
theorem dX1_isRankWrong_7 : decode cX1_isRankWrong 7 = .ok (.iaload, 1) := by decide +kernel
theorem dX1_isRankWrong_8 : decode cX1_isRankWrong 8 = .ok (.istore_n 2, 1) := by decide +kernel
theorem dX1_isRankWrong_9 : decode cX1_isRankWrong 9 = .ok (.iload_n 2, 1) := by decide +kernel
theorem dX1_isRankWrong_10 : decode cX1_isRankWrong 10 = .ok (.iconst 1, 1) := by decide +kernel
theorem dX1_isRankWrong_11 : decode cX1_isRankWrong 11 = .ok (.aload_n 0, 1) := by decide +kernel
theorem dX1_isRankWrong_12 : decode cX1_isRankWrong 12 = .ok (.getfield 41, 3) := by decide +kernel
theorem dX1_isRankWrong_15 : decode cX1_isRankWrong 15 = .ok (.invokestatic 44, 3) := by decide +kernel
theorem dX1_isRankWrong_18 : decode cX1_isRankWrong 18 = .ok (.ifCond .eq 12, 3) := by decide +kernel
theorem dX1_isRankWrong_21 : decode cX1_isRankWrong 21 = .ok (.aload_n 0, 1) := by decide +kernel
theorem dX1_isRankWrong_22 : decode cX1_isRankWrong 22 = .ok (.getfield 18, 3) := by decide +kernel
theorem dX1_isRankWrong_25 : decode cX1_isRankWrong 25 = .ok (.iload_n 2, 1) := by decide +kernel
theorem dX1_isRankWrong_26 : decode cX1_isRankWrong 26 = .ok (.iaload, 1) := by decide +kernel
theorem dX1_isRankWrong_27 : decode cX1_isRankWrong 27 = .ok (.ifCond .eq 5, 3) := by decide +kernel
theorem dX1_isRankWrong_30 : decode cX1_isRankWrong 30 = .ok (.iconst 1, 1) := by decide +kernel
theorem dX1_isRankWrong_31 : decode cX1_isRankWrong 31 = .ok (.ireturn, 1) := by decide +kernel
theorem dX1_isRankWrong_32 : decode cX1_isRankWrong 32 = .ok (.aload_n 0, 1) := by decide +kernel
theorem dX1_isRankWrong_33 : decode cX1_isRankWrong 33 = .ok (.getfield 9, 3) := by decide +kernel
theorem dX1_isRankWrong_36 : decode cX1_isRankWrong 36 = .ok (.iload_n 1, 1) := by decide +kernel
theorem dX1_isRankWrong_37 : decode cX1_isRankWrong 37 = .ok (.iconst 1, 1) := by decide +kernel
theorem dX1_isRankWrong_38 : decode cX1_isRankWrong 38 = .ok (.iadd, 1) := by decide +kernel
theorem dX1_isRankWrong_39 : decode cX1_isRankWrong 39 = .ok (.iaload, 1) := by decide +kernel
theorem dX1_isRankWrong_40 : decode cX1_isRankWrong 40 = .ok (.iconst 1, 1) := by decide +kernel
theorem dX1_isRankWrong_41 : decode cX1_isRankWrong 41 = .ok (.if_icmp .ne 31, 3) := by decide +kernel
theorem dX1_isRankWrong_44 : decode cX1_isRankWrong 44 = .ok (.iload_n 2, 1) := by decide +kernel
theorem dX1_isRankWrong_45 : decode cX1_isRankWrong 45 = .ok (.aload_n 0, 1) := by decide +kernel
theorem dX1_isRankWrong_46 : decode cX1_isRankWrong 46 = .ok (.getfield 9, 3) := by decide +kernel
theorem dX1_isRankWrong_49 : decode cX1_isRankWrong 49 = .ok (.aload_n 0, 1) := by decide +kernel
theorem dX1_isRankWrong_50 : decode cX1_isRankWrong 50 = .ok (.getfield 15, 3) := by decide +kernel
theorem dX1_isRankWrong_53 : decode cX1_isRankWrong 53 = .ok (.aload_n 0, 1) := by decide +kernel
theorem dX1_isRankWrong_54 : decode cX1_isRankWrong 54 = .ok (.getfield 9, 3) := by decide +kernel
theorem dX1_isRankWrong_57 : decode cX1_isRankWrong 57 = .ok (.iload_n 1, 1) := by decide +kernel
theorem dX1_isRankWrong_58 : decode cX1_isRankWrong 58 = .ok (.iconst 2, 1) := by decide +kernel
theorem dX1_isRankWrong_59 : decode cX1_isRankWrong 59 = .ok (.iadd, 1) := by decide +kernel
theorem dX1_isRankWrong_60 : decode cX1_isRankWrong 60 = .ok (.iaload, 1) := by decide +kernel
theorem dX1_isRankWrong_61 : decode cX1_isRankWrong 61 = .ok (.iaload, 1) := by decide +kernel
theorem dX1_isRankWrong_62 : decode cX1_isRankWrong 62 = .ok (.iconst 4, 1) := by decide +kernel
theorem dX1_isRankWrong_63 : decode cX1_isRankWrong 63 = .ok (.iadd, 1) := by decide +kernel
theorem dX1_isRankWrong_64 : decode cX1_isRankWrong 64 = .ok (.iaload, 1) := by decide +kernel
theorem dX1_isRankWrong_65 : decode cX1_isRankWrong 65 = .ok (.if_icmp .gt 7, 3) := by decide +kernel
theorem dX1_isRankWrong_68 : decode cX1_isRankWrong 68 = .ok (.iconst 1, 1) := by decide +kernel
theorem dX1_isRankWrong_69 : decode cX1_isRankWrong 69 = .ok (.goto 4, 3) := by decide +kernel
theorem dX1_isRankWrong_72 : decode cX1_isRankWrong 72 = .ok (.iconst 0, 1) := by decide +kernel
theorem dX1_isRankWrong_73 : decode cX1_isRankWrong 73 = .ok (.ireturn, 1) := by decide +kernel
theorem dX1_firstWrongGivenBack_0 : decode cX1_firstWrongGivenBack 0 = .ok (.iconst (-1), 1) := by decide +kernel
theorem dX1_firstWrongGivenBack_1 : decode cX1_firstWrongGivenBack 1 = .ok (.istore_n 2, 1) := by decide +kernel
theorem dX1_firstWrongGivenBack_2 : decode cX1_firstWrongGivenBack 2 = .ok (.iload_n 1, 1) := by decide +kernel
theorem dX1_firstWrongGivenBack_3 : decode cX1_firstWrongGivenBack 3 = .ok (.iconst 1, 1) := by decide +kernel
theorem dX1_firstWrongGivenBack_4 : decode cX1_firstWrongGivenBack 4 = .ok (.iadd, 1) := by decide +kernel
theorem dX1_firstWrongGivenBack_5 : decode cX1_firstWrongGivenBack 5 = .ok (.istore_n 3, 1) := by decide +kernel
theorem dX1_firstWrongGivenBack_6 : decode cX1_firstWrongGivenBack 6 = .ok (.iload_n 3, 1) := by decide +kernel
theorem dX1_firstWrongGivenBack_7 : decode cX1_firstWrongGivenBack 7 = .ok (.aload_n 0, 1) := by decide +kernel
theorem dX1_firstWrongGivenBack_8 : decode cX1_firstWrongGivenBack 8 = .ok (.getfield 21, 3) := by decide +kernel
theorem dX1_firstWrongGivenBack_11 : decode cX1_firstWrongGivenBack 11 = .ok (.iconst 1, 1) := by decide +kernel
theorem dX1_firstWrongGivenBack_12 : decode cX1_firstWrongGivenBack 12 = .ok (.isub, 1) := by decide +kernel
theorem dX1_firstWrongGivenBack_13 : decode cX1_firstWrongGivenBack 13 = .ok (.if_icmp .ge 45, 3) := by decide +kernel
theorem dX1_firstWrongGivenBack_16 : decode cX1_firstWrongGivenBack 16 = .ok (.aload_n 0, 1) := by decide +kernel
theorem dX1_firstWrongGivenBack_17 : decode cX1_firstWrongGivenBack 17 = .ok (.getfield 9, 3) := by decide +kernel
theorem dX1_firstWrongGivenBack_20 : decode cX1_firstWrongGivenBack 20 = .ok (.iload_n 3, 1) := by decide +kernel
theorem dX1_firstWrongGivenBack_21 : decode cX1_firstWrongGivenBack 21 = .ok (.iaload, 1) := by decide +kernel
theorem dX1_firstWrongGivenBack_22 : decode cX1_firstWrongGivenBack 22 = .ok (.istore 4, 2) := by decide +kernel
theorem dX1_firstWrongGivenBack_24 : decode cX1_firstWrongGivenBack 24 = .ok (.iload 4, 2) := by decide +kernel
theorem dX1_firstWrongGivenBack_26 : decode cX1_firstWrongGivenBack 26 = .ok (.iload_n 2, 1) := by decide +kernel
theorem dX1_firstWrongGivenBack_27 : decode cX1_firstWrongGivenBack 27 = .ok (.if_icmp .le 20, 3) := by decide +kernel
theorem dX1_firstWrongGivenBack_30 : decode cX1_firstWrongGivenBack 30 = .ok (.iload 4, 2) := by decide +kernel
theorem dX1_firstWrongGivenBack_32 : decode cX1_firstWrongGivenBack 32 = .ok (.sipush 500, 3) := by decide +kernel
theorem dX1_firstWrongGivenBack_35 : decode cX1_firstWrongGivenBack 35 = .ok (.if_icmp .ge 12, 3) := by decide +kernel
theorem dX1_firstWrongGivenBack_38 : decode cX1_firstWrongGivenBack 38 = .ok (.aload_n 0, 1) := by decide +kernel
theorem dX1_firstWrongGivenBack_39 : decode cX1_firstWrongGivenBack 39 = .ok (.iload 4, 2) := by decide +kernel
theorem dX1_firstWrongGivenBack_41 : decode cX1_firstWrongGivenBack 41 = .ok (.invokevirtual 54, 3) := by decide +kernel
theorem dX1_firstWrongGivenBack_44 : decode cX1_firstWrongGivenBack 44 = .ok (.ifCond .eq 5, 3) := by decide +kernel
theorem dX1_firstWrongGivenBack_47 : decode cX1_firstWrongGivenBack 47 = .ok (.iload_n 3, 1) := by decide +kernel
theorem dX1_firstWrongGivenBack_48 : decode cX1_firstWrongGivenBack 48 = .ok (.ireturn, 1) := by decide +kernel
theorem dX1_firstWrongGivenBack_49 : decode cX1_firstWrongGivenBack 49 = .ok (.iload 4, 2) := by decide +kernel
theorem dX1_firstWrongGivenBack_51 : decode cX1_firstWrongGivenBack 51 = .ok (.istore_n 2, 1) := by decide +kernel
theorem dX1_firstWrongGivenBack_52 : decode cX1_firstWrongGivenBack 52 = .ok (.iinc 3 1, 3) := by decide +kernel
theorem dX1_firstWrongGivenBack_55 : decode cX1_firstWrongGivenBack 55 = .ok (.goto (-49), 3) := by decide +kernel
theorem dX1_firstWrongGivenBack_58 : decode cX1_firstWrongGivenBack 58 = .ok (.iconst (-1), 1) := by decide +kernel
theorem dX1_firstWrongGivenBack_59 : decode cX1_firstWrongGivenBack 59 = .ok (.ireturn, 1) := by decide +kernel
theorem dX2_init_0 : decode cX2_init 0 = .ok (.aload_n 0, 1) := by decide +kernel
theorem dX2_init_1 : decode cX2_init 1 = .ok (.invokespecial 3, 3) := by decide +kernel
theorem dX2_init_4 : decode cX2_init 4 = .ok (.aload_n 0, 1) := by decide +kernel
theorem dX2_init_5 : decode cX2_init 5 = .ok (.sipush 4000, 3) := by decide +kernel
theorem dX2_init_8 : decode cX2_init 8 = .ok (.newarray .int, 2) := by decide +kernel
theorem dX2_init_10 : decode cX2_init 10 = .ok (.putfield 9, 3) := by decide +kernel
theorem dX2_init_13 : decode cX2_init 13 = .ok (.aload_n 0, 1) := by decide +kernel
theorem dX2_init_14 : decode cX2_init 14 = .ok (.sipush 500, 3) := by decide +kernel
theorem dX2_init_17 : decode cX2_init 17 = .ok (.newarray .int, 2) := by decide +kernel
theorem dX2_init_19 : decode cX2_init 19 = .ok (.putfield 15, 3) := by decide +kernel
theorem dX2_init_22 : decode cX2_init 22 = .ok (.aload_n 0, 1) := by decide +kernel
theorem dX2_init_23 : decode cX2_init 23 = .ok (.sipush 500, 3) := by decide +kernel
theorem dX2_init_26 : decode cX2_init 26 = .ok (.newarray .int, 2) := by decide +kernel
theorem dX2_init_28 : decode cX2_init 28 = .ok (.putfield 18, 3) := by decide +kernel
theorem dX2_init_31 : decode cX2_init 31 = .ok (.return_, 1) := by decide +kernel
theorem dX2_empty_0 : decode cX2_empty 0 = .ok (.aload_n 0, 1) := by decide +kernel
theorem dX2_empty_1 : decode cX2_empty 1 = .ok (.iconst 0, 1) := by decide +kernel
theorem dX2_empty_2 : decode cX2_empty 2 = .ok (.invokevirtual 21, 3) := by decide +kernel
theorem dX2_empty_5 : decode cX2_empty 5 = .ok (.aload_n 0, 1) := by decide +kernel
theorem dX2_empty_6 : decode cX2_empty 6 = .ok (.iload_n 1, 1) := by decide +kernel
theorem dX2_empty_7 : decode cX2_empty 7 = .ok (.putfield 25, 3) := by decide +kernel
theorem dX2_empty_10 : decode cX2_empty 10 = .ok (.aload_n 0, 1) := by decide +kernel
theorem dX2_empty_11 : decode cX2_empty 11 = .ok (.iconst 0, 1) := by decide +kernel
theorem dX2_empty_12 : decode cX2_empty 12 = .ok (.putfield 29, 3) := by decide +kernel
theorem dX2_empty_15 : decode cX2_empty 15 = .ok (.aload_n 0, 1) := by decide +kernel
theorem dX2_empty_16 : decode cX2_empty 16 = .ok (.iconst 0, 1) := by decide +kernel
theorem dX2_empty_17 : decode cX2_empty 17 = .ok (.putfield 32, 3) := by decide +kernel
theorem dX2_empty_20 : decode cX2_empty 20 = .ok (.aload_n 0, 1) := by decide +kernel
theorem dX2_empty_21 : decode cX2_empty 21 = .ok (.getfield 15, 3) := by decide +kernel
theorem dX2_empty_24 : decode cX2_empty 24 = .ok (.iconst (-1), 1) := by decide +kernel
theorem dX2_empty_25 : decode cX2_empty 25 = .ok (.invokestatic 35, 3) := by decide +kernel
theorem dX2_empty_28 : decode cX2_empty 28 = .ok (.aload_n 0, 1) := by decide +kernel
theorem dX2_empty_29 : decode cX2_empty 29 = .ok (.getfield 18, 3) := by decide +kernel
theorem dX2_empty_32 : decode cX2_empty 32 = .ok (.iconst 0, 1) := by decide +kernel
theorem dX2_empty_33 : decode cX2_empty 33 = .ok (.invokestatic 35, 3) := by decide +kernel
theorem dX2_empty_36 : decode cX2_empty 36 = .ok (.return_, 1) := by decide +kernel
theorem dX2_copyFrom_0 : decode cX2_copyFrom 0 = .ok (.aload_n 0, 1) := by decide +kernel
theorem dX2_copyFrom_1 : decode cX2_copyFrom 1 = .ok (.getfield 41, 3) := by decide +kernel
theorem dX2_copyFrom_4 : decode cX2_copyFrom 4 = .ok (.aload_n 1, 1) := by decide +kernel
theorem dX2_copyFrom_5 : decode cX2_copyFrom 5 = .ok (.getfield 41, 3) := by decide +kernel
theorem dX2_copyFrom_8 : decode cX2_copyFrom 8 = .ok (.if_icmp .le 19, 3) := by decide +kernel
theorem dX2_copyFrom_11 : decode cX2_copyFrom 11 = .ok (.aload_n 0, 1) := by decide +kernel
theorem dX2_copyFrom_12 : decode cX2_copyFrom 12 = .ok (.getfield 9, 3) := by decide +kernel
theorem dX2_copyFrom_15 : decode cX2_copyFrom 15 = .ok (.aload_n 1, 1) := by decide +kernel
theorem dX2_copyFrom_16 : decode cX2_copyFrom 16 = .ok (.getfield 41, 3) := by decide +kernel
theorem dX2_copyFrom_19 : decode cX2_copyFrom 19 = .ok (.aload_n 0, 1) := by decide +kernel
theorem dX2_copyFrom_20 : decode cX2_copyFrom 20 = .ok (.getfield 41, 3) := by decide +kernel
theorem dX2_copyFrom_23 : decode cX2_copyFrom 23 = .ok (.iconst 0, 1) := by decide +kernel
theorem dX2_copyFrom_24 : decode cX2_copyFrom 24 = .ok (.invokestatic 44, 3) := by decide +kernel
theorem dX2_copyFrom_27 : decode cX2_copyFrom 27 = .ok (.aload_n 1, 1) := by decide +kernel
theorem dX2_copyFrom_28 : decode cX2_copyFrom 28 = .ok (.getfield 9, 3) := by decide +kernel
theorem dX2_copyFrom_31 : decode cX2_copyFrom 31 = .ok (.iconst 0, 1) := by decide +kernel
theorem dX2_copyFrom_32 : decode cX2_copyFrom 32 = .ok (.aload_n 0, 1) := by decide +kernel
theorem dX2_copyFrom_33 : decode cX2_copyFrom 33 = .ok (.getfield 9, 3) := by decide +kernel
theorem dX2_copyFrom_36 : decode cX2_copyFrom 36 = .ok (.iconst 0, 1) := by decide +kernel
theorem dX2_copyFrom_37 : decode cX2_copyFrom 37 = .ok (.aload_n 1, 1) := by decide +kernel
theorem dX2_copyFrom_38 : decode cX2_copyFrom 38 = .ok (.getfield 41, 3) := by decide +kernel
theorem dX2_copyFrom_41 : decode cX2_copyFrom 41 = .ok (.invokestatic 47, 3) := by decide +kernel
theorem dX2_copyFrom_44 : decode cX2_copyFrom 44 = .ok (.aload_n 1, 1) := by decide +kernel
theorem dX2_copyFrom_45 : decode cX2_copyFrom 45 = .ok (.getfield 15, 3) := by decide +kernel
theorem dX2_copyFrom_48 : decode cX2_copyFrom 48 = .ok (.iconst 0, 1) := by decide +kernel
theorem dX2_copyFrom_49 : decode cX2_copyFrom 49 = .ok (.aload_n 0, 1) := by decide +kernel
theorem dX2_copyFrom_50 : decode cX2_copyFrom 50 = .ok (.getfield 15, 3) := by decide +kernel
theorem dX2_copyFrom_53 : decode cX2_copyFrom 53 = .ok (.iconst 0, 1) := by decide +kernel
theorem dX2_copyFrom_54 : decode cX2_copyFrom 54 = .ok (.sipush 500, 3) := by decide +kernel
theorem dX2_copyFrom_57 : decode cX2_copyFrom 57 = .ok (.invokestatic 47, 3) := by decide +kernel
theorem dX2_copyFrom_60 : decode cX2_copyFrom 60 = .ok (.aload_n 1, 1) := by decide +kernel
theorem dX2_copyFrom_61 : decode cX2_copyFrom 61 = .ok (.getfield 18, 3) := by decide +kernel
theorem dX2_copyFrom_64 : decode cX2_copyFrom 64 = .ok (.iconst 0, 1) := by decide +kernel
theorem dX2_copyFrom_65 : decode cX2_copyFrom 65 = .ok (.aload_n 0, 1) := by decide +kernel
theorem dX2_copyFrom_66 : decode cX2_copyFrom 66 = .ok (.getfield 18, 3) := by decide +kernel
theorem dX2_copyFrom_69 : decode cX2_copyFrom 69 = .ok (.iconst 0, 1) := by decide +kernel
theorem dX2_copyFrom_70 : decode cX2_copyFrom 70 = .ok (.sipush 500, 3) := by decide +kernel
theorem dX2_copyFrom_73 : decode cX2_copyFrom 73 = .ok (.invokestatic 47, 3) := by decide +kernel
theorem dX2_copyFrom_76 : decode cX2_copyFrom 76 = .ok (.aload_n 0, 1) := by decide +kernel
theorem dX2_copyFrom_77 : decode cX2_copyFrom 77 = .ok (.aload_n 1, 1) := by decide +kernel
theorem dX2_copyFrom_78 : decode cX2_copyFrom 78 = .ok (.getfield 25, 3) := by decide +kernel
theorem dX2_copyFrom_81 : decode cX2_copyFrom 81 = .ok (.putfield 25, 3) := by decide +kernel
theorem dX2_copyFrom_84 : decode cX2_copyFrom 84 = .ok (.aload_n 0, 1) := by decide +kernel
theorem dX2_copyFrom_85 : decode cX2_copyFrom 85 = .ok (.aload_n 1, 1) := by decide +kernel
theorem dX2_copyFrom_86 : decode cX2_copyFrom 86 = .ok (.getfield 41, 3) := by decide +kernel
theorem dX2_copyFrom_89 : decode cX2_copyFrom 89 = .ok (.putfield 41, 3) := by decide +kernel
theorem dX2_copyFrom_92 : decode cX2_copyFrom 92 = .ok (.aload_n 0, 1) := by decide +kernel
theorem dX2_copyFrom_93 : decode cX2_copyFrom 93 = .ok (.aload_n 1, 1) := by decide +kernel
theorem dX2_copyFrom_94 : decode cX2_copyFrom 94 = .ok (.getfield 29, 3) := by decide +kernel
theorem dX2_copyFrom_97 : decode cX2_copyFrom 97 = .ok (.putfield 29, 3) := by decide +kernel
theorem dX2_copyFrom_100 : decode cX2_copyFrom 100 = .ok (.aload_n 0, 1) := by decide +kernel
theorem dX2_copyFrom_101 : decode cX2_copyFrom 101 = .ok (.aload_n 1, 1) := by decide +kernel
theorem dX2_copyFrom_102 : decode cX2_copyFrom 102 = .ok (.getfield 32, 3) := by decide +kernel
theorem dX2_copyFrom_105 : decode cX2_copyFrom 105 = .ok (.putfield 32, 3) := by decide +kernel
theorem dX2_copyFrom_108 : decode cX2_copyFrom 108 = .ok (.return_, 1) := by decide +kernel
theorem dX2_isCounted_0 : decode cX2_isCounted 0 = .ok (.iload_n 0, 1) := by decide +kernel
theorem dX2_isCounted_1 : decode cX2_isCounted 1 = .ok (.iconst 1, 1) := by decide +kernel
theorem dX2_isCounted_2 : decode cX2_isCounted 2 = .ok (.if_icmp .eq 13, 3) := by decide +kernel
theorem dX2_isCounted_5 : decode cX2_isCounted 5 = .ok (.iload_n 0, 1) := by decide +kernel
theorem dX2_isCounted_6 : decode cX2_isCounted 6 = .ok (.iconst 2, 1) := by decide +kernel
theorem dX2_isCounted_7 : decode cX2_isCounted 7 = .ok (.if_icmp .eq 8, 3) := by decide +kernel
theorem dX2_isCounted_10 : decode cX2_isCounted 10 = .ok (.iload_n 0, 1) := by decide +kernel
theorem dX2_isCounted_11 : decode cX2_isCounted 11 = .ok (.iconst 5, 1) := by decide +kernel
theorem dX2_isCounted_12 : decode cX2_isCounted 12 = .ok (.if_icmp .ne 7, 3) := by decide +kernel
theorem dX2_isCounted_15 : decode cX2_isCounted 15 = .ok (.iconst 1, 1) := by decide +kernel
theorem dX2_isCounted_16 : decode cX2_isCounted 16 = .ok (.goto 4, 3) := by decide +kernel
theorem dX2_isCounted_19 : decode cX2_isCounted 19 = .ok (.iconst 0, 1) := by decide +kernel
theorem dX2_isCounted_20 : decode cX2_isCounted 20 = .ok (.ireturn, 1) := by decide +kernel
theorem dX2_intsFor_0 : decode cX2_intsFor 0 = .ok (.iload_n 0, 1) := by decide +kernel
theorem dX2_intsFor_1 : decode cX2_intsFor 1 = .ok (.tableswitch 55 1 5 #[35, 45, 55, 53, 39], 35) := by decide +kernel
theorem dX2_intsFor_36 : decode cX2_intsFor 36 = .ok (.iconst 2, 1) := by decide +kernel
theorem dX2_intsFor_37 : decode cX2_intsFor 37 = .ok (.iload_n 1, 1) := by decide +kernel
theorem dX2_intsFor_38 : decode cX2_intsFor 38 = .ok (.iadd, 1) := by decide +kernel
theorem dX2_intsFor_39 : decode cX2_intsFor 39 = .ok (.ireturn, 1) := by decide +kernel
theorem dX2_intsFor_40 : decode cX2_intsFor 40 = .ok (.iconst 2, 1) := by decide +kernel
theorem dX2_intsFor_41 : decode cX2_intsFor 41 = .ok (.iconst 2, 1) := by decide +kernel
theorem dX2_intsFor_42 : decode cX2_intsFor 42 = .ok (.iload_n 1, 1) := by decide +kernel
theorem dX2_intsFor_43 : decode cX2_intsFor 43 = .ok (.imul, 1) := by decide +kernel
theorem dX2_intsFor_44 : decode cX2_intsFor 44 = .ok (.iadd, 1) := by decide +kernel
theorem dX2_intsFor_45 : decode cX2_intsFor 45 = .ok (.ireturn, 1) := by decide +kernel
theorem dX2_intsFor_46 : decode cX2_intsFor 46 = .ok (.iconst 2, 1) := by decide +kernel
theorem dX2_intsFor_47 : decode cX2_intsFor 47 = .ok (.iload_n 1, 1) := by decide +kernel
theorem dX2_intsFor_48 : decode cX2_intsFor 48 = .ok (.iconst 3, 1) := by decide +kernel
theorem dX2_intsFor_49 : decode cX2_intsFor 49 = .ok (.iadd, 1) := by decide +kernel
theorem dX2_intsFor_50 : decode cX2_intsFor 50 = .ok (.iconst 4, 1) := by decide +kernel
theorem dX2_intsFor_51 : decode cX2_intsFor 51 = .ok (.idiv, 1) := by decide +kernel
theorem dX2_intsFor_52 : decode cX2_intsFor 52 = .ok (.iadd, 1) := by decide +kernel
theorem dX2_intsFor_53 : decode cX2_intsFor 53 = .ok (.ireturn, 1) := by decide +kernel
theorem dX2_intsFor_54 : decode cX2_intsFor 54 = .ok (.iconst 4, 1) := by decide +kernel
theorem dX2_intsFor_55 : decode cX2_intsFor 55 = .ok (.ireturn, 1) := by decide +kernel
theorem dX2_intsFor_56 : decode cX2_intsFor 56 = .ok (.iconst 3, 1) := by decide +kernel
theorem dX2_intsFor_57 : decode cX2_intsFor 57 = .ok (.ireturn, 1) := by decide +kernel
theorem dX2_wasMade_0 : decode cX2_wasMade 0 = .ok (.iload_n 1, 1) := by decide +kernel
theorem dX2_wasMade_1 : decode cX2_wasMade 1 = .ok (.ifCond .lt 15, 3) := by decide +kernel
theorem dX2_wasMade_4 : decode cX2_wasMade 4 = .ok (.iload_n 1, 1) := by decide +kernel
theorem dX2_wasMade_5 : decode cX2_wasMade 5 = .ok (.aload_n 0, 1) := by decide +kernel
theorem dX2_wasMade_6 : decode cX2_wasMade 6 = .ok (.getfield 29, 3) := by decide +kernel
theorem dX2_wasMade_9 : decode cX2_wasMade 9 = .ok (.if_icmp .ge 7, 3) := by decide +kernel
theorem dX2_wasMade_12 : decode cX2_wasMade 12 = .ok (.iconst 1, 1) := by decide +kernel
theorem dX2_wasMade_13 : decode cX2_wasMade 13 = .ok (.goto 4, 3) := by decide +kernel
theorem dX2_wasMade_16 : decode cX2_wasMade 16 = .ok (.iconst 0, 1) := by decide +kernel
theorem dX2_wasMade_17 : decode cX2_wasMade 17 = .ok (.ireturn, 1) := by decide +kernel
theorem dX2_has_0 : decode cX2_has 0 = .ok (.iload_n 1, 1) := by decide +kernel
theorem dX2_has_1 : decode cX2_has 1 = .ok (.ifCond .lt 24, 3) := by decide +kernel
theorem dX2_has_4 : decode cX2_has 4 = .ok (.iload_n 1, 1) := by decide +kernel
theorem dX2_has_5 : decode cX2_has 5 = .ok (.aload_n 0, 1) := by decide +kernel
theorem dX2_has_6 : decode cX2_has 6 = .ok (.getfield 29, 3) := by decide +kernel
theorem dX2_has_9 : decode cX2_has 9 = .ok (.if_icmp .ge 16, 3) := by decide +kernel
theorem dX2_has_12 : decode cX2_has 12 = .ok (.aload_n 0, 1) := by decide +kernel
theorem dX2_has_13 : decode cX2_has 13 = .ok (.getfield 15, 3) := by decide +kernel
theorem dX2_has_16 : decode cX2_has 16 = .ok (.iload_n 1, 1) := by decide +kernel
theorem dX2_has_17 : decode cX2_has 17 = .ok (.iaload, 1) := by decide +kernel
theorem dX2_has_18 : decode cX2_has 18 = .ok (.ifCond .lt 7, 3) := by decide +kernel
theorem dX2_has_21 : decode cX2_has 21 = .ok (.iconst 1, 1) := by decide +kernel
theorem dX2_has_22 : decode cX2_has 22 = .ok (.goto 4, 3) := by decide +kernel
theorem dX2_has_25 : decode cX2_has 25 = .ok (.iconst 0, 1) := by decide +kernel
theorem dX2_has_26 : decode cX2_has 26 = .ok (.ireturn, 1) := by decide +kernel
theorem dX2_free_0 : decode cX2_free 0 = .ok (.aload_n 0, 1) := by decide +kernel
theorem dX2_free_1 : decode cX2_free 1 = .ok (.getfield 25, 3) := by decide +kernel
theorem dX2_free_4 : decode cX2_free 4 = .ok (.aload_n 0, 1) := by decide +kernel
theorem dX2_free_5 : decode cX2_free 5 = .ok (.getfield 41, 3) := by decide +kernel
theorem dX2_free_8 : decode cX2_free 8 = .ok (.isub, 1) := by decide +kernel
theorem dX2_free_9 : decode cX2_free 9 = .ok (.ireturn, 1) := by decide +kernel
theorem dX2_kindOf_0 : decode cX2_kindOf 0 = .ok (.aload_n 0, 1) := by decide +kernel
theorem dX2_kindOf_1 : decode cX2_kindOf 1 = .ok (.getfield 9, 3) := by decide +kernel
theorem dX2_kindOf_4 : decode cX2_kindOf 4 = .ok (.aload_n 0, 1) := by decide +kernel
theorem dX2_kindOf_5 : decode cX2_kindOf 5 = .ok (.getfield 15, 3) := by decide +kernel
theorem dX2_kindOf_8 : decode cX2_kindOf 8 = .ok (.iload_n 1, 1) := by decide +kernel
theorem dX2_kindOf_9 : decode cX2_kindOf 9 = .ok (.iaload, 1) := by decide +kernel
theorem dX2_kindOf_10 : decode cX2_kindOf 10 = .ok (.iaload, 1) := by decide +kernel
theorem dX2_kindOf_11 : decode cX2_kindOf 11 = .ok (.bipush 7, 2) := by decide +kernel
theorem dX2_kindOf_13 : decode cX2_kindOf 13 = .ok (.iand, 1) := by decide +kernel
theorem dX2_kindOf_14 : decode cX2_kindOf 14 = .ok (.ireturn, 1) := by decide +kernel
theorem dX2_isA_0 : decode cX2_isA 0 = .ok (.getstatic 53, 3) := by decide +kernel
theorem dX2_isA_3 : decode cX2_isA 3 = .ok (.iload_n 1, 1) := by decide +kernel
theorem dX2_isA_4 : decode cX2_isA 4 = .ok (.iaload, 1) := by decide +kernel
theorem dX2_isA_5 : decode cX2_isA 5 = .ok (.aload_n 0, 1) := by decide +kernel
theorem dX2_isA_6 : decode cX2_isA 6 = .ok (.getfield 9, 3) := by decide +kernel
theorem dX2_isA_9 : decode cX2_isA 9 = .ok (.aload_n 0, 1) := by decide +kernel
theorem dX2_isA_10 : decode cX2_isA 10 = .ok (.getfield 15, 3) := by decide +kernel
theorem dX2_isA_13 : decode cX2_isA 13 = .ok (.iload_n 2, 1) := by decide +kernel
theorem dX2_isA_14 : decode cX2_isA 14 = .ok (.iaload, 1) := by decide +kernel
theorem dX2_isA_15 : decode cX2_isA 15 = .ok (.iaload, 1) := by decide +kernel
theorem dX2_isA_16 : decode cX2_isA 16 = .ok (.bipush 7, 2) := by decide +kernel
theorem dX2_isA_18 : decode cX2_isA 18 = .ok (.iand, 1) := by decide +kernel
theorem dX2_isA_19 : decode cX2_isA 19 = .ok (.ishr, 1) := by decide +kernel
theorem dX2_isA_20 : decode cX2_isA 20 = .ok (.iconst 1, 1) := by decide +kernel
theorem dX2_isA_21 : decode cX2_isA 21 = .ok (.iand, 1) := by decide +kernel
theorem dX2_isA_22 : decode cX2_isA 22 = .ok (.iconst 1, 1) := by decide +kernel
theorem dX2_isA_23 : decode cX2_isA 23 = .ok (.if_icmp .ne 7, 3) := by decide +kernel
theorem dX2_isA_26 : decode cX2_isA 26 = .ok (.iconst 1, 1) := by decide +kernel
theorem dX2_isA_27 : decode cX2_isA 27 = .ok (.goto 4, 3) := by decide +kernel
theorem dX2_isA_30 : decode cX2_isA 30 = .ok (.iconst 0, 1) := by decide +kernel
theorem dX2_isA_31 : decode cX2_isA 31 = .ok (.ireturn, 1) := by decide +kernel
theorem dX2_countOf_0 : decode cX2_countOf 0 = .ok (.aload_n 0, 1) := by decide +kernel
theorem dX2_countOf_1 : decode cX2_countOf 1 = .ok (.getfield 9, 3) := by decide +kernel
theorem dX2_countOf_4 : decode cX2_countOf 4 = .ok (.aload_n 0, 1) := by decide +kernel
theorem dX2_countOf_5 : decode cX2_countOf 5 = .ok (.getfield 15, 3) := by decide +kernel
theorem dX2_countOf_8 : decode cX2_countOf 8 = .ok (.iload_n 1, 1) := by decide +kernel
theorem dX2_countOf_9 : decode cX2_countOf 9 = .ok (.iaload, 1) := by decide +kernel
theorem dX2_countOf_10 : decode cX2_countOf 10 = .ok (.iconst 1, 1) := by decide +kernel
theorem dX2_countOf_11 : decode cX2_countOf 11 = .ok (.iadd, 1) := by decide +kernel
theorem dX2_countOf_12 : decode cX2_countOf 12 = .ok (.iaload, 1) := by decide +kernel
theorem dX2_countOf_13 : decode cX2_countOf 13 = .ok (.ireturn, 1) := by decide +kernel
theorem dX2_intsOf_0 : decode cX2_intsOf 0 = .ok (.aload_n 0, 1) := by decide +kernel
theorem dX2_intsOf_1 : decode cX2_intsOf 1 = .ok (.iload_n 1, 1) := by decide +kernel
theorem dX2_intsOf_2 : decode cX2_intsOf 2 = .ok (.invokevirtual 56, 3) := by decide +kernel
theorem dX2_intsOf_5 : decode cX2_intsOf 5 = .ok (.istore_n 2, 1) := by decide +kernel
theorem dX2_intsOf_6 : decode cX2_intsOf 6 = .ok (.iload_n 2, 1) := by decide +kernel
theorem dX2_intsOf_7 : decode cX2_intsOf 7 = .ok (.iload_n 2, 1) := by decide +kernel
theorem dX2_intsOf_8 : decode cX2_intsOf 8 = .ok (.invokestatic 60, 3) := by decide +kernel
theorem dX2_intsOf_11 : decode cX2_intsOf 11 = .ok (.ifCond .eq 11, 3) := by decide +kernel
theorem dX2_intsOf_14 : decode cX2_intsOf 14 = .ok (.aload_n 0, 1) := by decide +kernel
theorem dX2_intsOf_15 : decode cX2_intsOf 15 = .ok (.iload_n 1, 1) := by decide +kernel
theorem dX2_intsOf_16 : decode cX2_intsOf 16 = .ok (.invokevirtual 64, 3) := by decide +kernel
theorem dX2_intsOf_19 : decode cX2_intsOf 19 = .ok (.goto 4, 3) := by decide +kernel
theorem dX2_intsOf_22 : decode cX2_intsOf 22 = .ok (.iconst 0, 1) := by decide +kernel
theorem dX2_intsOf_23 : decode cX2_intsOf 23 = .ok (.invokestatic 67, 3) := by decide +kernel
theorem dX2_intsOf_26 : decode cX2_intsOf 26 = .ok (.ireturn, 1) := by decide +kernel
theorem dX2_linksOf_0 : decode cX2_linksOf 0 = .ok (.aload_n 0, 1) := by decide +kernel
theorem dX2_linksOf_1 : decode cX2_linksOf 1 = .ok (.getfield 9, 3) := by decide +kernel
theorem dX2_linksOf_4 : decode cX2_linksOf 4 = .ok (.aload_n 0, 1) := by decide +kernel
theorem dX2_linksOf_5 : decode cX2_linksOf 5 = .ok (.getfield 15, 3) := by decide +kernel
theorem dX2_linksOf_8 : decode cX2_linksOf 8 = .ok (.iload_n 1, 1) := by decide +kernel
theorem dX2_linksOf_9 : decode cX2_linksOf 9 = .ok (.iaload, 1) := by decide +kernel
theorem dX2_linksOf_10 : decode cX2_linksOf 10 = .ok (.iaload, 1) := by decide +kernel
theorem dX2_linksOf_11 : decode cX2_linksOf 11 = .ok (.bipush 7, 2) := by decide +kernel
theorem dX2_linksOf_13 : decode cX2_linksOf 13 = .ok (.iand, 1) := by decide +kernel
theorem dX2_linksOf_14 : decode cX2_linksOf 14 = .ok (.tableswitch 56 0 5 #[38, 42, 40, 56, 56, 42], 38) := by decide +kernel
theorem dX2_linksOf_52 : decode cX2_linksOf 52 = .ok (.iconst 2, 1) := by decide +kernel
theorem dX2_linksOf_53 : decode cX2_linksOf 53 = .ok (.ireturn, 1) := by decide +kernel
theorem dX2_linksOf_54 : decode cX2_linksOf 54 = .ok (.iconst 0, 1) := by decide +kernel
theorem dX2_linksOf_55 : decode cX2_linksOf 55 = .ok (.ireturn, 1) := by decide +kernel
theorem dX2_linksOf_56 : decode cX2_linksOf 56 = .ok (.aload_n 0, 1) := by decide +kernel
theorem dX2_linksOf_57 : decode cX2_linksOf 57 = .ok (.getfield 9, 3) := by decide +kernel
theorem dX2_linksOf_60 : decode cX2_linksOf 60 = .ok (.aload_n 0, 1) := by decide +kernel
theorem dX2_linksOf_61 : decode cX2_linksOf 61 = .ok (.getfield 15, 3) := by decide +kernel
theorem dX2_linksOf_64 : decode cX2_linksOf 64 = .ok (.iload_n 1, 1) := by decide +kernel
theorem dX2_linksOf_65 : decode cX2_linksOf 65 = .ok (.iaload, 1) := by decide +kernel
theorem dX2_linksOf_66 : decode cX2_linksOf 66 = .ok (.iconst 1, 1) := by decide +kernel
theorem dX2_linksOf_67 : decode cX2_linksOf 67 = .ok (.iadd, 1) := by decide +kernel
theorem dX2_linksOf_68 : decode cX2_linksOf 68 = .ok (.iaload, 1) := by decide +kernel
theorem dX2_linksOf_69 : decode cX2_linksOf 69 = .ok (.ireturn, 1) := by decide +kernel
theorem dX2_linksOf_70 : decode cX2_linksOf 70 = .ok (.iconst 1, 1) := by decide +kernel
theorem dX2_linksOf_71 : decode cX2_linksOf 71 = .ok (.ireturn, 1) := by decide +kernel
theorem dX2_linkPlace_0 : decode cX2_linkPlace 0 = .ok (.aload_n 0, 1) := by decide +kernel
theorem dX2_linkPlace_1 : decode cX2_linkPlace 1 = .ok (.getfield 9, 3) := by decide +kernel
theorem dX2_linkPlace_4 : decode cX2_linkPlace 4 = .ok (.aload_n 0, 1) := by decide +kernel
theorem dX2_linkPlace_5 : decode cX2_linkPlace 5 = .ok (.getfield 15, 3) := by decide +kernel
theorem dX2_linkPlace_8 : decode cX2_linkPlace 8 = .ok (.iload_n 1, 1) := by decide +kernel
theorem dX2_linkPlace_9 : decode cX2_linkPlace 9 = .ok (.iaload, 1) := by decide +kernel
theorem dX2_linkPlace_10 : decode cX2_linkPlace 10 = .ok (.iaload, 1) := by decide +kernel
theorem dX2_linkPlace_11 : decode cX2_linkPlace 11 = .ok (.bipush 7, 2) := by decide +kernel
theorem dX2_linkPlace_13 : decode cX2_linkPlace 13 = .ok (.iand, 1) := by decide +kernel
theorem dX2_linkPlace_14 : decode cX2_linkPlace 14 = .ok (.istore_n 2, 1) := by decide +kernel
theorem dX2_linkPlace_15 : decode cX2_linkPlace 15 = .ok (.aload_n 0, 1) := by decide +kernel
theorem dX2_linkPlace_16 : decode cX2_linkPlace 16 = .ok (.getfield 15, 3) := by decide +kernel
theorem dX2_linkPlace_19 : decode cX2_linkPlace 19 = .ok (.iload_n 1, 1) := by decide +kernel
theorem dX2_linkPlace_20 : decode cX2_linkPlace 20 = .ok (.iaload, 1) := by decide +kernel
theorem dX2_linkPlace_21 : decode cX2_linkPlace 21 = .ok (.iload_n 2, 1) := by decide +kernel
theorem dX2_linkPlace_22 : decode cX2_linkPlace 22 = .ok (.iconst 1, 1) := by decide +kernel
theorem dX2_linkPlace_23 : decode cX2_linkPlace 23 = .ok (.if_icmp .eq 8, 3) := by decide +kernel
theorem dX2_linkPlace_26 : decode cX2_linkPlace 26 = .ok (.iload_n 2, 1) := by decide +kernel
theorem dX2_linkPlace_27 : decode cX2_linkPlace 27 = .ok (.iconst 5, 1) := by decide +kernel
theorem dX2_linkPlace_28 : decode cX2_linkPlace 28 = .ok (.if_icmp .ne 7, 3) := by decide +kernel
theorem dX2_linkPlace_31 : decode cX2_linkPlace 31 = .ok (.iconst 2, 1) := by decide +kernel
theorem dX2_linkPlace_32 : decode cX2_linkPlace 32 = .ok (.goto 4, 3) := by decide +kernel
theorem dX2_linkPlace_35 : decode cX2_linkPlace 35 = .ok (.iconst 1, 1) := by decide +kernel
theorem dX2_linkPlace_36 : decode cX2_linkPlace 36 = .ok (.iadd, 1) := by decide +kernel
theorem dX2_linkPlace_37 : decode cX2_linkPlace 37 = .ok (.ireturn, 1) := by decide +kernel
theorem dX2_weakPlace_0 : decode cX2_weakPlace 0 = .ok (.aload_n 0, 1) := by decide +kernel
theorem dX2_weakPlace_1 : decode cX2_weakPlace 1 = .ok (.getfield 15, 3) := by decide +kernel
theorem dX2_weakPlace_4 : decode cX2_weakPlace 4 = .ok (.iload_n 1, 1) := by decide +kernel
theorem dX2_weakPlace_5 : decode cX2_weakPlace 5 = .ok (.iaload, 1) := by decide +kernel
theorem dX2_weakPlace_6 : decode cX2_weakPlace 6 = .ok (.iconst 2, 1) := by decide +kernel
theorem dX2_weakPlace_7 : decode cX2_weakPlace 7 = .ok (.iadd, 1) := by decide +kernel
theorem dX2_weakPlace_8 : decode cX2_weakPlace 8 = .ok (.ireturn, 1) := by decide +kernel
theorem dX2_numberOf_0 : decode cX2_numberOf 0 = .ok (.aload_n 0, 1) := by decide +kernel
theorem dX2_numberOf_1 : decode cX2_numberOf 1 = .ok (.getfield 9, 3) := by decide +kernel
theorem dX2_numberOf_4 : decode cX2_numberOf 4 = .ok (.aload_n 0, 1) := by decide +kernel
theorem dX2_numberOf_5 : decode cX2_numberOf 5 = .ok (.getfield 15, 3) := by decide +kernel
theorem dX2_numberOf_8 : decode cX2_numberOf 8 = .ok (.iload_n 1, 1) := by decide +kernel
theorem dX2_numberOf_9 : decode cX2_numberOf 9 = .ok (.iaload, 1) := by decide +kernel
theorem dX2_numberOf_10 : decode cX2_numberOf 10 = .ok (.iconst 3, 1) := by decide +kernel
theorem dX2_numberOf_11 : decode cX2_numberOf 11 = .ok (.iadd, 1) := by decide +kernel
theorem dX2_numberOf_12 : decode cX2_numberOf 12 = .ok (.iaload, 1) := by decide +kernel
theorem dX2_numberOf_13 : decode cX2_numberOf 13 = .ok (.ireturn, 1) := by decide +kernel
theorem dX2_swapNumber_0 : decode cX2_swapNumber 0 = .ok (.aload_n 0, 1) := by decide +kernel
theorem dX2_swapNumber_1 : decode cX2_swapNumber 1 = .ok (.getfield 9, 3) := by decide +kernel
theorem dX2_swapNumber_4 : decode cX2_swapNumber 4 = .ok (.aload_n 0, 1) := by decide +kernel
theorem dX2_swapNumber_5 : decode cX2_swapNumber 5 = .ok (.getfield 15, 3) := by decide +kernel
theorem dX2_swapNumber_8 : decode cX2_swapNumber 8 = .ok (.iload_n 1, 1) := by decide +kernel
theorem dX2_swapNumber_9 : decode cX2_swapNumber 9 = .ok (.iaload, 1) := by decide +kernel
theorem dX2_swapNumber_10 : decode cX2_swapNumber 10 = .ok (.iconst 3, 1) := by decide +kernel
theorem dX2_swapNumber_11 : decode cX2_swapNumber 11 = .ok (.iadd, 1) := by decide +kernel
theorem dX2_swapNumber_12 : decode cX2_swapNumber 12 = .ok (.iaload, 1) := by decide +kernel
theorem dX2_swapNumber_13 : decode cX2_swapNumber 13 = .ok (.istore_n 3, 1) := by decide +kernel
theorem dX2_swapNumber_14 : decode cX2_swapNumber 14 = .ok (.aload_n 0, 1) := by decide +kernel
theorem dX2_swapNumber_15 : decode cX2_swapNumber 15 = .ok (.getfield 9, 3) := by decide +kernel
theorem dX2_swapNumber_18 : decode cX2_swapNumber 18 = .ok (.aload_n 0, 1) := by decide +kernel
theorem dX2_swapNumber_19 : decode cX2_swapNumber 19 = .ok (.getfield 15, 3) := by decide +kernel
theorem dX2_swapNumber_22 : decode cX2_swapNumber 22 = .ok (.iload_n 1, 1) := by decide +kernel
theorem dX2_swapNumber_23 : decode cX2_swapNumber 23 = .ok (.iaload, 1) := by decide +kernel
theorem dX2_swapNumber_24 : decode cX2_swapNumber 24 = .ok (.iconst 3, 1) := by decide +kernel
theorem dX2_swapNumber_25 : decode cX2_swapNumber 25 = .ok (.iadd, 1) := by decide +kernel
theorem dX2_swapNumber_26 : decode cX2_swapNumber 26 = .ok (.iload_n 2, 1) := by decide +kernel
theorem dX2_swapNumber_27 : decode cX2_swapNumber 27 = .ok (.iastore, 1) := by decide +kernel
theorem dX2_swapNumber_28 : decode cX2_swapNumber 28 = .ok (.iload_n 3, 1) := by decide +kernel
theorem dX2_swapNumber_29 : decode cX2_swapNumber 29 = .ok (.ireturn, 1) := by decide +kernel
theorem dX2_addCell_0 : decode cX2_addCell 0 = .ok (.aload_n 0, 1) := by decide +kernel
theorem dX2_addCell_1 : decode cX2_addCell 1 = .ok (.getfield 29, 3) := by decide +kernel
theorem dX2_addCell_4 : decode cX2_addCell 4 = .ok (.istore_n 3, 1) := by decide +kernel
theorem dX2_addCell_5 : decode cX2_addCell 5 = .ok (.aload_n 0, 1) := by decide +kernel
theorem dX2_addCell_6 : decode cX2_addCell 6 = .ok (.getfield 9, 3) := by decide +kernel
theorem dX2_addCell_9 : decode cX2_addCell 9 = .ok (.aload_n 0, 1) := by decide +kernel
theorem dX2_addCell_10 : decode cX2_addCell 10 = .ok (.getfield 41, 3) := by decide +kernel
theorem dX2_addCell_13 : decode cX2_addCell 13 = .ok (.iload_n 3, 1) := by decide +kernel
theorem dX2_addCell_14 : decode cX2_addCell 14 = .ok (.bipush 8, 2) := by decide +kernel
theorem dX2_addCell_16 : decode cX2_addCell 16 = .ok (.imul, 1) := by decide +kernel
theorem dX2_addCell_17 : decode cX2_addCell 17 = .ok (.iload_n 1, 1) := by decide +kernel
theorem dX2_addCell_18 : decode cX2_addCell 18 = .ok (.iadd, 1) := by decide +kernel
theorem dX2_addCell_19 : decode cX2_addCell 19 = .ok (.iastore, 1) := by decide +kernel
theorem dX2_addCell_20 : decode cX2_addCell 20 = .ok (.iload_n 1, 1) := by decide +kernel
theorem dX2_addCell_21 : decode cX2_addCell 21 = .ok (.invokestatic 60, 3) := by decide +kernel
theorem dX2_addCell_24 : decode cX2_addCell 24 = .ok (.ifCond .ne 26, 3) := by decide +kernel
theorem dX2_addCell_27 : decode cX2_addCell 27 = .ok (.aload_n 0, 1) := by decide +kernel
theorem dX2_addCell_28 : decode cX2_addCell 28 = .ok (.getfield 9, 3) := by decide +kernel
theorem dX2_addCell_31 : decode cX2_addCell 31 = .ok (.aload_n 0, 1) := by decide +kernel
theorem dX2_addCell_32 : decode cX2_addCell 32 = .ok (.getfield 41, 3) := by decide +kernel
theorem dX2_addCell_35 : decode cX2_addCell 35 = .ok (.iconst 1, 1) := by decide +kernel
theorem dX2_addCell_36 : decode cX2_addCell 36 = .ok (.iadd, 1) := by decide +kernel
theorem dX2_addCell_37 : decode cX2_addCell 37 = .ok (.aload_n 0, 1) := by decide +kernel
theorem dX2_addCell_38 : decode cX2_addCell 38 = .ok (.getfield 41, 3) := by decide +kernel
theorem dX2_addCell_41 : decode cX2_addCell 41 = .ok (.iconst 3, 1) := by decide +kernel
theorem dX2_addCell_42 : decode cX2_addCell 42 = .ok (.iadd, 1) := by decide +kernel
theorem dX2_addCell_43 : decode cX2_addCell 43 = .ok (.iconst (-1), 1) := by decide +kernel
theorem dX2_addCell_44 : decode cX2_addCell 44 = .ok (.invokestatic 44, 3) := by decide +kernel
theorem dX2_addCell_47 : decode cX2_addCell 47 = .ok (.goto 42, 3) := by decide +kernel
theorem dX2_addCell_50 : decode cX2_addCell 50 = .ok (.aload_n 0, 1) := by decide +kernel
theorem dX2_addCell_51 : decode cX2_addCell 51 = .ok (.getfield 9, 3) := by decide +kernel
theorem dX2_addCell_54 : decode cX2_addCell 54 = .ok (.aload_n 0, 1) := by decide +kernel
theorem dX2_addCell_55 : decode cX2_addCell 55 = .ok (.getfield 41, 3) := by decide +kernel
theorem dX2_addCell_58 : decode cX2_addCell 58 = .ok (.iconst 1, 1) := by decide +kernel
theorem dX2_addCell_59 : decode cX2_addCell 59 = .ok (.iadd, 1) := by decide +kernel
theorem dX2_addCell_60 : decode cX2_addCell 60 = .ok (.iload_n 2, 1) := by decide +kernel
theorem dX2_addCell_61 : decode cX2_addCell 61 = .ok (.iastore, 1) := by decide +kernel
theorem dX2_addCell_62 : decode cX2_addCell 62 = .ok (.iload_n 1, 1) := by decide +kernel
theorem dX2_addCell_63 : decode cX2_addCell 63 = .ok (.iconst 2, 1) := by decide +kernel
theorem dX2_addCell_64 : decode cX2_addCell 64 = .ok (.if_icmp .eq 25, 3) := by decide +kernel
theorem dX2_addCell_67 : decode cX2_addCell 67 = .ok (.aload_n 0, 1) := by decide +kernel
theorem dX2_addCell_68 : decode cX2_addCell 68 = .ok (.getfield 9, 3) := by decide +kernel
theorem dX2_addCell_71 : decode cX2_addCell 71 = .ok (.aload_n 0, 1) := by decide +kernel
theorem dX2_addCell_72 : decode cX2_addCell 72 = .ok (.getfield 41, 3) := by decide +kernel
theorem dX2_addCell_75 : decode cX2_addCell 75 = .ok (.iconst 2, 1) := by decide +kernel
theorem dX2_addCell_76 : decode cX2_addCell 76 = .ok (.iadd, 1) := by decide +kernel
theorem dX2_addCell_77 : decode cX2_addCell 77 = .ok (.aload_n 0, 1) := by decide +kernel
theorem dX2_addCell_78 : decode cX2_addCell 78 = .ok (.getfield 41, 3) := by decide +kernel
theorem dX2_addCell_81 : decode cX2_addCell 81 = .ok (.iconst 2, 1) := by decide +kernel
theorem dX2_addCell_82 : decode cX2_addCell 82 = .ok (.iadd, 1) := by decide +kernel
theorem dX2_addCell_83 : decode cX2_addCell 83 = .ok (.iload_n 2, 1) := by decide +kernel
theorem dX2_addCell_84 : decode cX2_addCell 84 = .ok (.iadd, 1) := by decide +kernel
theorem dX2_addCell_85 : decode cX2_addCell 85 = .ok (.iconst (-1), 1) := by decide +kernel
theorem dX2_addCell_86 : decode cX2_addCell 86 = .ok (.invokestatic 44, 3) := by decide +kernel
theorem dX2_addCell_89 : decode cX2_addCell 89 = .ok (.aload_n 0, 1) := by decide +kernel
theorem dX2_addCell_90 : decode cX2_addCell 90 = .ok (.getfield 15, 3) := by decide +kernel
theorem dX2_addCell_93 : decode cX2_addCell 93 = .ok (.iload_n 3, 1) := by decide +kernel
theorem dX2_addCell_94 : decode cX2_addCell 94 = .ok (.aload_n 0, 1) := by decide +kernel
theorem dX2_addCell_95 : decode cX2_addCell 95 = .ok (.getfield 41, 3) := by decide +kernel
theorem dX2_addCell_98 : decode cX2_addCell 98 = .ok (.iastore, 1) := by decide +kernel
theorem dX2_addCell_99 : decode cX2_addCell 99 = .ok (.aload_n 0, 1) := by decide +kernel
theorem dX2_addCell_100 : decode cX2_addCell 100 = .ok (.getfield 18, 3) := by decide +kernel
theorem dX2_addCell_103 : decode cX2_addCell 103 = .ok (.iload_n 3, 1) := by decide +kernel
theorem dX2_addCell_104 : decode cX2_addCell 104 = .ok (.iconst 0, 1) := by decide +kernel
theorem dX2_addCell_105 : decode cX2_addCell 105 = .ok (.iastore, 1) := by decide +kernel
theorem dX2_addCell_106 : decode cX2_addCell 106 = .ok (.aload_n 0, 1) := by decide +kernel
theorem dX2_addCell_107 : decode cX2_addCell 107 = .ok (.dup, 1) := by decide +kernel
theorem dX2_addCell_108 : decode cX2_addCell 108 = .ok (.getfield 41, 3) := by decide +kernel
theorem dX2_addCell_111 : decode cX2_addCell 111 = .ok (.iload_n 1, 1) := by decide +kernel
theorem dX2_addCell_112 : decode cX2_addCell 112 = .ok (.iload_n 2, 1) := by decide +kernel
theorem dX2_addCell_113 : decode cX2_addCell 113 = .ok (.invokestatic 67, 3) := by decide +kernel
theorem dX2_addCell_116 : decode cX2_addCell 116 = .ok (.iadd, 1) := by decide +kernel
theorem dX2_addCell_117 : decode cX2_addCell 117 = .ok (.putfield 41, 3) := by decide +kernel
theorem dX2_addCell_120 : decode cX2_addCell 120 = .ok (.aload_n 0, 1) := by decide +kernel
theorem dX2_addCell_121 : decode cX2_addCell 121 = .ok (.dup, 1) := by decide +kernel
theorem dX2_addCell_122 : decode cX2_addCell 122 = .ok (.getfield 29, 3) := by decide +kernel
theorem dX2_addCell_125 : decode cX2_addCell 125 = .ok (.iconst 1, 1) := by decide +kernel
theorem dX2_addCell_126 : decode cX2_addCell 126 = .ok (.iadd, 1) := by decide +kernel
theorem dX2_addCell_127 : decode cX2_addCell 127 = .ok (.putfield 29, 3) := by decide +kernel
theorem dX2_addCell_130 : decode cX2_addCell 130 = .ok (.aload_n 0, 1) := by decide +kernel
theorem dX2_addCell_131 : decode cX2_addCell 131 = .ok (.dup, 1) := by decide +kernel
theorem dX2_addCell_132 : decode cX2_addCell 132 = .ok (.getfield 32, 3) := by decide +kernel
theorem dX2_addCell_135 : decode cX2_addCell 135 = .ok (.iconst 1, 1) := by decide +kernel
theorem dX2_addCell_136 : decode cX2_addCell 136 = .ok (.iadd, 1) := by decide +kernel
theorem dX2_addCell_137 : decode cX2_addCell 137 = .ok (.putfield 32, 3) := by decide +kernel
theorem dX2_addCell_140 : decode cX2_addCell 140 = .ok (.iload_n 3, 1) := by decide +kernel
theorem dX2_addCell_141 : decode cX2_addCell 141 = .ok (.ireturn, 1) := by decide +kernel
theorem dX2_giveBack_0 : decode cX2_giveBack 0 = .ok (.aload_n 0, 1) := by decide +kernel
theorem dX2_giveBack_1 : decode cX2_giveBack 1 = .ok (.getfield 15, 3) := by decide +kernel
theorem dX2_giveBack_4 : decode cX2_giveBack 4 = .ok (.iload_n 1, 1) := by decide +kernel
theorem dX2_giveBack_5 : decode cX2_giveBack 5 = .ok (.iconst (-1), 1) := by decide +kernel
theorem dX2_giveBack_6 : decode cX2_giveBack 6 = .ok (.iastore, 1) := by decide +kernel
theorem dX2_giveBack_7 : decode cX2_giveBack 7 = .ok (.aload_n 0, 1) := by decide +kernel
theorem dX2_giveBack_8 : decode cX2_giveBack 8 = .ok (.dup, 1) := by decide +kernel
theorem dX2_giveBack_9 : decode cX2_giveBack 9 = .ok (.getfield 32, 3) := by decide +kernel
theorem dX2_giveBack_12 : decode cX2_giveBack 12 = .ok (.iconst 1, 1) := by decide +kernel
theorem dX2_giveBack_13 : decode cX2_giveBack 13 = .ok (.isub, 1) := by decide +kernel
theorem dX2_giveBack_14 : decode cX2_giveBack 14 = .ok (.putfield 32, 3) := by decide +kernel
theorem dX2_giveBack_17 : decode cX2_giveBack 17 = .ok (.return_, 1) := by decide +kernel
theorem dX2_slide_0 : decode cX2_slide 0 = .ok (.aload_n 0, 1) := by decide +kernel
theorem dX2_slide_1 : decode cX2_slide 1 = .ok (.getfield 15, 3) := by decide +kernel
theorem dX2_slide_4 : decode cX2_slide 4 = .ok (.iload_n 1, 1) := by decide +kernel
theorem dX2_slide_5 : decode cX2_slide 5 = .ok (.iaload, 1) := by decide +kernel
theorem dX2_slide_6 : decode cX2_slide 6 = .ok (.istore 4, 2) := by decide +kernel
theorem dX2_slide_8 : decode cX2_slide 8 = .ok (.aload_n 0, 1) := by decide +kernel
theorem dX2_slide_9 : decode cX2_slide 9 = .ok (.getfield 18, 3) := by decide +kernel
theorem dX2_slide_12 : decode cX2_slide 12 = .ok (.iload_n 1, 1) := by decide +kernel
theorem dX2_slide_13 : decode cX2_slide 13 = .ok (.iload 4, 2) := by decide +kernel
theorem dX2_slide_15 : decode cX2_slide 15 = .ok (.iload_n 2, 1) := by decide +kernel
theorem dX2_slide_16 : decode cX2_slide 16 = .ok (.isub, 1) := by decide +kernel
theorem dX2_slide_17 : decode cX2_slide 17 = .ok (.iastore, 1) := by decide +kernel
theorem dX2_slide_18 : decode cX2_slide 18 = .ok (.iload 4, 2) := by decide +kernel
theorem dX2_slide_20 : decode cX2_slide 20 = .ok (.iload_n 2, 1) := by decide +kernel
theorem dX2_slide_21 : decode cX2_slide 21 = .ok (.if_icmp .ne 5, 3) := by decide +kernel
theorem dX2_slide_24 : decode cX2_slide 24 = .ok (.iconst 0, 1) := by decide +kernel
theorem dX2_slide_25 : decode cX2_slide 25 = .ok (.ireturn, 1) := by decide +kernel
theorem dX2_slide_26 : decode cX2_slide 26 = .ok (.aload_n 0, 1) := by decide +kernel
theorem dX2_slide_27 : decode cX2_slide 27 = .ok (.getfield 9, 3) := by decide +kernel
theorem dX2_slide_30 : decode cX2_slide 30 = .ok (.iload 4, 2) := by decide +kernel
theorem dX2_slide_32 : decode cX2_slide 32 = .ok (.aload_n 0, 1) := by decide +kernel
theorem dX2_slide_33 : decode cX2_slide 33 = .ok (.getfield 9, 3) := by decide +kernel
theorem dX2_slide_36 : decode cX2_slide 36 = .ok (.iload_n 2, 1) := by decide +kernel
theorem dX2_slide_37 : decode cX2_slide 37 = .ok (.iload_n 3, 1) := by decide +kernel
theorem dX2_slide_38 : decode cX2_slide 38 = .ok (.invokestatic 47, 3) := by decide +kernel
theorem dX2_slide_41 : decode cX2_slide 41 = .ok (.aload_n 0, 1) := by decide +kernel
theorem dX2_slide_42 : decode cX2_slide 42 = .ok (.getfield 15, 3) := by decide +kernel
theorem dX2_slide_45 : decode cX2_slide 45 = .ok (.iload_n 1, 1) := by decide +kernel
theorem dX2_slide_46 : decode cX2_slide 46 = .ok (.iload_n 2, 1) := by decide +kernel
theorem dX2_slide_47 : decode cX2_slide 47 = .ok (.iastore, 1) := by decide +kernel
theorem dX2_slide_48 : decode cX2_slide 48 = .ok (.iconst 1, 1) := by decide +kernel
theorem dX2_slide_49 : decode cX2_slide 49 = .ok (.ireturn, 1) := by decide +kernel
theorem dX2_freeFrom_0 : decode cX2_freeFrom 0 = .ok (.aload_n 0, 1) := by decide +kernel
theorem dX2_freeFrom_1 : decode cX2_freeFrom 1 = .ok (.getfield 9, 3) := by decide +kernel
theorem dX2_freeFrom_4 : decode cX2_freeFrom 4 = .ok (.iload_n 1, 1) := by decide +kernel
theorem dX2_freeFrom_5 : decode cX2_freeFrom 5 = .ok (.aload_n 0, 1) := by decide +kernel
theorem dX2_freeFrom_6 : decode cX2_freeFrom 6 = .ok (.getfield 41, 3) := by decide +kernel
theorem dX2_freeFrom_9 : decode cX2_freeFrom 9 = .ok (.iconst 0, 1) := by decide +kernel
theorem dX2_freeFrom_10 : decode cX2_freeFrom 10 = .ok (.invokestatic 44, 3) := by decide +kernel
theorem dX2_freeFrom_13 : decode cX2_freeFrom 13 = .ok (.aload_n 0, 1) := by decide +kernel
theorem dX2_freeFrom_14 : decode cX2_freeFrom 14 = .ok (.iload_n 1, 1) := by decide +kernel
theorem dX2_freeFrom_15 : decode cX2_freeFrom 15 = .ok (.putfield 41, 3) := by decide +kernel
theorem dX2_freeFrom_18 : decode cX2_freeFrom 18 = .ok (.return_, 1) := by decide +kernel
theorem dX3_init_0 : decode cX3_init 0 = .ok (.aload_n 0, 1) := by decide +kernel
theorem dX3_init_1 : decode cX3_init 1 = .ok (.invokespecial 3, 3) := by decide +kernel
theorem dX3_init_4 : decode cX3_init 4 = .ok (.aload_n 0, 1) := by decide +kernel
theorem dX3_init_5 : decode cX3_init 5 = .ok (.sipush 500, 3) := by decide +kernel
theorem dX3_init_8 : decode cX3_init 8 = .ok (.newarray .int, 2) := by decide +kernel
theorem dX3_init_10 : decode cX3_init 10 = .ok (.putfield 9, 3) := by decide +kernel
theorem dX3_init_13 : decode cX3_init 13 = .ok (.aload_n 0, 1) := by decide +kernel
theorem dX3_init_14 : decode cX3_init 14 = .ok (.sipush 500, 3) := by decide +kernel
theorem dX3_init_17 : decode cX3_init 17 = .ok (.newarray .int, 2) := by decide +kernel
theorem dX3_init_19 : decode cX3_init 19 = .ok (.putfield 15, 3) := by decide +kernel
theorem dX3_init_22 : decode cX3_init 22 = .ok (.aload_n 0, 1) := by decide +kernel
theorem dX3_init_23 : decode cX3_init 23 = .ok (.sipush 500, 3) := by decide +kernel
theorem dX3_init_26 : decode cX3_init 26 = .ok (.newarray .int, 2) := by decide +kernel
theorem dX3_init_28 : decode cX3_init 28 = .ok (.putfield 18, 3) := by decide +kernel
theorem dX3_init_31 : decode cX3_init 31 = .ok (.aload_n 0, 1) := by decide +kernel
theorem dX3_init_32 : decode cX3_init 32 = .ok (.sipush 500, 3) := by decide +kernel
theorem dX3_init_35 : decode cX3_init 35 = .ok (.newarray .int, 2) := by decide +kernel
theorem dX3_init_37 : decode cX3_init 37 = .ok (.putfield 21, 3) := by decide +kernel
theorem dX3_init_40 : decode cX3_init 40 = .ok (.aload_n 0, 1) := by decide +kernel
theorem dX3_init_41 : decode cX3_init 41 = .ok (.sipush 500, 3) := by decide +kernel
theorem dX3_init_44 : decode cX3_init 44 = .ok (.newarray .int, 2) := by decide +kernel
theorem dX3_init_46 : decode cX3_init 46 = .ok (.putfield 24, 3) := by decide +kernel
theorem dX3_init_49 : decode cX3_init 49 = .ok (.return_, 1) := by decide +kernel
theorem dX3_wipe_0 : decode cX3_wipe 0 = .ok (.aload_n 0, 1) := by decide +kernel
theorem dX3_wipe_1 : decode cX3_wipe 1 = .ok (.iconst 0, 1) := by decide +kernel
theorem dX3_wipe_2 : decode cX3_wipe 2 = .ok (.putfield 27, 3) := by decide +kernel
theorem dX3_wipe_5 : decode cX3_wipe 5 = .ok (.aload_n 0, 1) := by decide +kernel
theorem dX3_wipe_6 : decode cX3_wipe 6 = .ok (.iconst 0, 1) := by decide +kernel
theorem dX3_wipe_7 : decode cX3_wipe 7 = .ok (.putfield 31, 3) := by decide +kernel
theorem dX3_wipe_10 : decode cX3_wipe 10 = .ok (.aload_n 0, 1) := by decide +kernel
theorem dX3_wipe_11 : decode cX3_wipe 11 = .ok (.iconst 0, 1) := by decide +kernel
theorem dX3_wipe_12 : decode cX3_wipe 12 = .ok (.putfield 35, 3) := by decide +kernel
theorem dX3_wipe_15 : decode cX3_wipe 15 = .ok (.aload_n 0, 1) := by decide +kernel
theorem dX3_wipe_16 : decode cX3_wipe 16 = .ok (.iconst 0, 1) := by decide +kernel
theorem dX3_wipe_17 : decode cX3_wipe 17 = .ok (.putfield 38, 3) := by decide +kernel
theorem dX3_wipe_20 : decode cX3_wipe 20 = .ok (.aload_n 0, 1) := by decide +kernel
theorem dX3_wipe_21 : decode cX3_wipe 21 = .ok (.getfield 15, 3) := by decide +kernel
theorem dX3_wipe_24 : decode cX3_wipe 24 = .ok (.iconst 0, 1) := by decide +kernel
theorem dX3_wipe_25 : decode cX3_wipe 25 = .ok (.invokestatic 41, 3) := by decide +kernel
theorem dX3_wipe_28 : decode cX3_wipe 28 = .ok (.return_, 1) := by decide +kernel
theorem dX3_copyFrom_0 : decode cX3_copyFrom 0 = .ok (.aload_n 0, 1) := by decide +kernel
theorem dX3_copyFrom_1 : decode cX3_copyFrom 1 = .ok (.aload_n 1, 1) := by decide +kernel
theorem dX3_copyFrom_2 : decode cX3_copyFrom 2 = .ok (.getfield 27, 3) := by decide +kernel
theorem dX3_copyFrom_5 : decode cX3_copyFrom 5 = .ok (.putfield 27, 3) := by decide +kernel
theorem dX3_copyFrom_8 : decode cX3_copyFrom 8 = .ok (.aload_n 0, 1) := by decide +kernel
theorem dX3_copyFrom_9 : decode cX3_copyFrom 9 = .ok (.aload_n 1, 1) := by decide +kernel
theorem dX3_copyFrom_10 : decode cX3_copyFrom 10 = .ok (.getfield 31, 3) := by decide +kernel
theorem dX3_copyFrom_13 : decode cX3_copyFrom 13 = .ok (.putfield 31, 3) := by decide +kernel
theorem dX3_copyFrom_16 : decode cX3_copyFrom 16 = .ok (.aload_n 0, 1) := by decide +kernel
theorem dX3_copyFrom_17 : decode cX3_copyFrom 17 = .ok (.aload_n 1, 1) := by decide +kernel
theorem dX3_copyFrom_18 : decode cX3_copyFrom 18 = .ok (.getfield 35, 3) := by decide +kernel
theorem dX3_copyFrom_21 : decode cX3_copyFrom 21 = .ok (.putfield 35, 3) := by decide +kernel
theorem dX3_copyFrom_24 : decode cX3_copyFrom 24 = .ok (.aload_n 0, 1) := by decide +kernel
theorem dX3_copyFrom_25 : decode cX3_copyFrom 25 = .ok (.aload_n 1, 1) := by decide +kernel
theorem dX3_copyFrom_26 : decode cX3_copyFrom 26 = .ok (.getfield 38, 3) := by decide +kernel
theorem dX3_copyFrom_29 : decode cX3_copyFrom 29 = .ok (.putfield 38, 3) := by decide +kernel
theorem dX3_copyFrom_32 : decode cX3_copyFrom 32 = .ok (.aload_n 1, 1) := by decide +kernel
theorem dX3_copyFrom_33 : decode cX3_copyFrom 33 = .ok (.getfield 9, 3) := by decide +kernel
theorem dX3_copyFrom_36 : decode cX3_copyFrom 36 = .ok (.iconst 0, 1) := by decide +kernel
theorem dX3_copyFrom_37 : decode cX3_copyFrom 37 = .ok (.aload_n 0, 1) := by decide +kernel
theorem dX3_copyFrom_38 : decode cX3_copyFrom 38 = .ok (.getfield 9, 3) := by decide +kernel
theorem dX3_copyFrom_41 : decode cX3_copyFrom 41 = .ok (.iconst 0, 1) := by decide +kernel
theorem dX3_copyFrom_42 : decode cX3_copyFrom 42 = .ok (.sipush 500, 3) := by decide +kernel
theorem dX3_copyFrom_45 : decode cX3_copyFrom 45 = .ok (.invokestatic 47, 3) := by decide +kernel
theorem dX3_copyFrom_48 : decode cX3_copyFrom 48 = .ok (.aload_n 1, 1) := by decide +kernel
theorem dX3_copyFrom_49 : decode cX3_copyFrom 49 = .ok (.getfield 15, 3) := by decide +kernel
theorem dX3_copyFrom_52 : decode cX3_copyFrom 52 = .ok (.iconst 0, 1) := by decide +kernel
theorem dX3_copyFrom_53 : decode cX3_copyFrom 53 = .ok (.aload_n 0, 1) := by decide +kernel
theorem dX3_copyFrom_54 : decode cX3_copyFrom 54 = .ok (.getfield 15, 3) := by decide +kernel
theorem dX3_copyFrom_57 : decode cX3_copyFrom 57 = .ok (.iconst 0, 1) := by decide +kernel
theorem dX3_copyFrom_58 : decode cX3_copyFrom 58 = .ok (.sipush 500, 3) := by decide +kernel
theorem dX3_copyFrom_61 : decode cX3_copyFrom 61 = .ok (.invokestatic 47, 3) := by decide +kernel
theorem dX3_copyFrom_64 : decode cX3_copyFrom 64 = .ok (.aload_n 1, 1) := by decide +kernel
theorem dX3_copyFrom_65 : decode cX3_copyFrom 65 = .ok (.getfield 18, 3) := by decide +kernel
theorem dX3_copyFrom_68 : decode cX3_copyFrom 68 = .ok (.iconst 0, 1) := by decide +kernel
theorem dX3_copyFrom_69 : decode cX3_copyFrom 69 = .ok (.aload_n 0, 1) := by decide +kernel
theorem dX3_copyFrom_70 : decode cX3_copyFrom 70 = .ok (.getfield 18, 3) := by decide +kernel
theorem dX3_copyFrom_73 : decode cX3_copyFrom 73 = .ok (.iconst 0, 1) := by decide +kernel
theorem dX3_copyFrom_74 : decode cX3_copyFrom 74 = .ok (.sipush 500, 3) := by decide +kernel
theorem dX3_copyFrom_77 : decode cX3_copyFrom 77 = .ok (.invokestatic 47, 3) := by decide +kernel
theorem dX3_copyFrom_80 : decode cX3_copyFrom 80 = .ok (.aload_n 1, 1) := by decide +kernel
theorem dX3_copyFrom_81 : decode cX3_copyFrom 81 = .ok (.getfield 21, 3) := by decide +kernel
theorem dX3_copyFrom_84 : decode cX3_copyFrom 84 = .ok (.iconst 0, 1) := by decide +kernel
theorem dX3_copyFrom_85 : decode cX3_copyFrom 85 = .ok (.aload_n 0, 1) := by decide +kernel
theorem dX3_copyFrom_86 : decode cX3_copyFrom 86 = .ok (.getfield 21, 3) := by decide +kernel
theorem dX3_copyFrom_89 : decode cX3_copyFrom 89 = .ok (.iconst 0, 1) := by decide +kernel
theorem dX3_copyFrom_90 : decode cX3_copyFrom 90 = .ok (.sipush 500, 3) := by decide +kernel
theorem dX3_copyFrom_93 : decode cX3_copyFrom 93 = .ok (.invokestatic 47, 3) := by decide +kernel
theorem dX3_copyFrom_96 : decode cX3_copyFrom 96 = .ok (.aload_n 1, 1) := by decide +kernel
theorem dX3_copyFrom_97 : decode cX3_copyFrom 97 = .ok (.getfield 24, 3) := by decide +kernel
theorem dX3_copyFrom_100 : decode cX3_copyFrom 100 = .ok (.iconst 0, 1) := by decide +kernel
theorem dX3_copyFrom_101 : decode cX3_copyFrom 101 = .ok (.aload_n 0, 1) := by decide +kernel
theorem dX3_copyFrom_102 : decode cX3_copyFrom 102 = .ok (.getfield 24, 3) := by decide +kernel
theorem dX3_copyFrom_105 : decode cX3_copyFrom 105 = .ok (.iconst 0, 1) := by decide +kernel
theorem dX3_copyFrom_106 : decode cX3_copyFrom 106 = .ok (.sipush 500, 3) := by decide +kernel
theorem dX3_copyFrom_109 : decode cX3_copyFrom 109 = .ok (.invokestatic 47, 3) := by decide +kernel
theorem dX3_copyFrom_112 : decode cX3_copyFrom 112 = .ok (.return_, 1) := by decide +kernel
theorem dX3_add_0 : decode cX3_add 0 = .ok (.aload_n 0, 1) := by decide +kernel
theorem dX3_add_1 : decode cX3_add 1 = .ok (.getfield 15, 3) := by decide +kernel
theorem dX3_add_4 : decode cX3_add 4 = .ok (.iload_n 1, 1) := by decide +kernel
theorem dX3_add_5 : decode cX3_add 5 = .ok (.iaload, 1) := by decide +kernel
theorem dX3_add_6 : decode cX3_add 6 = .ok (.ifCond .ne 13, 3) := by decide +kernel
theorem dX3_add_9 : decode cX3_add 9 = .ok (.aload_n 0, 1) := by decide +kernel
theorem dX3_add_10 : decode cX3_add 10 = .ok (.getfield 31, 3) := by decide +kernel
theorem dX3_add_13 : decode cX3_add 13 = .ok (.sipush 500, 3) := by decide +kernel
theorem dX3_add_16 : decode cX3_add 16 = .ok (.if_icmp .lt 4, 3) := by decide +kernel
theorem dX3_add_19 : decode cX3_add 19 = .ok (.return_, 1) := by decide +kernel
theorem dX3_add_20 : decode cX3_add 20 = .ok (.aload_n 0, 1) := by decide +kernel
theorem dX3_add_21 : decode cX3_add 21 = .ok (.getfield 9, 3) := by decide +kernel
theorem dX3_add_24 : decode cX3_add 24 = .ok (.aload_n 0, 1) := by decide +kernel
theorem dX3_add_25 : decode cX3_add 25 = .ok (.getfield 31, 3) := by decide +kernel
theorem dX3_add_28 : decode cX3_add 28 = .ok (.iload_n 1, 1) := by decide +kernel
theorem dX3_add_29 : decode cX3_add 29 = .ok (.iastore, 1) := by decide +kernel
theorem dX3_add_30 : decode cX3_add 30 = .ok (.aload_n 0, 1) := by decide +kernel
theorem dX3_add_31 : decode cX3_add 31 = .ok (.dup, 1) := by decide +kernel
theorem dX3_add_32 : decode cX3_add 32 = .ok (.getfield 31, 3) := by decide +kernel
theorem dX3_add_35 : decode cX3_add 35 = .ok (.iconst 1, 1) := by decide +kernel
theorem dX3_add_36 : decode cX3_add 36 = .ok (.iadd, 1) := by decide +kernel
theorem dX3_add_37 : decode cX3_add 37 = .ok (.putfield 31, 3) := by decide +kernel
theorem dX3_add_40 : decode cX3_add 40 = .ok (.aload_n 0, 1) := by decide +kernel
theorem dX3_add_41 : decode cX3_add 41 = .ok (.getfield 15, 3) := by decide +kernel
theorem dX3_add_44 : decode cX3_add 44 = .ok (.iload_n 1, 1) := by decide +kernel
theorem dX3_add_45 : decode cX3_add 45 = .ok (.aload_n 0, 1) := by decide +kernel
theorem dX3_add_46 : decode cX3_add 46 = .ok (.getfield 31, 3) := by decide +kernel
theorem dX3_add_49 : decode cX3_add 49 = .ok (.iastore, 1) := by decide +kernel
theorem dX3_add_50 : decode cX3_add 50 = .ok (.aload_n 0, 1) := by decide +kernel
theorem dX3_add_51 : decode cX3_add 51 = .ok (.getfield 18, 3) := by decide +kernel
theorem dX3_add_54 : decode cX3_add 54 = .ok (.iload_n 1, 1) := by decide +kernel
theorem dX3_add_55 : decode cX3_add 55 = .ok (.iload_n 2, 1) := by decide +kernel
theorem dX3_add_56 : decode cX3_add 56 = .ok (.iastore, 1) := by decide +kernel
theorem dX3_add_57 : decode cX3_add 57 = .ok (.aload_n 0, 1) := by decide +kernel
theorem dX3_add_58 : decode cX3_add 58 = .ok (.getfield 21, 3) := by decide +kernel
theorem dX3_add_61 : decode cX3_add 61 = .ok (.iload_n 1, 1) := by decide +kernel
theorem dX3_add_62 : decode cX3_add 62 = .ok (.iload_n 3, 1) := by decide +kernel
theorem dX3_add_63 : decode cX3_add 63 = .ok (.iastore, 1) := by decide +kernel
theorem dX3_add_64 : decode cX3_add 64 = .ok (.aload_n 0, 1) := by decide +kernel
theorem dX3_add_65 : decode cX3_add 65 = .ok (.getfield 24, 3) := by decide +kernel
theorem dX3_add_68 : decode cX3_add 68 = .ok (.iload_n 1, 1) := by decide +kernel
theorem dX3_add_69 : decode cX3_add 69 = .ok (.iload 4, 2) := by decide +kernel
theorem dX3_add_71 : decode cX3_add 71 = .ok (.iastore, 1) := by decide +kernel
theorem dX3_add_72 : decode cX3_add 72 = .ok (.return_, 1) := by decide +kernel
theorem dX4_init_0 : decode cX4_init 0 = .ok (.aload_n 0, 1) := by decide +kernel
theorem dX4_init_1 : decode cX4_init 1 = .ok (.invokespecial 3, 3) := by decide +kernel
theorem dX4_init_4 : decode cX4_init 4 = .ok (.aload_n 0, 1) := by decide +kernel
theorem dX4_init_5 : decode cX4_init 5 = .ok (.sipush 6527, 3) := by decide +kernel
theorem dX4_init_8 : decode cX4_init 8 = .ok (.newarray .int, 2) := by decide +kernel
theorem dX4_init_10 : decode cX4_init 10 = .ok (.putfield 9, 3) := by decide +kernel
theorem dX4_init_13 : decode cX4_init 13 = .ok (.aload_n 0, 1) := by decide +kernel
theorem dX4_init_14 : decode cX4_init 14 = .ok (.sipush 6527, 3) := by decide +kernel
theorem dX4_init_17 : decode cX4_init 17 = .ok (.newarray .int, 2) := by decide +kernel
theorem dX4_init_19 : decode cX4_init 19 = .ok (.putfield 15, 3) := by decide +kernel
theorem dX4_init_22 : decode cX4_init 22 = .ok (.return_, 1) := by decide +kernel
theorem dX4_copyFrom_0 : decode cX4_copyFrom 0 = .ok (.aload_n 0, 1) := by decide +kernel
theorem dX4_copyFrom_1 : decode cX4_copyFrom 1 = .ok (.aload_n 1, 1) := by decide +kernel
theorem dX4_copyFrom_2 : decode cX4_copyFrom 2 = .ok (.getfield 18, 3) := by decide +kernel
theorem dX4_copyFrom_5 : decode cX4_copyFrom 5 = .ok (.putfield 18, 3) := by decide +kernel
theorem dX4_copyFrom_8 : decode cX4_copyFrom 8 = .ok (.aload_n 1, 1) := by decide +kernel
theorem dX4_copyFrom_9 : decode cX4_copyFrom 9 = .ok (.getfield 9, 3) := by decide +kernel
theorem dX4_copyFrom_12 : decode cX4_copyFrom 12 = .ok (.iconst 0, 1) := by decide +kernel
theorem dX4_copyFrom_13 : decode cX4_copyFrom 13 = .ok (.aload_n 0, 1) := by decide +kernel
theorem dX4_copyFrom_14 : decode cX4_copyFrom 14 = .ok (.getfield 9, 3) := by decide +kernel
theorem dX4_copyFrom_17 : decode cX4_copyFrom 17 = .ok (.iconst 0, 1) := by decide +kernel
theorem dX4_copyFrom_18 : decode cX4_copyFrom 18 = .ok (.aload_n 0, 1) := by decide +kernel
theorem dX4_copyFrom_19 : decode cX4_copyFrom 19 = .ok (.getfield 18, 3) := by decide +kernel
theorem dX4_copyFrom_22 : decode cX4_copyFrom 22 = .ok (.invokestatic 22, 3) := by decide +kernel
theorem dX4_copyFrom_25 : decode cX4_copyFrom 25 = .ok (.aload_n 1, 1) := by decide +kernel
theorem dX4_copyFrom_26 : decode cX4_copyFrom 26 = .ok (.getfield 15, 3) := by decide +kernel
theorem dX4_copyFrom_29 : decode cX4_copyFrom 29 = .ok (.iconst 0, 1) := by decide +kernel
theorem dX4_copyFrom_30 : decode cX4_copyFrom 30 = .ok (.aload_n 0, 1) := by decide +kernel
theorem dX4_copyFrom_31 : decode cX4_copyFrom 31 = .ok (.getfield 15, 3) := by decide +kernel
theorem dX4_copyFrom_34 : decode cX4_copyFrom 34 = .ok (.iconst 0, 1) := by decide +kernel
theorem dX4_copyFrom_35 : decode cX4_copyFrom 35 = .ok (.aload_n 0, 1) := by decide +kernel
theorem dX4_copyFrom_36 : decode cX4_copyFrom 36 = .ok (.getfield 18, 3) := by decide +kernel
theorem dX4_copyFrom_39 : decode cX4_copyFrom 39 = .ok (.invokestatic 22, 3) := by decide +kernel
theorem dX4_copyFrom_42 : decode cX4_copyFrom 42 = .ok (.return_, 1) := by decide +kernel
theorem dX4_add_0 : decode cX4_add 0 = .ok (.aload_n 0, 1) := by decide +kernel
theorem dX4_add_1 : decode cX4_add 1 = .ok (.getfield 18, 3) := by decide +kernel
theorem dX4_add_4 : decode cX4_add 4 = .ok (.aload_n 0, 1) := by decide +kernel
theorem dX4_add_5 : decode cX4_add 5 = .ok (.getfield 9, 3) := by decide +kernel
theorem dX4_add_8 : decode cX4_add 8 = .ok (.arraylength, 1) := by decide +kernel
theorem dX4_add_9 : decode cX4_add 9 = .ok (.if_icmp .ge 45, 3) := by decide +kernel
theorem dX4_add_12 : decode cX4_add 12 = .ok (.aload_n 0, 1) := by decide +kernel
theorem dX4_add_13 : decode cX4_add 13 = .ok (.getfield 18, 3) := by decide +kernel
theorem dX4_add_16 : decode cX4_add 16 = .ok (.aload_n 0, 1) := by decide +kernel
theorem dX4_add_17 : decode cX4_add 17 = .ok (.getfield 15, 3) := by decide +kernel
theorem dX4_add_20 : decode cX4_add 20 = .ok (.arraylength, 1) := by decide +kernel
theorem dX4_add_21 : decode cX4_add 21 = .ok (.if_icmp .ge 33, 3) := by decide +kernel
theorem dX4_add_24 : decode cX4_add 24 = .ok (.aload_n 0, 1) := by decide +kernel
theorem dX4_add_25 : decode cX4_add 25 = .ok (.getfield 9, 3) := by decide +kernel
theorem dX4_add_28 : decode cX4_add 28 = .ok (.aload_n 0, 1) := by decide +kernel
theorem dX4_add_29 : decode cX4_add 29 = .ok (.getfield 18, 3) := by decide +kernel
theorem dX4_add_32 : decode cX4_add 32 = .ok (.iload_n 1, 1) := by decide +kernel
theorem dX4_add_33 : decode cX4_add 33 = .ok (.iastore, 1) := by decide +kernel
theorem dX4_add_34 : decode cX4_add 34 = .ok (.aload_n 0, 1) := by decide +kernel
theorem dX4_add_35 : decode cX4_add 35 = .ok (.getfield 15, 3) := by decide +kernel
theorem dX4_add_38 : decode cX4_add 38 = .ok (.aload_n 0, 1) := by decide +kernel
theorem dX4_add_39 : decode cX4_add 39 = .ok (.getfield 18, 3) := by decide +kernel
theorem dX4_add_42 : decode cX4_add 42 = .ok (.iload_n 1, 1) := by decide +kernel
theorem dX4_add_43 : decode cX4_add 43 = .ok (.iastore, 1) := by decide +kernel
theorem dX4_add_44 : decode cX4_add 44 = .ok (.aload_n 0, 1) := by decide +kernel
theorem dX4_add_45 : decode cX4_add 45 = .ok (.dup, 1) := by decide +kernel
theorem dX4_add_46 : decode cX4_add 46 = .ok (.getfield 18, 3) := by decide +kernel
theorem dX4_add_49 : decode cX4_add 49 = .ok (.iconst 1, 1) := by decide +kernel
theorem dX4_add_50 : decode cX4_add 50 = .ok (.iadd, 1) := by decide +kernel
theorem dX4_add_51 : decode cX4_add 51 = .ok (.putfield 18, 3) := by decide +kernel
theorem dX4_add_54 : decode cX4_add 54 = .ok (.return_, 1) := by decide +kernel
theorem dX4_sumOf_0 : decode cX4_sumOf 0 = .ok (.iconst 1, 1) := by decide +kernel
theorem dX4_sumOf_1 : decode cX4_sumOf 1 = .ok (.istore_n 2, 1) := by decide +kernel
theorem dX4_sumOf_2 : decode cX4_sumOf 2 = .ok (.iconst 0, 1) := by decide +kernel
theorem dX4_sumOf_3 : decode cX4_sumOf 3 = .ok (.istore_n 3, 1) := by decide +kernel
theorem dX4_sumOf_4 : decode cX4_sumOf 4 = .ok (.iload_n 3, 1) := by decide +kernel
theorem dX4_sumOf_5 : decode cX4_sumOf 5 = .ok (.iload_n 1, 1) := by decide +kernel
theorem dX4_sumOf_6 : decode cX4_sumOf 6 = .ok (.if_icmp .ge 18, 3) := by decide +kernel
theorem dX4_sumOf_9 : decode cX4_sumOf 9 = .ok (.bipush 31, 2) := by decide +kernel
theorem dX4_sumOf_11 : decode cX4_sumOf 11 = .ok (.iload_n 2, 1) := by decide +kernel
theorem dX4_sumOf_12 : decode cX4_sumOf 12 = .ok (.imul, 1) := by decide +kernel
theorem dX4_sumOf_13 : decode cX4_sumOf 13 = .ok (.aload_n 0, 1) := by decide +kernel
theorem dX4_sumOf_14 : decode cX4_sumOf 14 = .ok (.iload_n 3, 1) := by decide +kernel
theorem dX4_sumOf_15 : decode cX4_sumOf 15 = .ok (.iaload, 1) := by decide +kernel
theorem dX4_sumOf_16 : decode cX4_sumOf 16 = .ok (.iadd, 1) := by decide +kernel
theorem dX4_sumOf_17 : decode cX4_sumOf 17 = .ok (.istore_n 2, 1) := by decide +kernel
theorem dX4_sumOf_18 : decode cX4_sumOf 18 = .ok (.iinc 3 1, 3) := by decide +kernel
theorem dX4_sumOf_21 : decode cX4_sumOf 21 = .ok (.goto (-17), 3) := by decide +kernel
theorem dX4_sumOf_24 : decode cX4_sumOf 24 = .ok (.iload_n 2, 1) := by decide +kernel
theorem dX4_sumOf_25 : decode cX4_sumOf 25 = .ok (.ireturn, 1) := by decide +kernel
theorem dX4_restore_0 : decode cX4_restore 0 = .ok (.iconst 0, 1) := by decide +kernel
theorem dX4_restore_1 : decode cX4_restore 1 = .ok (.istore_n 1, 1) := by decide +kernel
theorem dX4_restore_2 : decode cX4_restore 2 = .ok (.iconst 0, 1) := by decide +kernel
theorem dX4_restore_3 : decode cX4_restore 3 = .ok (.istore_n 2, 1) := by decide +kernel
theorem dX4_restore_4 : decode cX4_restore 4 = .ok (.iload_n 2, 1) := by decide +kernel
theorem dX4_restore_5 : decode cX4_restore 5 = .ok (.aload_n 0, 1) := by decide +kernel
theorem dX4_restore_6 : decode cX4_restore 6 = .ok (.getfield 18, 3) := by decide +kernel
theorem dX4_restore_9 : decode cX4_restore 9 = .ok (.if_icmp .ge 39, 3) := by decide +kernel
theorem dX4_restore_12 : decode cX4_restore 12 = .ok (.aload_n 0, 1) := by decide +kernel
theorem dX4_restore_13 : decode cX4_restore 13 = .ok (.getfield 15, 3) := by decide +kernel
theorem dX4_restore_16 : decode cX4_restore 16 = .ok (.iload_n 2, 1) := by decide +kernel
theorem dX4_restore_17 : decode cX4_restore 17 = .ok (.iaload, 1) := by decide +kernel
theorem dX4_restore_18 : decode cX4_restore 18 = .ok (.aload_n 0, 1) := by decide +kernel
theorem dX4_restore_19 : decode cX4_restore 19 = .ok (.getfield 9, 3) := by decide +kernel
theorem dX4_restore_22 : decode cX4_restore 22 = .ok (.iload_n 2, 1) := by decide +kernel
theorem dX4_restore_23 : decode cX4_restore 23 = .ok (.iaload, 1) := by decide +kernel
theorem dX4_restore_24 : decode cX4_restore 24 = .ok (.if_icmp .eq 18, 3) := by decide +kernel
theorem dX4_restore_27 : decode cX4_restore 27 = .ok (.aload_n 0, 1) := by decide +kernel
theorem dX4_restore_28 : decode cX4_restore 28 = .ok (.getfield 15, 3) := by decide +kernel
theorem dX4_restore_31 : decode cX4_restore 31 = .ok (.iload_n 2, 1) := by decide +kernel
theorem dX4_restore_32 : decode cX4_restore 32 = .ok (.aload_n 0, 1) := by decide +kernel
theorem dX4_restore_33 : decode cX4_restore 33 = .ok (.getfield 9, 3) := by decide +kernel
theorem dX4_restore_36 : decode cX4_restore 36 = .ok (.iload_n 2, 1) := by decide +kernel
theorem dX4_restore_37 : decode cX4_restore 37 = .ok (.iaload, 1) := by decide +kernel
theorem dX4_restore_38 : decode cX4_restore 38 = .ok (.iastore, 1) := by decide +kernel
theorem dX4_restore_39 : decode cX4_restore 39 = .ok (.iinc 1 1, 3) := by decide +kernel
theorem dX4_restore_42 : decode cX4_restore 42 = .ok (.iinc 2 1, 3) := by decide +kernel
theorem dX4_restore_45 : decode cX4_restore 45 = .ok (.goto (-41), 3) := by decide +kernel
theorem dX4_restore_48 : decode cX4_restore 48 = .ok (.iload_n 1, 1) := by decide +kernel
theorem dX4_restore_49 : decode cX4_restore 49 = .ok (.ireturn, 1) := by decide +kernel
theorem dX5_init_0 : decode cX5_init 0 = .ok (.aload_n 0, 1) := by decide +kernel
theorem dX5_init_1 : decode cX5_init 1 = .ok (.invokespecial 3, 3) := by decide +kernel
theorem dX5_init_4 : decode cX5_init 4 = .ok (.aload_n 0, 1) := by decide +kernel
theorem dX5_init_5 : decode cX5_init 5 = .ok (.sipush 200, 3) := by decide +kernel
theorem dX5_init_8 : decode cX5_init 8 = .ok (.newarray .int, 2) := by decide +kernel
theorem dX5_init_10 : decode cX5_init 10 = .ok (.putfield 9, 3) := by decide +kernel
theorem dX5_init_13 : decode cX5_init 13 = .ok (.aload_n 0, 1) := by decide +kernel
theorem dX5_init_14 : decode cX5_init 14 = .ok (.bipush 8, 2) := by decide +kernel
theorem dX5_init_16 : decode cX5_init 16 = .ok (.newarray .int, 2) := by decide +kernel
theorem dX5_init_18 : decode cX5_init 18 = .ok (.putfield 15, 3) := by decide +kernel
theorem dX5_init_21 : decode cX5_init 21 = .ok (.return_, 1) := by decide +kernel
theorem dX5_empty_0 : decode cX5_empty 0 = .ok (.aload_n 0, 1) := by decide +kernel
theorem dX5_empty_1 : decode cX5_empty 1 = .ok (.iconst 0, 1) := by decide +kernel
theorem dX5_empty_2 : decode cX5_empty 2 = .ok (.putfield 18, 3) := by decide +kernel
theorem dX5_empty_5 : decode cX5_empty 5 = .ok (.aload_n 0, 1) := by decide +kernel
theorem dX5_empty_6 : decode cX5_empty 6 = .ok (.iconst 0, 1) := by decide +kernel
theorem dX5_empty_7 : decode cX5_empty 7 = .ok (.putfield 22, 3) := by decide +kernel
theorem dX5_empty_10 : decode cX5_empty 10 = .ok (.aload_n 0, 1) := by decide +kernel
theorem dX5_empty_11 : decode cX5_empty 11 = .ok (.iconst 0, 1) := by decide +kernel
theorem dX5_empty_12 : decode cX5_empty 12 = .ok (.putfield 25, 3) := by decide +kernel
theorem dX5_empty_15 : decode cX5_empty 15 = .ok (.aload_n 0, 1) := by decide +kernel
theorem dX5_empty_16 : decode cX5_empty 16 = .ok (.iconst 0, 1) := by decide +kernel
theorem dX5_empty_17 : decode cX5_empty 17 = .ok (.putfield 28, 3) := by decide +kernel
theorem dX5_empty_20 : decode cX5_empty 20 = .ok (.aload_n 0, 1) := by decide +kernel
theorem dX5_empty_21 : decode cX5_empty 21 = .ok (.getfield 15, 3) := by decide +kernel
theorem dX5_empty_24 : decode cX5_empty 24 = .ok (.iconst (-1), 1) := by decide +kernel
theorem dX5_empty_25 : decode cX5_empty 25 = .ok (.invokestatic 31, 3) := by decide +kernel
theorem dX5_empty_28 : decode cX5_empty 28 = .ok (.return_, 1) := by decide +kernel
theorem dX5_copyFrom_0 : decode cX5_copyFrom 0 = .ok (.aload_n 0, 1) := by decide +kernel
theorem dX5_copyFrom_1 : decode cX5_copyFrom 1 = .ok (.aload_n 1, 1) := by decide +kernel
theorem dX5_copyFrom_2 : decode cX5_copyFrom 2 = .ok (.getfield 18, 3) := by decide +kernel
theorem dX5_copyFrom_5 : decode cX5_copyFrom 5 = .ok (.putfield 18, 3) := by decide +kernel
theorem dX5_copyFrom_8 : decode cX5_copyFrom 8 = .ok (.aload_n 0, 1) := by decide +kernel
theorem dX5_copyFrom_9 : decode cX5_copyFrom 9 = .ok (.aload_n 1, 1) := by decide +kernel
theorem dX5_copyFrom_10 : decode cX5_copyFrom 10 = .ok (.getfield 22, 3) := by decide +kernel
theorem dX5_copyFrom_13 : decode cX5_copyFrom 13 = .ok (.putfield 22, 3) := by decide +kernel
theorem dX5_copyFrom_16 : decode cX5_copyFrom 16 = .ok (.aload_n 0, 1) := by decide +kernel
theorem dX5_copyFrom_17 : decode cX5_copyFrom 17 = .ok (.aload_n 1, 1) := by decide +kernel
theorem dX5_copyFrom_18 : decode cX5_copyFrom 18 = .ok (.getfield 25, 3) := by decide +kernel
theorem dX5_copyFrom_21 : decode cX5_copyFrom 21 = .ok (.putfield 25, 3) := by decide +kernel
theorem dX5_copyFrom_24 : decode cX5_copyFrom 24 = .ok (.aload_n 0, 1) := by decide +kernel
theorem dX5_copyFrom_25 : decode cX5_copyFrom 25 = .ok (.aload_n 1, 1) := by decide +kernel
theorem dX5_copyFrom_26 : decode cX5_copyFrom 26 = .ok (.getfield 28, 3) := by decide +kernel
theorem dX5_copyFrom_29 : decode cX5_copyFrom 29 = .ok (.putfield 28, 3) := by decide +kernel
theorem dX5_copyFrom_32 : decode cX5_copyFrom 32 = .ok (.aload_n 1, 1) := by decide +kernel
theorem dX5_copyFrom_33 : decode cX5_copyFrom 33 = .ok (.getfield 9, 3) := by decide +kernel
theorem dX5_copyFrom_36 : decode cX5_copyFrom 36 = .ok (.iconst 0, 1) := by decide +kernel
theorem dX5_copyFrom_37 : decode cX5_copyFrom 37 = .ok (.aload_n 0, 1) := by decide +kernel
theorem dX5_copyFrom_38 : decode cX5_copyFrom 38 = .ok (.getfield 9, 3) := by decide +kernel
theorem dX5_copyFrom_41 : decode cX5_copyFrom 41 = .ok (.iconst 0, 1) := by decide +kernel
theorem dX5_copyFrom_42 : decode cX5_copyFrom 42 = .ok (.aload_n 0, 1) := by decide +kernel
theorem dX5_copyFrom_43 : decode cX5_copyFrom 43 = .ok (.getfield 9, 3) := by decide +kernel
theorem dX5_copyFrom_46 : decode cX5_copyFrom 46 = .ok (.arraylength, 1) := by decide +kernel
theorem dX5_copyFrom_47 : decode cX5_copyFrom 47 = .ok (.invokestatic 37, 3) := by decide +kernel
theorem dX5_copyFrom_50 : decode cX5_copyFrom 50 = .ok (.aload_n 1, 1) := by decide +kernel
theorem dX5_copyFrom_51 : decode cX5_copyFrom 51 = .ok (.getfield 15, 3) := by decide +kernel
theorem dX5_copyFrom_54 : decode cX5_copyFrom 54 = .ok (.iconst 0, 1) := by decide +kernel
theorem dX5_copyFrom_55 : decode cX5_copyFrom 55 = .ok (.aload_n 0, 1) := by decide +kernel
theorem dX5_copyFrom_56 : decode cX5_copyFrom 56 = .ok (.getfield 15, 3) := by decide +kernel
theorem dX5_copyFrom_59 : decode cX5_copyFrom 59 = .ok (.iconst 0, 1) := by decide +kernel
theorem dX5_copyFrom_60 : decode cX5_copyFrom 60 = .ok (.bipush 8, 2) := by decide +kernel
theorem dX5_copyFrom_62 : decode cX5_copyFrom 62 = .ok (.invokestatic 37, 3) := by decide +kernel
theorem dX5_copyFrom_65 : decode cX5_copyFrom 65 = .ok (.return_, 1) := by decide +kernel
theorem dX5_add_0 : decode cX5_add 0 = .ok (.aload_n 0, 1) := by decide +kernel
theorem dX5_add_1 : decode cX5_add 1 = .ok (.getfield 18, 3) := by decide +kernel
theorem dX5_add_4 : decode cX5_add 4 = .ok (.iconst 5, 1) := by decide +kernel
theorem dX5_add_5 : decode cX5_add 5 = .ok (.imul, 1) := by decide +kernel
theorem dX5_add_6 : decode cX5_add 6 = .ok (.istore 6, 2) := by decide +kernel
theorem dX5_add_8 : decode cX5_add 8 = .ok (.aload_n 0, 1) := by decide +kernel
theorem dX5_add_9 : decode cX5_add 9 = .ok (.getfield 9, 3) := by decide +kernel
theorem dX5_add_12 : decode cX5_add 12 = .ok (.iload 6, 2) := by decide +kernel
theorem dX5_add_14 : decode cX5_add 14 = .ok (.iload_n 1, 1) := by decide +kernel
theorem dX5_add_15 : decode cX5_add 15 = .ok (.iastore, 1) := by decide +kernel
theorem dX5_add_16 : decode cX5_add 16 = .ok (.aload_n 0, 1) := by decide +kernel
theorem dX5_add_17 : decode cX5_add 17 = .ok (.getfield 9, 3) := by decide +kernel
theorem dX5_add_20 : decode cX5_add 20 = .ok (.iload 6, 2) := by decide +kernel
theorem dX5_add_22 : decode cX5_add 22 = .ok (.iconst 1, 1) := by decide +kernel
theorem dX5_add_23 : decode cX5_add 23 = .ok (.iadd, 1) := by decide +kernel
theorem dX5_add_24 : decode cX5_add 24 = .ok (.iload_n 2, 1) := by decide +kernel
theorem dX5_add_25 : decode cX5_add 25 = .ok (.iastore, 1) := by decide +kernel
theorem dX5_add_26 : decode cX5_add 26 = .ok (.aload_n 0, 1) := by decide +kernel
theorem dX5_add_27 : decode cX5_add 27 = .ok (.getfield 9, 3) := by decide +kernel
theorem dX5_add_30 : decode cX5_add 30 = .ok (.iload 6, 2) := by decide +kernel
theorem dX5_add_32 : decode cX5_add 32 = .ok (.iconst 2, 1) := by decide +kernel
theorem dX5_add_33 : decode cX5_add 33 = .ok (.iadd, 1) := by decide +kernel
theorem dX5_add_34 : decode cX5_add 34 = .ok (.iload_n 3, 1) := by decide +kernel
theorem dX5_add_35 : decode cX5_add 35 = .ok (.iastore, 1) := by decide +kernel
theorem dX5_add_36 : decode cX5_add 36 = .ok (.aload_n 0, 1) := by decide +kernel
theorem dX5_add_37 : decode cX5_add 37 = .ok (.getfield 9, 3) := by decide +kernel
theorem dX5_add_40 : decode cX5_add 40 = .ok (.iload 6, 2) := by decide +kernel
theorem dX5_add_42 : decode cX5_add 42 = .ok (.iconst 3, 1) := by decide +kernel
theorem dX5_add_43 : decode cX5_add 43 = .ok (.iadd, 1) := by decide +kernel
theorem dX5_add_44 : decode cX5_add 44 = .ok (.iload 4, 2) := by decide +kernel
theorem dX5_add_46 : decode cX5_add 46 = .ok (.iastore, 1) := by decide +kernel
theorem dX5_add_47 : decode cX5_add 47 = .ok (.aload_n 0, 1) := by decide +kernel
theorem dX5_add_48 : decode cX5_add 48 = .ok (.getfield 9, 3) := by decide +kernel
theorem dX5_add_51 : decode cX5_add 51 = .ok (.iload 6, 2) := by decide +kernel
theorem dX5_add_53 : decode cX5_add 53 = .ok (.iconst 4, 1) := by decide +kernel
theorem dX5_add_54 : decode cX5_add 54 = .ok (.iadd, 1) := by decide +kernel
theorem dX5_add_55 : decode cX5_add 55 = .ok (.iload 5, 2) := by decide +kernel
theorem dX5_add_57 : decode cX5_add 57 = .ok (.iastore, 1) := by decide +kernel
theorem dX5_add_58 : decode cX5_add 58 = .ok (.aload_n 0, 1) := by decide +kernel
theorem dX5_add_59 : decode cX5_add 59 = .ok (.dup, 1) := by decide +kernel
theorem dX5_add_60 : decode cX5_add 60 = .ok (.getfield 18, 3) := by decide +kernel
theorem dX5_add_63 : decode cX5_add 63 = .ok (.iconst 1, 1) := by decide +kernel
theorem dX5_add_64 : decode cX5_add 64 = .ok (.iadd, 1) := by decide +kernel
theorem dX5_add_65 : decode cX5_add 65 = .ok (.putfield 18, 3) := by decide +kernel
theorem dX5_add_68 : decode cX5_add 68 = .ok (.return_, 1) := by decide +kernel
theorem dX5_goBehindAct_0 : decode cX5_goBehindAct 0 = .ok (.aload_n 0, 1) := by decide +kernel
theorem dX5_goBehindAct_1 : decode cX5_goBehindAct 1 = .ok (.aload_n 0, 1) := by decide +kernel
theorem dX5_goBehindAct_2 : decode cX5_goBehindAct 2 = .ok (.getfield 22, 3) := by decide +kernel
theorem dX5_goBehindAct_5 : decode cX5_goBehindAct 5 = .ok (.iconst 1, 1) := by decide +kernel
theorem dX5_goBehindAct_6 : decode cX5_goBehindAct 6 = .ok (.iadd, 1) := by decide +kernel
theorem dX5_goBehindAct_7 : decode cX5_goBehindAct 7 = .ok (.aload_n 0, 1) := by decide +kernel
theorem dX5_goBehindAct_8 : decode cX5_goBehindAct 8 = .ok (.getfield 18, 3) := by decide +kernel
theorem dX5_goBehindAct_11 : decode cX5_goBehindAct 11 = .ok (.if_icmp .ge 12, 3) := by decide +kernel
theorem dX5_goBehindAct_14 : decode cX5_goBehindAct 14 = .ok (.aload_n 0, 1) := by decide +kernel
theorem dX5_goBehindAct_15 : decode cX5_goBehindAct 15 = .ok (.getfield 22, 3) := by decide +kernel
theorem dX5_goBehindAct_18 : decode cX5_goBehindAct 18 = .ok (.iconst 1, 1) := by decide +kernel
theorem dX5_goBehindAct_19 : decode cX5_goBehindAct 19 = .ok (.iadd, 1) := by decide +kernel
theorem dX5_goBehindAct_20 : decode cX5_goBehindAct 20 = .ok (.goto 4, 3) := by decide +kernel
theorem dX5_goBehindAct_23 : decode cX5_goBehindAct 23 = .ok (.iconst 0, 1) := by decide +kernel
theorem dX5_goBehindAct_24 : decode cX5_goBehindAct 24 = .ok (.putfield 22, 3) := by decide +kernel
theorem dX5_goBehindAct_27 : decode cX5_goBehindAct 27 = .ok (.aload_n 0, 1) := by decide +kernel
theorem dX5_goBehindAct_28 : decode cX5_goBehindAct 28 = .ok (.dup, 1) := by decide +kernel
theorem dX5_goBehindAct_29 : decode cX5_goBehindAct 29 = .ok (.getfield 25, 3) := by decide +kernel
theorem dX5_goBehindAct_32 : decode cX5_goBehindAct 32 = .ok (.iconst 1, 1) := by decide +kernel
theorem dX5_goBehindAct_33 : decode cX5_goBehindAct 33 = .ok (.iadd, 1) := by decide +kernel
theorem dX5_goBehindAct_34 : decode cX5_goBehindAct 34 = .ok (.putfield 25, 3) := by decide +kernel
theorem dX5_goBehindAct_37 : decode cX5_goBehindAct 37 = .ok (.iload_n 1, 1) := by decide +kernel
theorem dX5_goBehindAct_38 : decode cX5_goBehindAct 38 = .ok (.ifCond .eq 13, 3) := by decide +kernel
theorem dX5_goBehindAct_41 : decode cX5_goBehindAct 41 = .ok (.aload_n 0, 1) := by decide +kernel
theorem dX5_goBehindAct_42 : decode cX5_goBehindAct 42 = .ok (.dup, 1) := by decide +kernel
theorem dX5_goBehindAct_43 : decode cX5_goBehindAct 43 = .ok (.getfield 28, 3) := by decide +kernel
theorem dX5_goBehindAct_46 : decode cX5_goBehindAct 46 = .ok (.iconst 1, 1) := by decide +kernel
theorem dX5_goBehindAct_47 : decode cX5_goBehindAct 47 = .ok (.iadd, 1) := by decide +kernel
theorem dX5_goBehindAct_48 : decode cX5_goBehindAct 48 = .ok (.putfield 28, 3) := by decide +kernel
theorem dX5_goBehindAct_51 : decode cX5_goBehindAct 51 = .ok (.return_, 1) := by decide +kernel
theorem dX6_init_0 : decode cX6_init 0 = .ok (.aload_n 0, 1) := by decide +kernel
theorem dX6_init_1 : decode cX6_init 1 = .ok (.invokespecial 3, 3) := by decide +kernel
theorem dX6_init_4 : decode cX6_init 4 = .ok (.aload_n 0, 1) := by decide +kernel
theorem dX6_init_5 : decode cX6_init 5 = .ok (.new 9, 3) := by decide +kernel
theorem dX6_init_8 : decode cX6_init 8 = .ok (.dup, 1) := by decide +kernel
theorem dX6_init_9 : decode cX6_init 9 = .ok (.invokespecial 11, 3) := by decide +kernel
theorem dX6_init_12 : decode cX6_init 12 = .ok (.putfield 12, 3) := by decide +kernel
theorem dX6_init_15 : decode cX6_init 15 = .ok (.aload_n 0, 1) := by decide +kernel
theorem dX6_init_16 : decode cX6_init 16 = .ok (.new 18, 3) := by decide +kernel
theorem dX6_init_19 : decode cX6_init 19 = .ok (.dup, 1) := by decide +kernel
theorem dX6_init_20 : decode cX6_init 20 = .ok (.invokespecial 20, 3) := by decide +kernel
theorem dX6_init_23 : decode cX6_init 23 = .ok (.putfield 21, 3) := by decide +kernel
theorem dX6_init_26 : decode cX6_init 26 = .ok (.aload_n 0, 1) := by decide +kernel
theorem dX6_init_27 : decode cX6_init 27 = .ok (.new 25, 3) := by decide +kernel
theorem dX6_init_30 : decode cX6_init 30 = .ok (.dup, 1) := by decide +kernel
theorem dX6_init_31 : decode cX6_init 31 = .ok (.invokespecial 27, 3) := by decide +kernel
theorem dX6_init_34 : decode cX6_init 34 = .ok (.putfield 28, 3) := by decide +kernel
theorem dX6_init_37 : decode cX6_init 37 = .ok (.aload_n 0, 1) := by decide +kernel
theorem dX6_init_38 : decode cX6_init 38 = .ok (.new 32, 3) := by decide +kernel
theorem dX6_init_41 : decode cX6_init 41 = .ok (.dup, 1) := by decide +kernel
theorem dX6_init_42 : decode cX6_init 42 = .ok (.invokespecial 34, 3) := by decide +kernel
theorem dX6_init_45 : decode cX6_init 45 = .ok (.putfield 35, 3) := by decide +kernel
theorem dX6_init_48 : decode cX6_init 48 = .ok (.aload_n 0, 1) := by decide +kernel
theorem dX6_init_49 : decode cX6_init 49 = .ok (.new 39, 3) := by decide +kernel
theorem dX6_init_52 : decode cX6_init 52 = .ok (.dup, 1) := by decide +kernel
theorem dX6_init_53 : decode cX6_init 53 = .ok (.invokespecial 41, 3) := by decide +kernel
theorem dX6_init_56 : decode cX6_init 56 = .ok (.putfield 42, 3) := by decide +kernel
theorem dX6_init_59 : decode cX6_init 59 = .ok (.aload_n 0, 1) := by decide +kernel
theorem dX6_init_60 : decode cX6_init 60 = .ok (.bipush 24, 2) := by decide +kernel
theorem dX6_init_62 : decode cX6_init 62 = .ok (.newarray .int, 2) := by decide +kernel
theorem dX6_init_64 : decode cX6_init 64 = .ok (.putfield 46, 3) := by decide +kernel
theorem dX6_init_67 : decode cX6_init 67 = .ok (.aload_n 0, 1) := by decide +kernel
theorem dX6_init_68 : decode cX6_init 68 = .ok (.bipush 32, 2) := by decide +kernel
theorem dX6_init_70 : decode cX6_init 70 = .ok (.newarray .int, 2) := by decide +kernel
theorem dX6_init_72 : decode cX6_init 72 = .ok (.putfield 50, 3) := by decide +kernel
theorem dX6_init_75 : decode cX6_init 75 = .ok (.aload_n 0, 1) := by decide +kernel
theorem dX6_init_76 : decode cX6_init 76 = .ok (.sipush 256, 3) := by decide +kernel
theorem dX6_init_79 : decode cX6_init 79 = .ok (.invokevirtual 53, 3) := by decide +kernel
theorem dX6_init_82 : decode cX6_init 82 = .ok (.return_, 1) := by decide +kernel
theorem dX6_startAnew_0 : decode cX6_startAnew 0 = .ok (.aload_n 0, 1) := by decide +kernel
theorem dX6_startAnew_1 : decode cX6_startAnew 1 = .ok (.getfield 12, 3) := by decide +kernel
theorem dX6_startAnew_4 : decode cX6_startAnew 4 = .ok (.iload_n 1, 1) := by decide +kernel
theorem dX6_startAnew_5 : decode cX6_startAnew 5 = .ok (.invokevirtual 57, 3) := by decide +kernel
theorem dX6_startAnew_8 : decode cX6_startAnew 8 = .ok (.aload_n 0, 1) := by decide +kernel
theorem dX6_startAnew_9 : decode cX6_startAnew 9 = .ok (.getfield 21, 3) := by decide +kernel
theorem dX6_startAnew_12 : decode cX6_startAnew 12 = .ok (.invokevirtual 60, 3) := by decide +kernel
theorem dX6_startAnew_15 : decode cX6_startAnew 15 = .ok (.aload_n 0, 1) := by decide +kernel
theorem dX6_startAnew_16 : decode cX6_startAnew 16 = .ok (.getfield 28, 3) := by decide +kernel
theorem dX6_startAnew_19 : decode cX6_startAnew 19 = .ok (.invokevirtual 63, 3) := by decide +kernel
theorem dX6_startAnew_22 : decode cX6_startAnew 22 = .ok (.aload_n 0, 1) := by decide +kernel
theorem dX6_startAnew_23 : decode cX6_startAnew 23 = .ok (.getfield 35, 3) := by decide +kernel
theorem dX6_startAnew_26 : decode cX6_startAnew 26 = .ok (.iconst 0, 1) := by decide +kernel
theorem dX6_startAnew_27 : decode cX6_startAnew 27 = .ok (.putfield 65, 3) := by decide +kernel
theorem dX6_startAnew_30 : decode cX6_startAnew 30 = .ok (.aload_n 0, 1) := by decide +kernel
theorem dX6_startAnew_31 : decode cX6_startAnew 31 = .ok (.getfield 42, 3) := by decide +kernel
theorem dX6_startAnew_34 : decode cX6_startAnew 34 = .ok (.invokevirtual 69, 3) := by decide +kernel
theorem dX6_startAnew_37 : decode cX6_startAnew 37 = .ok (.aload_n 0, 1) := by decide +kernel
theorem dX6_startAnew_38 : decode cX6_startAnew 38 = .ok (.getfield 46, 3) := by decide +kernel
theorem dX6_startAnew_41 : decode cX6_startAnew 41 = .ok (.iconst (-1), 1) := by decide +kernel
theorem dX6_startAnew_42 : decode cX6_startAnew 42 = .ok (.invokestatic 70, 3) := by decide +kernel
theorem dX6_startAnew_45 : decode cX6_startAnew 45 = .ok (.aload_n 0, 1) := by decide +kernel
theorem dX6_startAnew_46 : decode cX6_startAnew 46 = .ok (.getfield 50, 3) := by decide +kernel
theorem dX6_startAnew_49 : decode cX6_startAnew 49 = .ok (.iconst (-1), 1) := by decide +kernel
theorem dX6_startAnew_50 : decode cX6_startAnew 50 = .ok (.invokestatic 70, 3) := by decide +kernel
theorem dX6_startAnew_53 : decode cX6_startAnew 53 = .ok (.return_, 1) := by decide +kernel
theorem dX6_become_0 : decode cX6_become 0 = .ok (.aload_n 0, 1) := by decide +kernel
theorem dX6_become_1 : decode cX6_become 1 = .ok (.getfield 12, 3) := by decide +kernel
theorem dX6_become_4 : decode cX6_become 4 = .ok (.aload_n 1, 1) := by decide +kernel
theorem dX6_become_5 : decode cX6_become 5 = .ok (.getfield 12, 3) := by decide +kernel
theorem dX6_become_8 : decode cX6_become 8 = .ok (.invokevirtual 76, 3) := by decide +kernel
theorem dX6_become_11 : decode cX6_become 11 = .ok (.aload_n 0, 1) := by decide +kernel
theorem dX6_become_12 : decode cX6_become 12 = .ok (.getfield 21, 3) := by decide +kernel
theorem dX6_become_15 : decode cX6_become 15 = .ok (.aload_n 1, 1) := by decide +kernel
theorem dX6_become_16 : decode cX6_become 16 = .ok (.getfield 21, 3) := by decide +kernel
theorem dX6_become_19 : decode cX6_become 19 = .ok (.invokevirtual 80, 3) := by decide +kernel
theorem dX6_become_22 : decode cX6_become 22 = .ok (.aload_n 0, 1) := by decide +kernel
theorem dX6_become_23 : decode cX6_become 23 = .ok (.getfield 28, 3) := by decide +kernel
theorem dX6_become_26 : decode cX6_become 26 = .ok (.aload_n 1, 1) := by decide +kernel
theorem dX6_become_27 : decode cX6_become 27 = .ok (.getfield 28, 3) := by decide +kernel
theorem dX6_become_30 : decode cX6_become 30 = .ok (.invokevirtual 83, 3) := by decide +kernel
theorem dX6_become_33 : decode cX6_become 33 = .ok (.aload_n 0, 1) := by decide +kernel
theorem dX6_become_34 : decode cX6_become 34 = .ok (.getfield 35, 3) := by decide +kernel
theorem dX6_become_37 : decode cX6_become 37 = .ok (.aload_n 1, 1) := by decide +kernel
theorem dX6_become_38 : decode cX6_become 38 = .ok (.getfield 35, 3) := by decide +kernel
theorem dX6_become_41 : decode cX6_become 41 = .ok (.invokevirtual 86, 3) := by decide +kernel
theorem dX6_become_44 : decode cX6_become 44 = .ok (.aload_n 0, 1) := by decide +kernel
theorem dX6_become_45 : decode cX6_become 45 = .ok (.getfield 42, 3) := by decide +kernel
theorem dX6_become_48 : decode cX6_become 48 = .ok (.aload_n 1, 1) := by decide +kernel
theorem dX6_become_49 : decode cX6_become 49 = .ok (.getfield 42, 3) := by decide +kernel
theorem dX6_become_52 : decode cX6_become 52 = .ok (.invokevirtual 89, 3) := by decide +kernel
theorem dX6_become_55 : decode cX6_become 55 = .ok (.aload_n 1, 1) := by decide +kernel
theorem dX6_become_56 : decode cX6_become 56 = .ok (.getfield 46, 3) := by decide +kernel
theorem dX6_become_59 : decode cX6_become 59 = .ok (.iconst 0, 1) := by decide +kernel
theorem dX6_become_60 : decode cX6_become 60 = .ok (.aload_n 0, 1) := by decide +kernel
theorem dX6_become_61 : decode cX6_become 61 = .ok (.getfield 46, 3) := by decide +kernel
theorem dX6_become_64 : decode cX6_become 64 = .ok (.iconst 0, 1) := by decide +kernel
theorem dX6_become_65 : decode cX6_become 65 = .ok (.bipush 24, 2) := by decide +kernel
theorem dX6_become_67 : decode cX6_become 67 = .ok (.invokestatic 92, 3) := by decide +kernel
theorem dX6_become_70 : decode cX6_become 70 = .ok (.aload_n 1, 1) := by decide +kernel
theorem dX6_become_71 : decode cX6_become 71 = .ok (.getfield 50, 3) := by decide +kernel
theorem dX6_become_74 : decode cX6_become 74 = .ok (.iconst 0, 1) := by decide +kernel
theorem dX6_become_75 : decode cX6_become 75 = .ok (.aload_n 0, 1) := by decide +kernel
theorem dX6_become_76 : decode cX6_become 76 = .ok (.getfield 50, 3) := by decide +kernel
theorem dX6_become_79 : decode cX6_become 79 = .ok (.iconst 0, 1) := by decide +kernel
theorem dX6_become_80 : decode cX6_become 80 = .ok (.aload_n 0, 1) := by decide +kernel
theorem dX6_become_81 : decode cX6_become 81 = .ok (.getfield 50, 3) := by decide +kernel
theorem dX6_become_84 : decode cX6_become 84 = .ok (.arraylength, 1) := by decide +kernel
theorem dX6_become_85 : decode cX6_become 85 = .ok (.invokestatic 92, 3) := by decide +kernel
theorem dX6_become_88 : decode cX6_become 88 = .ok (.return_, 1) := by decide +kernel
theorem dX7_init_0 : decode cX7_init 0 = .ok (.aload_n 0, 1) := by decide +kernel
theorem dX7_init_1 : decode cX7_init 1 = .ok (.invokespecial 3, 3) := by decide +kernel
theorem dX7_init_4 : decode cX7_init 4 = .ok (.aload_n 0, 1) := by decide +kernel
theorem dX7_init_5 : decode cX7_init 5 = .ok (.sipush 500, 3) := by decide +kernel
theorem dX7_init_8 : decode cX7_init 8 = .ok (.newarray .int, 2) := by decide +kernel
theorem dX7_init_10 : decode cX7_init 10 = .ok (.putfield 9, 3) := by decide +kernel
theorem dX7_init_13 : decode cX7_init 13 = .ok (.aload_n 0, 1) := by decide +kernel
theorem dX7_init_14 : decode cX7_init 14 = .ok (.sipush 500, 3) := by decide +kernel
theorem dX7_init_17 : decode cX7_init 17 = .ok (.newarray .int, 2) := by decide +kernel
theorem dX7_init_19 : decode cX7_init 19 = .ok (.putfield 15, 3) := by decide +kernel
theorem dX7_init_22 : decode cX7_init 22 = .ok (.aload_n 0, 1) := by decide +kernel
theorem dX7_init_23 : decode cX7_init 23 = .ok (.sipush 500, 3) := by decide +kernel
theorem dX7_init_26 : decode cX7_init 26 = .ok (.newarray .int, 2) := by decide +kernel
theorem dX7_init_28 : decode cX7_init 28 = .ok (.putfield 18, 3) := by decide +kernel
theorem dX7_init_31 : decode cX7_init 31 = .ok (.aload_n 0, 1) := by decide +kernel
theorem dX7_init_32 : decode cX7_init 32 = .ok (.aload_n 1, 1) := by decide +kernel
theorem dX7_init_33 : decode cX7_init 33 = .ok (.putfield 21, 3) := by decide +kernel
theorem dX7_init_36 : decode cX7_init 36 = .ok (.aload_n 0, 1) := by decide +kernel
theorem dX7_init_37 : decode cX7_init 37 = .ok (.aload_n 1, 1) := by decide +kernel
theorem dX7_init_38 : decode cX7_init 38 = .ok (.getfield 25, 3) := by decide +kernel
theorem dX7_init_41 : decode cX7_init 41 = .ok (.putfield 31, 3) := by decide +kernel
theorem dX7_init_44 : decode cX7_init 44 = .ok (.aload_n 0, 1) := by decide +kernel
theorem dX7_init_45 : decode cX7_init 45 = .ok (.aload_n 1, 1) := by decide +kernel
theorem dX7_init_46 : decode cX7_init 46 = .ok (.getfield 32, 3) := by decide +kernel
theorem dX7_init_49 : decode cX7_init 49 = .ok (.putfield 36, 3) := by decide +kernel
theorem dX7_init_52 : decode cX7_init 52 = .ok (.aload_n 0, 1) := by decide +kernel
theorem dX7_init_53 : decode cX7_init 53 = .ok (.aload_n 2, 1) := by decide +kernel
theorem dX7_init_54 : decode cX7_init 54 = .ok (.putfield 37, 3) := by decide +kernel
theorem dX7_init_57 : decode cX7_init 57 = .ok (.return_, 1) := by decide +kernel
theorem dX7_goOn_0 : decode cX7_goOn 0 = .ok (.aload_n 0, 1) := by decide +kernel
theorem dX7_goOn_1 : decode cX7_goOn 1 = .ok (.getfield 36, 3) := by decide +kernel
theorem dX7_goOn_4 : decode cX7_goOn 4 = .ok (.getfield 40, 3) := by decide +kernel
theorem dX7_goOn_7 : decode cX7_goOn 7 = .ok (.ifCond .ne 7, 3) := by decide +kernel
theorem dX7_goOn_10 : decode cX7_goOn 10 = .ok (.aload_n 0, 1) := by decide +kernel
theorem dX7_goOn_11 : decode cX7_goOn 11 = .ok (.invokevirtual 46, 3) := by decide +kernel
theorem dX7_goOn_14 : decode cX7_goOn 14 = .ok (.aload_n 0, 1) := by decide +kernel
theorem dX7_goOn_15 : decode cX7_goOn 15 = .ok (.iload_n 1, 1) := by decide +kernel
theorem dX7_goOn_16 : decode cX7_goOn 16 = .ok (.invokevirtual 49, 3) := by decide +kernel
theorem dX7_goOn_19 : decode cX7_goOn 19 = .ok (.istore_n 2, 1) := by decide +kernel
theorem dX7_goOn_20 : decode cX7_goOn 20 = .ok (.aload_n 0, 1) := by decide +kernel
theorem dX7_goOn_21 : decode cX7_goOn 21 = .ok (.invokevirtual 53, 3) := by decide +kernel
theorem dX7_goOn_24 : decode cX7_goOn 24 = .ok (.ifCond .ne 7, 3) := by decide +kernel
theorem dX7_goOn_27 : decode cX7_goOn 27 = .ok (.aload_n 0, 1) := by decide +kernel
theorem dX7_goOn_28 : decode cX7_goOn 28 = .ok (.invokevirtual 57, 3) := by decide +kernel
theorem dX7_goOn_31 : decode cX7_goOn 31 = .ok (.iload_n 2, 1) := by decide +kernel
theorem dX7_goOn_32 : decode cX7_goOn 32 = .ok (.ireturn, 1) := by decide +kernel
theorem dX7_finish_0 : decode cX7_finish 0 = .ok (.aload_n 0, 1) := by decide +kernel
theorem dX7_finish_1 : decode cX7_finish 1 = .ok (.getfield 36, 3) := by decide +kernel
theorem dX7_finish_4 : decode cX7_finish 4 = .ok (.getfield 40, 3) := by decide +kernel
theorem dX7_finish_7 : decode cX7_finish 7 = .ok (.ifCond .ne 7, 3) := by decide +kernel
theorem dX7_finish_10 : decode cX7_finish 10 = .ok (.aload_n 0, 1) := by decide +kernel
theorem dX7_finish_11 : decode cX7_finish 11 = .ok (.invokevirtual 46, 3) := by decide +kernel
theorem dX7_finish_14 : decode cX7_finish 14 = .ok (.aload_n 0, 1) := by decide +kernel
theorem dX7_finish_15 : decode cX7_finish 15 = .ok (.ldc 60, 2) := by decide +kernel
theorem dX7_finish_17 : decode cX7_finish 17 = .ok (.invokevirtual 49, 3) := by decide +kernel
theorem dX7_finish_20 : decode cX7_finish 20 = .ok (.pop, 1) := by decide +kernel
theorem dX7_finish_21 : decode cX7_finish 21 = .ok (.aload_n 0, 1) := by decide +kernel
theorem dX7_finish_22 : decode cX7_finish 22 = .ok (.invokevirtual 57, 3) := by decide +kernel
theorem dX7_finish_25 : decode cX7_finish 25 = .ok (.return_, 1) := by decide +kernel
theorem dX7_mark_0 : decode cX7_mark 0 = .ok (.aload_n 0, 1) := by decide +kernel
theorem dX7_mark_1 : decode cX7_mark 1 = .ok (.getfield 36, 3) := by decide +kernel
theorem dX7_mark_4 : decode cX7_mark 4 = .ok (.getfield 40, 3) := by decide +kernel
theorem dX7_mark_7 : decode cX7_mark 7 = .ok (.ifCond .eq 26, 3) := by decide +kernel
theorem dX7_mark_10 : decode cX7_mark 10 = .ok (.aload_n 0, 1) := by decide +kernel
theorem dX7_mark_11 : decode cX7_mark 11 = .ok (.getfield 31, 3) := by decide +kernel
theorem dX7_mark_14 : decode cX7_mark 14 = .ok (.iload_n 1, 1) := by decide +kernel
theorem dX7_mark_15 : decode cX7_mark 15 = .ok (.invokevirtual 61, 3) := by decide +kernel
theorem dX7_mark_18 : decode cX7_mark 18 = .ok (.ifCond .eq 15, 3) := by decide +kernel
theorem dX7_mark_21 : decode cX7_mark 21 = .ok (.aload_n 0, 1) := by decide +kernel
theorem dX7_mark_22 : decode cX7_mark 22 = .ok (.getfield 36, 3) := by decide +kernel
theorem dX7_mark_25 : decode cX7_mark 25 = .ok (.iload_n 1, 1) := by decide +kernel
theorem dX7_mark_26 : decode cX7_mark 26 = .ok (.iload_n 2, 1) := by decide +kernel
theorem dX7_mark_27 : decode cX7_mark 27 = .ok (.iload_n 3, 1) := by decide +kernel
theorem dX7_mark_28 : decode cX7_mark 28 = .ok (.iload 4, 2) := by decide +kernel
theorem dX7_mark_30 : decode cX7_mark 30 = .ok (.invokevirtual 67, 3) := by decide +kernel
theorem dX7_mark_33 : decode cX7_mark 33 = .ok (.return_, 1) := by decide +kernel
theorem dX7_begin_0 : decode cX7_begin 0 = .ok (.aload_n 0, 1) := by decide +kernel
theorem dX7_begin_1 : decode cX7_begin 1 = .ok (.getfield 36, 3) := by decide +kernel
theorem dX7_begin_4 : decode cX7_begin 4 = .ok (.invokevirtual 71, 3) := by decide +kernel
theorem dX7_begin_7 : decode cX7_begin 7 = .ok (.aload_n 0, 1) := by decide +kernel
theorem dX7_begin_8 : decode cX7_begin 8 = .ok (.getfield 36, 3) := by decide +kernel
theorem dX7_begin_11 : decode cX7_begin 11 = .ok (.iconst 1, 1) := by decide +kernel
theorem dX7_begin_12 : decode cX7_begin 12 = .ok (.putfield 40, 3) := by decide +kernel
theorem dX7_begin_15 : decode cX7_begin 15 = .ok (.iconst 0, 1) := by decide +kernel
theorem dX7_begin_16 : decode cX7_begin 16 = .ok (.istore_n 1, 1) := by decide +kernel
theorem dX7_begin_17 : decode cX7_begin 17 = .ok (.iload_n 1, 1) := by decide +kernel
theorem dX7_begin_18 : decode cX7_begin 18 = .ok (.bipush 24, 2) := by decide +kernel
theorem dX7_begin_20 : decode cX7_begin 20 = .ok (.if_icmp .ge 25, 3) := by decide +kernel
theorem dX7_begin_23 : decode cX7_begin 23 = .ok (.aload_n 0, 1) := by decide +kernel
theorem dX7_begin_24 : decode cX7_begin 24 = .ok (.aload_n 0, 1) := by decide +kernel
theorem dX7_begin_25 : decode cX7_begin 25 = .ok (.getfield 21, 3) := by decide +kernel
theorem dX7_begin_28 : decode cX7_begin 28 = .ok (.getfield 74, 3) := by decide +kernel
theorem dX7_begin_31 : decode cX7_begin 31 = .ok (.iload_n 1, 1) := by decide +kernel
theorem dX7_begin_32 : decode cX7_begin 32 = .ok (.iaload, 1) := by decide +kernel
theorem dX7_begin_33 : decode cX7_begin 33 = .ok (.iconst 0, 1) := by decide +kernel
theorem dX7_begin_34 : decode cX7_begin 34 = .ok (.iload_n 1, 1) := by decide +kernel
theorem dX7_begin_35 : decode cX7_begin 35 = .ok (.iconst (-1), 1) := by decide +kernel
theorem dX7_begin_36 : decode cX7_begin 36 = .ok (.invokevirtual 77, 3) := by decide +kernel
theorem dX7_begin_39 : decode cX7_begin 39 = .ok (.iinc 1 1, 3) := by decide +kernel
theorem dX7_begin_42 : decode cX7_begin 42 = .ok (.goto (-25), 3) := by decide +kernel
theorem dX7_begin_45 : decode cX7_begin 45 = .ok (.return_, 1) := by decide +kernel
theorem dX7_lookThrough_0 : decode cX7_lookThrough 0 = .ok (.iconst 0, 1) := by decide +kernel
theorem dX7_lookThrough_1 : decode cX7_lookThrough 1 = .ok (.istore_n 2, 1) := by decide +kernel
theorem dX7_lookThrough_2 : decode cX7_lookThrough 2 = .ok (.iload_n 2, 1) := by decide +kernel
theorem dX7_lookThrough_3 : decode cX7_lookThrough 3 = .ok (.iload_n 1, 1) := by decide +kernel
theorem dX7_lookThrough_4 : decode cX7_lookThrough 4 = .ok (.if_icmp .ge 81, 3) := by decide +kernel
theorem dX7_lookThrough_7 : decode cX7_lookThrough 7 = .ok (.aload_n 0, 1) := by decide +kernel
theorem dX7_lookThrough_8 : decode cX7_lookThrough 8 = .ok (.invokevirtual 53, 3) := by decide +kernel
theorem dX7_lookThrough_11 : decode cX7_lookThrough 11 = .ok (.ifCond .eq 74, 3) := by decide +kernel
theorem dX7_lookThrough_14 : decode cX7_lookThrough 14 = .ok (.aload_n 0, 1) := by decide +kernel
theorem dX7_lookThrough_15 : decode cX7_lookThrough 15 = .ok (.getfield 36, 3) := by decide +kernel
theorem dX7_lookThrough_18 : decode cX7_lookThrough 18 = .ok (.getfield 80, 3) := by decide +kernel
theorem dX7_lookThrough_21 : decode cX7_lookThrough 21 = .ok (.aload_n 0, 1) := by decide +kernel
theorem dX7_lookThrough_22 : decode cX7_lookThrough 22 = .ok (.getfield 36, 3) := by decide +kernel
theorem dX7_lookThrough_25 : decode cX7_lookThrough 25 = .ok (.getfield 83, 3) := by decide +kernel
theorem dX7_lookThrough_28 : decode cX7_lookThrough 28 = .ok (.iaload, 1) := by decide +kernel
theorem dX7_lookThrough_29 : decode cX7_lookThrough 29 = .ok (.istore_n 3, 1) := by decide +kernel
theorem dX7_lookThrough_30 : decode cX7_lookThrough 30 = .ok (.aload_n 0, 1) := by decide +kernel
theorem dX7_lookThrough_31 : decode cX7_lookThrough 31 = .ok (.getfield 36, 3) := by decide +kernel
theorem dX7_lookThrough_34 : decode cX7_lookThrough 34 = .ok (.getfield 87, 3) := by decide +kernel
theorem dX7_lookThrough_37 : decode cX7_lookThrough 37 = .ok (.istore 4, 2) := by decide +kernel
theorem dX7_lookThrough_39 : decode cX7_lookThrough 39 = .ok (.aload_n 0, 1) := by decide +kernel
theorem dX7_lookThrough_40 : decode cX7_lookThrough 40 = .ok (.aload_n 0, 1) := by decide +kernel
theorem dX7_lookThrough_41 : decode cX7_lookThrough 41 = .ok (.getfield 31, 3) := by decide +kernel
theorem dX7_lookThrough_44 : decode cX7_lookThrough 44 = .ok (.getfield 90, 3) := by decide +kernel
theorem dX7_lookThrough_47 : decode cX7_lookThrough 47 = .ok (.aload_n 0, 1) := by decide +kernel
theorem dX7_lookThrough_48 : decode cX7_lookThrough 48 = .ok (.getfield 31, 3) := by decide +kernel
theorem dX7_lookThrough_51 : decode cX7_lookThrough 51 = .ok (.iload_n 3, 1) := by decide +kernel
theorem dX7_lookThrough_52 : decode cX7_lookThrough 52 = .ok (.invokevirtual 93, 3) := by decide +kernel
theorem dX7_lookThrough_55 : decode cX7_lookThrough 55 = .ok (.iload 4, 2) := by decide +kernel
theorem dX7_lookThrough_57 : decode cX7_lookThrough 57 = .ok (.iadd, 1) := by decide +kernel
theorem dX7_lookThrough_58 : decode cX7_lookThrough 58 = .ok (.iaload, 1) := by decide +kernel
theorem dX7_lookThrough_59 : decode cX7_lookThrough 59 = .ok (.iconst 1, 1) := by decide +kernel
theorem dX7_lookThrough_60 : decode cX7_lookThrough 60 = .ok (.iload_n 3, 1) := by decide +kernel
theorem dX7_lookThrough_61 : decode cX7_lookThrough 61 = .ok (.iload 4, 2) := by decide +kernel
theorem dX7_lookThrough_63 : decode cX7_lookThrough 63 = .ok (.invokevirtual 77, 3) := by decide +kernel
theorem dX7_lookThrough_66 : decode cX7_lookThrough 66 = .ok (.aload_n 0, 1) := by decide +kernel
theorem dX7_lookThrough_67 : decode cX7_lookThrough 67 = .ok (.getfield 36, 3) := by decide +kernel
theorem dX7_lookThrough_70 : decode cX7_lookThrough 70 = .ok (.dup, 1) := by decide +kernel
theorem dX7_lookThrough_71 : decode cX7_lookThrough 71 = .ok (.getfield 87, 3) := by decide +kernel
theorem dX7_lookThrough_74 : decode cX7_lookThrough 74 = .ok (.iconst 1, 1) := by decide +kernel
theorem dX7_lookThrough_75 : decode cX7_lookThrough 75 = .ok (.iadd, 1) := by decide +kernel
theorem dX7_lookThrough_76 : decode cX7_lookThrough 76 = .ok (.putfield 87, 3) := by decide +kernel
theorem dX7_lookThrough_79 : decode cX7_lookThrough 79 = .ok (.iinc 2 1, 3) := by decide +kernel
theorem dX7_lookThrough_82 : decode cX7_lookThrough 82 = .ok (.goto (-80), 3) := by decide +kernel
theorem dX7_lookThrough_85 : decode cX7_lookThrough 85 = .ok (.iload_n 2, 1) := by decide +kernel
theorem dX7_lookThrough_86 : decode cX7_lookThrough 86 = .ok (.ireturn, 1) := by decide +kernel
theorem dX7_goToOpenLink_0 : decode cX7_goToOpenLink 0 = .ok (.aload_n 0, 1) := by decide +kernel
theorem dX7_goToOpenLink_1 : decode cX7_goToOpenLink 1 = .ok (.getfield 36, 3) := by decide +kernel
theorem dX7_goToOpenLink_4 : decode cX7_goToOpenLink 4 = .ok (.getfield 83, 3) := by decide +kernel
theorem dX7_goToOpenLink_7 : decode cX7_goToOpenLink 7 = .ok (.aload_n 0, 1) := by decide +kernel
theorem dX7_goToOpenLink_8 : decode cX7_goToOpenLink 8 = .ok (.getfield 36, 3) := by decide +kernel
theorem dX7_goToOpenLink_11 : decode cX7_goToOpenLink 11 = .ok (.getfield 96, 3) := by decide +kernel
theorem dX7_goToOpenLink_14 : decode cX7_goToOpenLink 14 = .ok (.if_icmp .ge 61, 3) := by decide +kernel
theorem dX7_goToOpenLink_17 : decode cX7_goToOpenLink 17 = .ok (.aload_n 0, 1) := by decide +kernel
theorem dX7_goToOpenLink_18 : decode cX7_goToOpenLink 18 = .ok (.getfield 36, 3) := by decide +kernel
theorem dX7_goToOpenLink_21 : decode cX7_goToOpenLink 21 = .ok (.getfield 87, 3) := by decide +kernel
theorem dX7_goToOpenLink_24 : decode cX7_goToOpenLink 24 = .ok (.aload_n 0, 1) := by decide +kernel
theorem dX7_goToOpenLink_25 : decode cX7_goToOpenLink 25 = .ok (.getfield 31, 3) := by decide +kernel
theorem dX7_goToOpenLink_28 : decode cX7_goToOpenLink 28 = .ok (.aload_n 0, 1) := by decide +kernel
theorem dX7_goToOpenLink_29 : decode cX7_goToOpenLink 29 = .ok (.getfield 36, 3) := by decide +kernel
theorem dX7_goToOpenLink_32 : decode cX7_goToOpenLink 32 = .ok (.getfield 80, 3) := by decide +kernel
theorem dX7_goToOpenLink_35 : decode cX7_goToOpenLink 35 = .ok (.aload_n 0, 1) := by decide +kernel
theorem dX7_goToOpenLink_36 : decode cX7_goToOpenLink 36 = .ok (.getfield 36, 3) := by decide +kernel
theorem dX7_goToOpenLink_39 : decode cX7_goToOpenLink 39 = .ok (.getfield 83, 3) := by decide +kernel
theorem dX7_goToOpenLink_42 : decode cX7_goToOpenLink 42 = .ok (.iaload, 1) := by decide +kernel
theorem dX7_goToOpenLink_43 : decode cX7_goToOpenLink 43 = .ok (.invokevirtual 99, 3) := by decide +kernel
theorem dX7_goToOpenLink_46 : decode cX7_goToOpenLink 46 = .ok (.if_icmp .ge 5, 3) := by decide +kernel
theorem dX7_goToOpenLink_49 : decode cX7_goToOpenLink 49 = .ok (.iconst 1, 1) := by decide +kernel
theorem dX7_goToOpenLink_50 : decode cX7_goToOpenLink 50 = .ok (.ireturn, 1) := by decide +kernel
theorem dX7_goToOpenLink_51 : decode cX7_goToOpenLink 51 = .ok (.aload_n 0, 1) := by decide +kernel
theorem dX7_goToOpenLink_52 : decode cX7_goToOpenLink 52 = .ok (.getfield 36, 3) := by decide +kernel
theorem dX7_goToOpenLink_55 : decode cX7_goToOpenLink 55 = .ok (.dup, 1) := by decide +kernel
theorem dX7_goToOpenLink_56 : decode cX7_goToOpenLink 56 = .ok (.getfield 83, 3) := by decide +kernel
theorem dX7_goToOpenLink_59 : decode cX7_goToOpenLink 59 = .ok (.iconst 1, 1) := by decide +kernel
theorem dX7_goToOpenLink_60 : decode cX7_goToOpenLink 60 = .ok (.iadd, 1) := by decide +kernel
theorem dX7_goToOpenLink_61 : decode cX7_goToOpenLink 61 = .ok (.putfield 83, 3) := by decide +kernel
theorem dX7_goToOpenLink_64 : decode cX7_goToOpenLink 64 = .ok (.aload_n 0, 1) := by decide +kernel
theorem dX7_goToOpenLink_65 : decode cX7_goToOpenLink 65 = .ok (.getfield 36, 3) := by decide +kernel
theorem dX7_goToOpenLink_68 : decode cX7_goToOpenLink 68 = .ok (.iconst 0, 1) := by decide +kernel
theorem dX7_goToOpenLink_69 : decode cX7_goToOpenLink 69 = .ok (.putfield 87, 3) := by decide +kernel
theorem dX7_goToOpenLink_72 : decode cX7_goToOpenLink 72 = .ok (.goto (-72), 3) := by decide +kernel
theorem dX7_goToOpenLink_75 : decode cX7_goToOpenLink 75 = .ok (.iconst 0, 1) := by decide +kernel
theorem dX7_goToOpenLink_76 : decode cX7_goToOpenLink 76 = .ok (.ireturn, 1) := by decide +kernel
theorem dX7_howManyOpen_0 : decode cX7_howManyOpen 0 = .ok (.iconst 0, 1) := by decide +kernel
theorem dX7_howManyOpen_1 : decode cX7_howManyOpen 1 = .ok (.istore_n 1, 1) := by decide +kernel
theorem dX7_howManyOpen_2 : decode cX7_howManyOpen 2 = .ok (.aload_n 0, 1) := by decide +kernel
theorem dX7_howManyOpen_3 : decode cX7_howManyOpen 3 = .ok (.getfield 36, 3) := by decide +kernel
theorem dX7_howManyOpen_6 : decode cX7_howManyOpen 6 = .ok (.getfield 83, 3) := by decide +kernel
theorem dX7_howManyOpen_9 : decode cX7_howManyOpen 9 = .ok (.istore_n 2, 1) := by decide +kernel
theorem dX7_howManyOpen_10 : decode cX7_howManyOpen 10 = .ok (.iload_n 2, 1) := by decide +kernel
theorem dX7_howManyOpen_11 : decode cX7_howManyOpen 11 = .ok (.aload_n 0, 1) := by decide +kernel
theorem dX7_howManyOpen_12 : decode cX7_howManyOpen 12 = .ok (.getfield 36, 3) := by decide +kernel
theorem dX7_howManyOpen_15 : decode cX7_howManyOpen 15 = .ok (.getfield 96, 3) := by decide +kernel
theorem dX7_howManyOpen_18 : decode cX7_howManyOpen 18 = .ok (.if_icmp .ge 55, 3) := by decide +kernel
theorem dX7_howManyOpen_21 : decode cX7_howManyOpen 21 = .ok (.iload_n 2, 1) := by decide +kernel
theorem dX7_howManyOpen_22 : decode cX7_howManyOpen 22 = .ok (.aload_n 0, 1) := by decide +kernel
theorem dX7_howManyOpen_23 : decode cX7_howManyOpen 23 = .ok (.getfield 36, 3) := by decide +kernel
theorem dX7_howManyOpen_26 : decode cX7_howManyOpen 26 = .ok (.getfield 83, 3) := by decide +kernel
theorem dX7_howManyOpen_29 : decode cX7_howManyOpen 29 = .ok (.if_icmp .ne 13, 3) := by decide +kernel
theorem dX7_howManyOpen_32 : decode cX7_howManyOpen 32 = .ok (.aload_n 0, 1) := by decide +kernel
theorem dX7_howManyOpen_33 : decode cX7_howManyOpen 33 = .ok (.getfield 36, 3) := by decide +kernel
theorem dX7_howManyOpen_36 : decode cX7_howManyOpen 36 = .ok (.getfield 87, 3) := by decide +kernel
theorem dX7_howManyOpen_39 : decode cX7_howManyOpen 39 = .ok (.goto 4, 3) := by decide +kernel
theorem dX7_howManyOpen_42 : decode cX7_howManyOpen 42 = .ok (.iconst 0, 1) := by decide +kernel
theorem dX7_howManyOpen_43 : decode cX7_howManyOpen 43 = .ok (.istore_n 3, 1) := by decide +kernel
theorem dX7_howManyOpen_44 : decode cX7_howManyOpen 44 = .ok (.iload_n 3, 1) := by decide +kernel
theorem dX7_howManyOpen_45 : decode cX7_howManyOpen 45 = .ok (.aload_n 0, 1) := by decide +kernel
theorem dX7_howManyOpen_46 : decode cX7_howManyOpen 46 = .ok (.getfield 31, 3) := by decide +kernel
theorem dX7_howManyOpen_49 : decode cX7_howManyOpen 49 = .ok (.aload_n 0, 1) := by decide +kernel
theorem dX7_howManyOpen_50 : decode cX7_howManyOpen 50 = .ok (.getfield 36, 3) := by decide +kernel
theorem dX7_howManyOpen_53 : decode cX7_howManyOpen 53 = .ok (.getfield 80, 3) := by decide +kernel
theorem dX7_howManyOpen_56 : decode cX7_howManyOpen 56 = .ok (.iload_n 2, 1) := by decide +kernel
theorem dX7_howManyOpen_57 : decode cX7_howManyOpen 57 = .ok (.iaload, 1) := by decide +kernel
theorem dX7_howManyOpen_58 : decode cX7_howManyOpen 58 = .ok (.invokevirtual 99, 3) := by decide +kernel
theorem dX7_howManyOpen_61 : decode cX7_howManyOpen 61 = .ok (.if_icmp .ge 6, 3) := by decide +kernel
theorem dX7_howManyOpen_64 : decode cX7_howManyOpen 64 = .ok (.iinc 1 1, 3) := by decide +kernel
theorem dX7_howManyOpen_67 : decode cX7_howManyOpen 67 = .ok (.iinc 2 1, 3) := by decide +kernel
theorem dX7_howManyOpen_70 : decode cX7_howManyOpen 70 = .ok (.goto (-60), 3) := by decide +kernel
theorem dX7_howManyOpen_73 : decode cX7_howManyOpen 73 = .ok (.iload_n 1, 1) := by decide +kernel
theorem dX7_howManyOpen_74 : decode cX7_howManyOpen 74 = .ok (.ireturn, 1) := by decide +kernel
theorem dX7_end_0 : decode cX7_end 0 = .ok (.aload_n 0, 1) := by decide +kernel
theorem dX7_end_1 : decode cX7_end 1 = .ok (.getfield 21, 3) := by decide +kernel
theorem dX7_end_4 : decode cX7_end 4 = .ok (.getfield 102, 3) := by decide +kernel
theorem dX7_end_7 : decode cX7_end 7 = .ok (.dup, 1) := by decide +kernel
theorem dX7_end_8 : decode cX7_end 8 = .ok (.getfield 106, 3) := by decide +kernel
theorem dX7_end_11 : decode cX7_end 11 = .ok (.iconst 1, 1) := by decide +kernel
theorem dX7_end_12 : decode cX7_end 12 = .ok (.iadd, 1) := by decide +kernel
theorem dX7_end_13 : decode cX7_end 13 = .ok (.putfield 106, 3) := by decide +kernel
theorem dX7_end_16 : decode cX7_end 16 = .ok (.aload_n 0, 1) := by decide +kernel
theorem dX7_end_17 : decode cX7_end 17 = .ok (.invokevirtual 111, 3) := by decide +kernel
theorem dX7_end_20 : decode cX7_end 20 = .ok (.aload_n 0, 1) := by decide +kernel
theorem dX7_end_21 : decode cX7_end 21 = .ok (.invokevirtual 114, 3) := by decide +kernel
theorem dX7_end_24 : decode cX7_end 24 = .ok (.aload_n 0, 1) := by decide +kernel
theorem dX7_end_25 : decode cX7_end 25 = .ok (.invokevirtual 117, 3) := by decide +kernel
theorem dX7_end_28 : decode cX7_end 28 = .ok (.aload_n 0, 1) := by decide +kernel
theorem dX7_end_29 : decode cX7_end 29 = .ok (.invokevirtual 120, 3) := by decide +kernel
theorem dX7_end_32 : decode cX7_end 32 = .ok (.aload_n 0, 1) := by decide +kernel
theorem dX7_end_33 : decode cX7_end 33 = .ok (.getfield 36, 3) := by decide +kernel
theorem dX7_end_36 : decode cX7_end 36 = .ok (.invokevirtual 71, 3) := by decide +kernel
theorem dX7_end_39 : decode cX7_end 39 = .ok (.return_, 1) := by decide +kernel
theorem dX7_giveBackUnmarked_0 : decode cX7_giveBackUnmarked 0 = .ok (.aload_n 0, 1) := by decide +kernel
theorem dX7_giveBackUnmarked_1 : decode cX7_giveBackUnmarked 1 = .ok (.iconst 0, 1) := by decide +kernel
theorem dX7_giveBackUnmarked_2 : decode cX7_giveBackUnmarked 2 = .ok (.putfield 123, 3) := by decide +kernel
theorem dX7_giveBackUnmarked_5 : decode cX7_giveBackUnmarked 5 = .ok (.iconst 0, 1) := by decide +kernel
theorem dX7_giveBackUnmarked_6 : decode cX7_giveBackUnmarked 6 = .ok (.istore_n 1, 1) := by decide +kernel
theorem dX7_giveBackUnmarked_7 : decode cX7_giveBackUnmarked 7 = .ok (.iload_n 1, 1) := by decide +kernel
theorem dX7_giveBackUnmarked_8 : decode cX7_giveBackUnmarked 8 = .ok (.aload_n 0, 1) := by decide +kernel
theorem dX7_giveBackUnmarked_9 : decode cX7_giveBackUnmarked 9 = .ok (.getfield 31, 3) := by decide +kernel
theorem dX7_giveBackUnmarked_12 : decode cX7_giveBackUnmarked 12 = .ok (.getfield 126, 3) := by decide +kernel
theorem dX7_giveBackUnmarked_15 : decode cX7_giveBackUnmarked 15 = .ok (.if_icmp .ge 72, 3) := by decide +kernel
theorem dX7_giveBackUnmarked_18 : decode cX7_giveBackUnmarked 18 = .ok (.aload_n 0, 1) := by decide +kernel
theorem dX7_giveBackUnmarked_19 : decode cX7_giveBackUnmarked 19 = .ok (.getfield 31, 3) := by decide +kernel
theorem dX7_giveBackUnmarked_22 : decode cX7_giveBackUnmarked 22 = .ok (.iload_n 1, 1) := by decide +kernel
theorem dX7_giveBackUnmarked_23 : decode cX7_giveBackUnmarked 23 = .ok (.invokevirtual 61, 3) := by decide +kernel
theorem dX7_giveBackUnmarked_26 : decode cX7_giveBackUnmarked 26 = .ok (.ifCond .eq 55, 3) := by decide +kernel
theorem dX7_giveBackUnmarked_29 : decode cX7_giveBackUnmarked 29 = .ok (.aload_n 0, 1) := by decide +kernel
theorem dX7_giveBackUnmarked_30 : decode cX7_giveBackUnmarked 30 = .ok (.getfield 36, 3) := by decide +kernel
theorem dX7_giveBackUnmarked_33 : decode cX7_giveBackUnmarked 33 = .ok (.getfield 129, 3) := by decide +kernel
theorem dX7_giveBackUnmarked_36 : decode cX7_giveBackUnmarked 36 = .ok (.iload_n 1, 1) := by decide +kernel
theorem dX7_giveBackUnmarked_37 : decode cX7_giveBackUnmarked 37 = .ok (.iaload, 1) := by decide +kernel
theorem dX7_giveBackUnmarked_38 : decode cX7_giveBackUnmarked 38 = .ok (.ifCond .ne 43, 3) := by decide +kernel
theorem dX7_giveBackUnmarked_41 : decode cX7_giveBackUnmarked 41 = .ok (.aload_n 0, 1) := by decide +kernel
theorem dX7_giveBackUnmarked_42 : decode cX7_giveBackUnmarked 42 = .ok (.aload_n 0, 1) := by decide +kernel
theorem dX7_giveBackUnmarked_43 : decode cX7_giveBackUnmarked 43 = .ok (.getfield 31, 3) := by decide +kernel
theorem dX7_giveBackUnmarked_46 : decode cX7_giveBackUnmarked 46 = .ok (.iload_n 1, 1) := by decide +kernel
theorem dX7_giveBackUnmarked_47 : decode cX7_giveBackUnmarked 47 = .ok (.invokevirtual 132, 3) := by decide +kernel
theorem dX7_giveBackUnmarked_50 : decode cX7_giveBackUnmarked 50 = .ok (.invokevirtual 135, 3) := by decide +kernel
theorem dX7_giveBackUnmarked_53 : decode cX7_giveBackUnmarked 53 = .ok (.aload_n 0, 1) := by decide +kernel
theorem dX7_giveBackUnmarked_54 : decode cX7_giveBackUnmarked 54 = .ok (.getfield 31, 3) := by decide +kernel
theorem dX7_giveBackUnmarked_57 : decode cX7_giveBackUnmarked 57 = .ok (.iload_n 1, 1) := by decide +kernel
theorem dX7_giveBackUnmarked_58 : decode cX7_giveBackUnmarked 58 = .ok (.invokevirtual 139, 3) := by decide +kernel
theorem dX7_giveBackUnmarked_61 : decode cX7_giveBackUnmarked 61 = .ok (.aload_n 0, 1) := by decide +kernel
theorem dX7_giveBackUnmarked_62 : decode cX7_giveBackUnmarked 62 = .ok (.getfield 9, 3) := by decide +kernel
theorem dX7_giveBackUnmarked_65 : decode cX7_giveBackUnmarked 65 = .ok (.aload_n 0, 1) := by decide +kernel
theorem dX7_giveBackUnmarked_66 : decode cX7_giveBackUnmarked 66 = .ok (.getfield 123, 3) := by decide +kernel
theorem dX7_giveBackUnmarked_69 : decode cX7_giveBackUnmarked 69 = .ok (.iload_n 1, 1) := by decide +kernel
theorem dX7_giveBackUnmarked_70 : decode cX7_giveBackUnmarked 70 = .ok (.iastore, 1) := by decide +kernel
theorem dX7_giveBackUnmarked_71 : decode cX7_giveBackUnmarked 71 = .ok (.aload_n 0, 1) := by decide +kernel
theorem dX7_giveBackUnmarked_72 : decode cX7_giveBackUnmarked 72 = .ok (.dup, 1) := by decide +kernel
theorem dX7_giveBackUnmarked_73 : decode cX7_giveBackUnmarked 73 = .ok (.getfield 123, 3) := by decide +kernel
theorem dX7_giveBackUnmarked_76 : decode cX7_giveBackUnmarked 76 = .ok (.iconst 1, 1) := by decide +kernel
theorem dX7_giveBackUnmarked_77 : decode cX7_giveBackUnmarked 77 = .ok (.iadd, 1) := by decide +kernel
theorem dX7_giveBackUnmarked_78 : decode cX7_giveBackUnmarked 78 = .ok (.putfield 123, 3) := by decide +kernel
theorem dX7_giveBackUnmarked_81 : decode cX7_giveBackUnmarked 81 = .ok (.iinc 1 1, 3) := by decide +kernel
theorem dX7_giveBackUnmarked_84 : decode cX7_giveBackUnmarked 84 = .ok (.goto (-77), 3) := by decide +kernel
theorem dX7_giveBackUnmarked_87 : decode cX7_giveBackUnmarked 87 = .ok (.aload_n 0, 1) := by decide +kernel
theorem dX7_giveBackUnmarked_88 : decode cX7_giveBackUnmarked 88 = .ok (.invokevirtual 142, 3) := by decide +kernel
theorem dX7_giveBackUnmarked_91 : decode cX7_giveBackUnmarked 91 = .ok (.aload_n 0, 1) := by decide +kernel
theorem dX7_giveBackUnmarked_92 : decode cX7_giveBackUnmarked 92 = .ok (.getfield 21, 3) := by decide +kernel
theorem dX7_giveBackUnmarked_95 : decode cX7_giveBackUnmarked 95 = .ok (.getfield 102, 3) := by decide +kernel
theorem dX7_giveBackUnmarked_98 : decode cX7_giveBackUnmarked 98 = .ok (.aload_n 0, 1) := by decide +kernel
theorem dX7_giveBackUnmarked_99 : decode cX7_giveBackUnmarked 99 = .ok (.getfield 31, 3) := by decide +kernel
theorem dX7_giveBackUnmarked_102 : decode cX7_giveBackUnmarked 102 = .ok (.getfield 145, 3) := by decide +kernel
theorem dX7_giveBackUnmarked_105 : decode cX7_giveBackUnmarked 105 = .ok (.putfield 148, 3) := by decide +kernel
theorem dX7_giveBackUnmarked_108 : decode cX7_giveBackUnmarked 108 = .ok (.aload_n 0, 1) := by decide +kernel
theorem dX7_giveBackUnmarked_109 : decode cX7_giveBackUnmarked 109 = .ok (.getfield 21, 3) := by decide +kernel
theorem dX7_giveBackUnmarked_112 : decode cX7_giveBackUnmarked 112 = .ok (.getfield 102, 3) := by decide +kernel
theorem dX7_giveBackUnmarked_115 : decode cX7_giveBackUnmarked 115 = .ok (.aload_n 0, 1) := by decide +kernel
theorem dX7_giveBackUnmarked_116 : decode cX7_giveBackUnmarked 116 = .ok (.getfield 123, 3) := by decide +kernel
theorem dX7_giveBackUnmarked_119 : decode cX7_giveBackUnmarked 119 = .ok (.putfield 151, 3) := by decide +kernel
theorem dX7_giveBackUnmarked_122 : decode cX7_giveBackUnmarked 122 = .ok (.aload_n 0, 1) := by decide +kernel
theorem dX7_giveBackUnmarked_123 : decode cX7_giveBackUnmarked 123 = .ok (.getfield 21, 3) := by decide +kernel
theorem dX7_giveBackUnmarked_126 : decode cX7_giveBackUnmarked 126 = .ok (.getfield 102, 3) := by decide +kernel
theorem dX7_giveBackUnmarked_129 : decode cX7_giveBackUnmarked 129 = .ok (.dup, 1) := by decide +kernel
theorem dX7_giveBackUnmarked_130 : decode cX7_giveBackUnmarked 130 = .ok (.getfield 154, 3) := by decide +kernel
theorem dX7_giveBackUnmarked_133 : decode cX7_giveBackUnmarked 133 = .ok (.aload_n 0, 1) := by decide +kernel
theorem dX7_giveBackUnmarked_134 : decode cX7_giveBackUnmarked 134 = .ok (.getfield 123, 3) := by decide +kernel
theorem dX7_giveBackUnmarked_137 : decode cX7_giveBackUnmarked 137 = .ok (.iadd, 1) := by decide +kernel
theorem dX7_giveBackUnmarked_138 : decode cX7_giveBackUnmarked 138 = .ok (.putfield 154, 3) := by decide +kernel
theorem dX7_giveBackUnmarked_141 : decode cX7_giveBackUnmarked 141 = .ok (.return_, 1) := by decide +kernel
theorem dX7_countGivenBack_0 : decode cX7_countGivenBack 0 = .ok (.aload_n 0, 1) := by decide +kernel
theorem dX7_countGivenBack_1 : decode cX7_countGivenBack 1 = .ok (.getfield 37, 3) := by decide +kernel
theorem dX7_countGivenBack_4 : decode cX7_countGivenBack 4 = .ok (.bipush 11, 2) := by decide +kernel
theorem dX7_countGivenBack_6 : decode cX7_countGivenBack 6 = .ok (.dup2, 1) := by decide +kernel
theorem dX7_countGivenBack_7 : decode cX7_countGivenBack 7 = .ok (.iaload, 1) := by decide +kernel
theorem dX7_countGivenBack_8 : decode cX7_countGivenBack 8 = .ok (.iconst 1, 1) := by decide +kernel
theorem dX7_countGivenBack_9 : decode cX7_countGivenBack 9 = .ok (.iadd, 1) := by decide +kernel
theorem dX7_countGivenBack_10 : decode cX7_countGivenBack 10 = .ok (.iastore, 1) := by decide +kernel
theorem dX7_countGivenBack_11 : decode cX7_countGivenBack 11 = .ok (.iload_n 1, 1) := by decide +kernel
theorem dX7_countGivenBack_12 : decode cX7_countGivenBack 12 = .ok (.iconst 4, 1) := by decide +kernel
theorem dX7_countGivenBack_13 : decode cX7_countGivenBack 13 = .ok (.if_icmp .ne 14, 3) := by decide +kernel
theorem dX7_countGivenBack_16 : decode cX7_countGivenBack 16 = .ok (.aload_n 0, 1) := by decide +kernel
theorem dX7_countGivenBack_17 : decode cX7_countGivenBack 17 = .ok (.getfield 37, 3) := by decide +kernel
theorem dX7_countGivenBack_20 : decode cX7_countGivenBack 20 = .ok (.bipush 12, 2) := by decide +kernel
theorem dX7_countGivenBack_22 : decode cX7_countGivenBack 22 = .ok (.dup2, 1) := by decide +kernel
theorem dX7_countGivenBack_23 : decode cX7_countGivenBack 23 = .ok (.iaload, 1) := by decide +kernel
theorem dX7_countGivenBack_24 : decode cX7_countGivenBack 24 = .ok (.iconst 1, 1) := by decide +kernel
theorem dX7_countGivenBack_25 : decode cX7_countGivenBack 25 = .ok (.iadd, 1) := by decide +kernel
theorem dX7_countGivenBack_26 : decode cX7_countGivenBack 26 = .ok (.iastore, 1) := by decide +kernel
theorem dX7_countGivenBack_27 : decode cX7_countGivenBack 27 = .ok (.return_, 1) := by decide +kernel
theorem dX7_clearShelves_0 : decode cX7_clearShelves 0 = .ok (.aload_n 0, 1) := by decide +kernel
theorem dX7_clearShelves_1 : decode cX7_clearShelves 1 = .ok (.getfield 21, 3) := by decide +kernel
theorem dX7_clearShelves_4 : decode cX7_clearShelves 4 = .ok (.getfield 157, 3) := by decide +kernel
theorem dX7_clearShelves_7 : decode cX7_clearShelves 7 = .ok (.astore_n 1, 1) := by decide +kernel
theorem dX7_clearShelves_8 : decode cX7_clearShelves 8 = .ok (.iconst 0, 1) := by decide +kernel
theorem dX7_clearShelves_9 : decode cX7_clearShelves 9 = .ok (.istore_n 2, 1) := by decide +kernel
theorem dX7_clearShelves_10 : decode cX7_clearShelves 10 = .ok (.iload_n 2, 1) := by decide +kernel
theorem dX7_clearShelves_11 : decode cX7_clearShelves 11 = .ok (.aload_n 1, 1) := by decide +kernel
theorem dX7_clearShelves_12 : decode cX7_clearShelves 12 = .ok (.arraylength, 1) := by decide +kernel
theorem dX7_clearShelves_13 : decode cX7_clearShelves 13 = .ok (.if_icmp .ge 26, 3) := by decide +kernel
theorem dX7_clearShelves_16 : decode cX7_clearShelves 16 = .ok (.aload_n 0, 1) := by decide +kernel
theorem dX7_clearShelves_17 : decode cX7_clearShelves 17 = .ok (.getfield 31, 3) := by decide +kernel
theorem dX7_clearShelves_20 : decode cX7_clearShelves 20 = .ok (.aload_n 1, 1) := by decide +kernel
theorem dX7_clearShelves_21 : decode cX7_clearShelves 21 = .ok (.iload_n 2, 1) := by decide +kernel
theorem dX7_clearShelves_22 : decode cX7_clearShelves 22 = .ok (.iaload, 1) := by decide +kernel
theorem dX7_clearShelves_23 : decode cX7_clearShelves 23 = .ok (.invokevirtual 61, 3) := by decide +kernel
theorem dX7_clearShelves_26 : decode cX7_clearShelves 26 = .ok (.ifCond .ne 7, 3) := by decide +kernel
theorem dX7_clearShelves_29 : decode cX7_clearShelves 29 = .ok (.aload_n 1, 1) := by decide +kernel
theorem dX7_clearShelves_30 : decode cX7_clearShelves 30 = .ok (.iload_n 2, 1) := by decide +kernel
theorem dX7_clearShelves_31 : decode cX7_clearShelves 31 = .ok (.iconst (-1), 1) := by decide +kernel
theorem dX7_clearShelves_32 : decode cX7_clearShelves 32 = .ok (.iastore, 1) := by decide +kernel
theorem dX7_clearShelves_33 : decode cX7_clearShelves 33 = .ok (.iinc 2 1, 3) := by decide +kernel
theorem dX7_clearShelves_36 : decode cX7_clearShelves 36 = .ok (.goto (-26), 3) := by decide +kernel
theorem dX7_clearShelves_39 : decode cX7_clearShelves 39 = .ok (.return_, 1) := by decide +kernel
theorem dX7_fadeWeakLinks_0 : decode cX7_fadeWeakLinks 0 = .ok (.iconst 0, 1) := by decide +kernel
theorem dX7_fadeWeakLinks_1 : decode cX7_fadeWeakLinks 1 = .ok (.istore_n 1, 1) := by decide +kernel
theorem dX7_fadeWeakLinks_2 : decode cX7_fadeWeakLinks 2 = .ok (.iload_n 1, 1) := by decide +kernel
theorem dX7_fadeWeakLinks_3 : decode cX7_fadeWeakLinks 3 = .ok (.aload_n 0, 1) := by decide +kernel
theorem dX7_fadeWeakLinks_4 : decode cX7_fadeWeakLinks 4 = .ok (.getfield 31, 3) := by decide +kernel
theorem dX7_fadeWeakLinks_7 : decode cX7_fadeWeakLinks 7 = .ok (.getfield 126, 3) := by decide +kernel
theorem dX7_fadeWeakLinks_10 : decode cX7_fadeWeakLinks 10 = .ok (.if_icmp .ge 37, 3) := by decide +kernel
theorem dX7_fadeWeakLinks_13 : decode cX7_fadeWeakLinks 13 = .ok (.aload_n 0, 1) := by decide +kernel
theorem dX7_fadeWeakLinks_14 : decode cX7_fadeWeakLinks 14 = .ok (.getfield 31, 3) := by decide +kernel
theorem dX7_fadeWeakLinks_17 : decode cX7_fadeWeakLinks 17 = .ok (.iload_n 1, 1) := by decide +kernel
theorem dX7_fadeWeakLinks_18 : decode cX7_fadeWeakLinks 18 = .ok (.invokevirtual 61, 3) := by decide +kernel
theorem dX7_fadeWeakLinks_21 : decode cX7_fadeWeakLinks 21 = .ok (.ifCond .eq 20, 3) := by decide +kernel
theorem dX7_fadeWeakLinks_24 : decode cX7_fadeWeakLinks 24 = .ok (.aload_n 0, 1) := by decide +kernel
theorem dX7_fadeWeakLinks_25 : decode cX7_fadeWeakLinks 25 = .ok (.getfield 31, 3) := by decide +kernel
theorem dX7_fadeWeakLinks_28 : decode cX7_fadeWeakLinks 28 = .ok (.iconst 3, 1) := by decide +kernel
theorem dX7_fadeWeakLinks_29 : decode cX7_fadeWeakLinks 29 = .ok (.iload_n 1, 1) := by decide +kernel
theorem dX7_fadeWeakLinks_30 : decode cX7_fadeWeakLinks 30 = .ok (.invokevirtual 160, 3) := by decide +kernel
theorem dX7_fadeWeakLinks_33 : decode cX7_fadeWeakLinks 33 = .ok (.ifCond .eq 8, 3) := by decide +kernel
theorem dX7_fadeWeakLinks_36 : decode cX7_fadeWeakLinks 36 = .ok (.aload_n 0, 1) := by decide +kernel
theorem dX7_fadeWeakLinks_37 : decode cX7_fadeWeakLinks 37 = .ok (.iload_n 1, 1) := by decide +kernel
theorem dX7_fadeWeakLinks_38 : decode cX7_fadeWeakLinks 38 = .ok (.invokevirtual 164, 3) := by decide +kernel
theorem dX7_fadeWeakLinks_41 : decode cX7_fadeWeakLinks 41 = .ok (.iinc 1 1, 3) := by decide +kernel
theorem dX7_fadeWeakLinks_44 : decode cX7_fadeWeakLinks 44 = .ok (.goto (-42), 3) := by decide +kernel
theorem dX7_fadeWeakLinks_47 : decode cX7_fadeWeakLinks 47 = .ok (.return_, 1) := by decide +kernel
theorem dX7_fadeWeakLink_0 : decode cX7_fadeWeakLink 0 = .ok (.aload_n 0, 1) := by decide +kernel
theorem dX7_fadeWeakLink_1 : decode cX7_fadeWeakLink 1 = .ok (.getfield 31, 3) := by decide +kernel
theorem dX7_fadeWeakLink_4 : decode cX7_fadeWeakLink 4 = .ok (.iload_n 1, 1) := by decide +kernel
theorem dX7_fadeWeakLink_5 : decode cX7_fadeWeakLink 5 = .ok (.invokevirtual 167, 3) := by decide +kernel
theorem dX7_fadeWeakLink_8 : decode cX7_fadeWeakLink 8 = .ok (.istore_n 2, 1) := by decide +kernel
theorem dX7_fadeWeakLink_9 : decode cX7_fadeWeakLink 9 = .ok (.aload_n 0, 1) := by decide +kernel
theorem dX7_fadeWeakLink_10 : decode cX7_fadeWeakLink 10 = .ok (.getfield 31, 3) := by decide +kernel
theorem dX7_fadeWeakLink_13 : decode cX7_fadeWeakLink 13 = .ok (.getfield 90, 3) := by decide +kernel
theorem dX7_fadeWeakLink_16 : decode cX7_fadeWeakLink 16 = .ok (.iload_n 2, 1) := by decide +kernel
theorem dX7_fadeWeakLink_17 : decode cX7_fadeWeakLink 17 = .ok (.iaload, 1) := by decide +kernel
theorem dX7_fadeWeakLink_18 : decode cX7_fadeWeakLink 18 = .ok (.istore_n 3, 1) := by decide +kernel
theorem dX7_fadeWeakLink_19 : decode cX7_fadeWeakLink 19 = .ok (.iload_n 3, 1) := by decide +kernel
theorem dX7_fadeWeakLink_20 : decode cX7_fadeWeakLink 20 = .ok (.iconst (-1), 1) := by decide +kernel
theorem dX7_fadeWeakLink_21 : decode cX7_fadeWeakLink 21 = .ok (.if_icmp .eq 14, 3) := by decide +kernel
theorem dX7_fadeWeakLink_24 : decode cX7_fadeWeakLink 24 = .ok (.aload_n 0, 1) := by decide +kernel
theorem dX7_fadeWeakLink_25 : decode cX7_fadeWeakLink 25 = .ok (.getfield 31, 3) := by decide +kernel
theorem dX7_fadeWeakLink_28 : decode cX7_fadeWeakLink 28 = .ok (.iload_n 3, 1) := by decide +kernel
theorem dX7_fadeWeakLink_29 : decode cX7_fadeWeakLink 29 = .ok (.invokevirtual 61, 3) := by decide +kernel
theorem dX7_fadeWeakLink_32 : decode cX7_fadeWeakLink 32 = .ok (.ifCond .eq 4, 3) := by decide +kernel
theorem dX7_fadeWeakLink_35 : decode cX7_fadeWeakLink 35 = .ok (.return_, 1) := by decide +kernel
theorem dX7_fadeWeakLink_36 : decode cX7_fadeWeakLink 36 = .ok (.aload_n 0, 1) := by decide +kernel
theorem dX7_fadeWeakLink_37 : decode cX7_fadeWeakLink 37 = .ok (.getfield 31, 3) := by decide +kernel
theorem dX7_fadeWeakLink_40 : decode cX7_fadeWeakLink 40 = .ok (.getfield 90, 3) := by decide +kernel
theorem dX7_fadeWeakLink_43 : decode cX7_fadeWeakLink 43 = .ok (.iload_n 2, 1) := by decide +kernel
theorem dX7_fadeWeakLink_44 : decode cX7_fadeWeakLink 44 = .ok (.iconst (-1), 1) := by decide +kernel
theorem dX7_fadeWeakLink_45 : decode cX7_fadeWeakLink 45 = .ok (.iastore, 1) := by decide +kernel
theorem dX7_fadeWeakLink_46 : decode cX7_fadeWeakLink 46 = .ok (.aload_n 0, 1) := by decide +kernel
theorem dX7_fadeWeakLink_47 : decode cX7_fadeWeakLink 47 = .ok (.getfield 37, 3) := by decide +kernel
theorem dX7_fadeWeakLink_50 : decode cX7_fadeWeakLink 50 = .ok (.bipush 9, 2) := by decide +kernel
theorem dX7_fadeWeakLink_52 : decode cX7_fadeWeakLink 52 = .ok (.dup2, 1) := by decide +kernel
theorem dX7_fadeWeakLink_53 : decode cX7_fadeWeakLink 53 = .ok (.iaload, 1) := by decide +kernel
theorem dX7_fadeWeakLink_54 : decode cX7_fadeWeakLink 54 = .ok (.iconst 1, 1) := by decide +kernel
theorem dX7_fadeWeakLink_55 : decode cX7_fadeWeakLink 55 = .ok (.iadd, 1) := by decide +kernel
theorem dX7_fadeWeakLink_56 : decode cX7_fadeWeakLink 56 = .ok (.iastore, 1) := by decide +kernel
theorem dX7_fadeWeakLink_57 : decode cX7_fadeWeakLink 57 = .ok (.aload_n 0, 1) := by decide +kernel
theorem dX7_fadeWeakLink_58 : decode cX7_fadeWeakLink 58 = .ok (.getfield 31, 3) := by decide +kernel
theorem dX7_fadeWeakLink_61 : decode cX7_fadeWeakLink 61 = .ok (.iconst 4, 1) := by decide +kernel
theorem dX7_fadeWeakLink_62 : decode cX7_fadeWeakLink 62 = .ok (.iload_n 1, 1) := by decide +kernel
theorem dX7_fadeWeakLink_63 : decode cX7_fadeWeakLink 63 = .ok (.invokevirtual 160, 3) := by decide +kernel
theorem dX7_fadeWeakLink_66 : decode cX7_fadeWeakLink 66 = .ok (.ifCond .eq 33, 3) := by decide +kernel
theorem dX7_fadeWeakLink_69 : decode cX7_fadeWeakLink 69 = .ok (.aload_n 0, 1) := by decide +kernel
theorem dX7_fadeWeakLink_70 : decode cX7_fadeWeakLink 70 = .ok (.getfield 37, 3) := by decide +kernel
theorem dX7_fadeWeakLink_73 : decode cX7_fadeWeakLink 73 = .ok (.bipush 10, 2) := by decide +kernel
theorem dX7_fadeWeakLink_75 : decode cX7_fadeWeakLink 75 = .ok (.dup2, 1) := by decide +kernel
theorem dX7_fadeWeakLink_76 : decode cX7_fadeWeakLink 76 = .ok (.iaload, 1) := by decide +kernel
theorem dX7_fadeWeakLink_77 : decode cX7_fadeWeakLink 77 = .ok (.iconst 1, 1) := by decide +kernel
theorem dX7_fadeWeakLink_78 : decode cX7_fadeWeakLink 78 = .ok (.iadd, 1) := by decide +kernel
theorem dX7_fadeWeakLink_79 : decode cX7_fadeWeakLink 79 = .ok (.iastore, 1) := by decide +kernel
theorem dX7_fadeWeakLink_80 : decode cX7_fadeWeakLink 80 = .ok (.aload_n 0, 1) := by decide +kernel
theorem dX7_fadeWeakLink_81 : decode cX7_fadeWeakLink 81 = .ok (.getfield 21, 3) := by decide +kernel
theorem dX7_fadeWeakLink_84 : decode cX7_fadeWeakLink 84 = .ok (.getfield 102, 3) := by decide +kernel
theorem dX7_fadeWeakLink_87 : decode cX7_fadeWeakLink 87 = .ok (.iload_n 1, 1) := by decide +kernel
theorem dX7_fadeWeakLink_88 : decode cX7_fadeWeakLink 88 = .ok (.aload_n 0, 1) := by decide +kernel
theorem dX7_fadeWeakLink_89 : decode cX7_fadeWeakLink 89 = .ok (.getfield 31, 3) := by decide +kernel
theorem dX7_fadeWeakLink_92 : decode cX7_fadeWeakLink 92 = .ok (.iload_n 1, 1) := by decide +kernel
theorem dX7_fadeWeakLink_93 : decode cX7_fadeWeakLink 93 = .ok (.invokevirtual 170, 3) := by decide +kernel
theorem dX7_fadeWeakLink_96 : decode cX7_fadeWeakLink 96 = .ok (.invokevirtual 173, 3) := by decide +kernel
theorem dX7_fadeWeakLink_99 : decode cX7_fadeWeakLink 99 = .ok (.return_, 1) := by decide +kernel
theorem dX7_slideKept_0 : decode cX7_slideKept 0 = .ok (.iconst 0, 1) := by decide +kernel
theorem dX7_slideKept_1 : decode cX7_slideKept 1 = .ok (.istore_n 1, 1) := by decide +kernel
theorem dX7_slideKept_2 : decode cX7_slideKept 2 = .ok (.aload_n 0, 1) := by decide +kernel
theorem dX7_slideKept_3 : decode cX7_slideKept 3 = .ok (.getfield 21, 3) := by decide +kernel
theorem dX7_slideKept_6 : decode cX7_slideKept 6 = .ok (.getfield 102, 3) := by decide +kernel
theorem dX7_slideKept_9 : decode cX7_slideKept 9 = .ok (.iconst 0, 1) := by decide +kernel
theorem dX7_slideKept_10 : decode cX7_slideKept 10 = .ok (.putfield 177, 3) := by decide +kernel
theorem dX7_slideKept_13 : decode cX7_slideKept 13 = .ok (.iconst 0, 1) := by decide +kernel
theorem dX7_slideKept_14 : decode cX7_slideKept 14 = .ok (.istore_n 2, 1) := by decide +kernel
theorem dX7_slideKept_15 : decode cX7_slideKept 15 = .ok (.iload_n 2, 1) := by decide +kernel
theorem dX7_slideKept_16 : decode cX7_slideKept 16 = .ok (.aload_n 0, 1) := by decide +kernel
theorem dX7_slideKept_17 : decode cX7_slideKept 17 = .ok (.getfield 31, 3) := by decide +kernel
theorem dX7_slideKept_20 : decode cX7_slideKept 20 = .ok (.getfield 126, 3) := by decide +kernel
theorem dX7_slideKept_23 : decode cX7_slideKept 23 = .ok (.if_icmp .ge 73, 3) := by decide +kernel
theorem dX7_slideKept_26 : decode cX7_slideKept 26 = .ok (.aload_n 0, 1) := by decide +kernel
theorem dX7_slideKept_27 : decode cX7_slideKept 27 = .ok (.getfield 31, 3) := by decide +kernel
theorem dX7_slideKept_30 : decode cX7_slideKept 30 = .ok (.iload_n 2, 1) := by decide +kernel
theorem dX7_slideKept_31 : decode cX7_slideKept 31 = .ok (.invokevirtual 61, 3) := by decide +kernel
theorem dX7_slideKept_34 : decode cX7_slideKept 34 = .ok (.ifCond .eq 56, 3) := by decide +kernel
theorem dX7_slideKept_37 : decode cX7_slideKept 37 = .ok (.aload_n 0, 1) := by decide +kernel
theorem dX7_slideKept_38 : decode cX7_slideKept 38 = .ok (.getfield 31, 3) := by decide +kernel
theorem dX7_slideKept_41 : decode cX7_slideKept 41 = .ok (.iload_n 2, 1) := by decide +kernel
theorem dX7_slideKept_42 : decode cX7_slideKept 42 = .ok (.invokevirtual 180, 3) := by decide +kernel
theorem dX7_slideKept_45 : decode cX7_slideKept 45 = .ok (.istore_n 3, 1) := by decide +kernel
theorem dX7_slideKept_46 : decode cX7_slideKept 46 = .ok (.aload_n 0, 1) := by decide +kernel
theorem dX7_slideKept_47 : decode cX7_slideKept 47 = .ok (.getfield 31, 3) := by decide +kernel
theorem dX7_slideKept_50 : decode cX7_slideKept 50 = .ok (.iload_n 2, 1) := by decide +kernel
theorem dX7_slideKept_51 : decode cX7_slideKept 51 = .ok (.iload_n 1, 1) := by decide +kernel
theorem dX7_slideKept_52 : decode cX7_slideKept 52 = .ok (.iload_n 3, 1) := by decide +kernel
theorem dX7_slideKept_53 : decode cX7_slideKept 53 = .ok (.invokevirtual 183, 3) := by decide +kernel
theorem dX7_slideKept_56 : decode cX7_slideKept 56 = .ok (.ifCond .eq 30, 3) := by decide +kernel
theorem dX7_slideKept_59 : decode cX7_slideKept 59 = .ok (.aload_n 0, 1) := by decide +kernel
theorem dX7_slideKept_60 : decode cX7_slideKept 60 = .ok (.getfield 21, 3) := by decide +kernel
theorem dX7_slideKept_63 : decode cX7_slideKept 63 = .ok (.getfield 102, 3) := by decide +kernel
theorem dX7_slideKept_66 : decode cX7_slideKept 66 = .ok (.dup, 1) := by decide +kernel
theorem dX7_slideKept_67 : decode cX7_slideKept 67 = .ok (.getfield 177, 3) := by decide +kernel
theorem dX7_slideKept_70 : decode cX7_slideKept 70 = .ok (.iconst 1, 1) := by decide +kernel
theorem dX7_slideKept_71 : decode cX7_slideKept 71 = .ok (.iadd, 1) := by decide +kernel
theorem dX7_slideKept_72 : decode cX7_slideKept 72 = .ok (.putfield 177, 3) := by decide +kernel
theorem dX7_slideKept_75 : decode cX7_slideKept 75 = .ok (.aload_n 0, 1) := by decide +kernel
theorem dX7_slideKept_76 : decode cX7_slideKept 76 = .ok (.getfield 37, 3) := by decide +kernel
theorem dX7_slideKept_79 : decode cX7_slideKept 79 = .ok (.bipush 13, 2) := by decide +kernel
theorem dX7_slideKept_81 : decode cX7_slideKept 81 = .ok (.dup2, 1) := by decide +kernel
theorem dX7_slideKept_82 : decode cX7_slideKept 82 = .ok (.iaload, 1) := by decide +kernel
theorem dX7_slideKept_83 : decode cX7_slideKept 83 = .ok (.iconst 1, 1) := by decide +kernel
theorem dX7_slideKept_84 : decode cX7_slideKept 84 = .ok (.iadd, 1) := by decide +kernel
theorem dX7_slideKept_85 : decode cX7_slideKept 85 = .ok (.iastore, 1) := by decide +kernel
theorem dX7_slideKept_86 : decode cX7_slideKept 86 = .ok (.iload_n 1, 1) := by decide +kernel
theorem dX7_slideKept_87 : decode cX7_slideKept 87 = .ok (.iload_n 3, 1) := by decide +kernel
theorem dX7_slideKept_88 : decode cX7_slideKept 88 = .ok (.iadd, 1) := by decide +kernel
theorem dX7_slideKept_89 : decode cX7_slideKept 89 = .ok (.istore_n 1, 1) := by decide +kernel
theorem dX7_slideKept_90 : decode cX7_slideKept 90 = .ok (.iinc 2 1, 3) := by decide +kernel
theorem dX7_slideKept_93 : decode cX7_slideKept 93 = .ok (.goto (-78), 3) := by decide +kernel
theorem dX7_slideKept_96 : decode cX7_slideKept 96 = .ok (.aload_n 0, 1) := by decide +kernel
theorem dX7_slideKept_97 : decode cX7_slideKept 97 = .ok (.getfield 31, 3) := by decide +kernel
theorem dX7_slideKept_100 : decode cX7_slideKept 100 = .ok (.iload_n 1, 1) := by decide +kernel
theorem dX7_slideKept_101 : decode cX7_slideKept 101 = .ok (.invokevirtual 187, 3) := by decide +kernel
theorem dX7_slideKept_104 : decode cX7_slideKept 104 = .ok (.return_, 1) := by decide +kernel
theorem dX7_writePaper_0 : decode cX7_writePaper 0 = .ok (.aload_n 0, 1) := by decide +kernel
theorem dX7_writePaper_1 : decode cX7_writePaper 1 = .ok (.getfield 21, 3) := by decide +kernel
theorem dX7_writePaper_4 : decode cX7_writePaper 4 = .ok (.getfield 190, 3) := by decide +kernel
theorem dX7_writePaper_7 : decode cX7_writePaper 7 = .ok (.astore_n 1, 1) := by decide +kernel
theorem dX7_writePaper_8 : decode cX7_writePaper 8 = .ok (.aload_n 1, 1) := by decide +kernel
theorem dX7_writePaper_9 : decode cX7_writePaper 9 = .ok (.iconst 0, 1) := by decide +kernel
theorem dX7_writePaper_10 : decode cX7_writePaper 10 = .ok (.putfield 194, 3) := by decide +kernel
theorem dX7_writePaper_13 : decode cX7_writePaper 13 = .ok (.iconst 0, 1) := by decide +kernel
theorem dX7_writePaper_14 : decode cX7_writePaper 14 = .ok (.istore_n 2, 1) := by decide +kernel
theorem dX7_writePaper_15 : decode cX7_writePaper 15 = .ok (.iload_n 2, 1) := by decide +kernel
theorem dX7_writePaper_16 : decode cX7_writePaper 16 = .ok (.bipush 24, 2) := by decide +kernel
theorem dX7_writePaper_18 : decode cX7_writePaper 18 = .ok (.if_icmp .ge 22, 3) := by decide +kernel
theorem dX7_writePaper_21 : decode cX7_writePaper 21 = .ok (.aload_n 1, 1) := by decide +kernel
theorem dX7_writePaper_22 : decode cX7_writePaper 22 = .ok (.aload_n 0, 1) := by decide +kernel
theorem dX7_writePaper_23 : decode cX7_writePaper 23 = .ok (.getfield 21, 3) := by decide +kernel
theorem dX7_writePaper_26 : decode cX7_writePaper 26 = .ok (.getfield 74, 3) := by decide +kernel
theorem dX7_writePaper_29 : decode cX7_writePaper 29 = .ok (.iload_n 2, 1) := by decide +kernel
theorem dX7_writePaper_30 : decode cX7_writePaper 30 = .ok (.iaload, 1) := by decide +kernel
theorem dX7_writePaper_31 : decode cX7_writePaper 31 = .ok (.invokevirtual 199, 3) := by decide +kernel
theorem dX7_writePaper_34 : decode cX7_writePaper 34 = .ok (.iinc 2 1, 3) := by decide +kernel
theorem dX7_writePaper_37 : decode cX7_writePaper 37 = .ok (.goto (-22), 3) := by decide +kernel
theorem dX7_writePaper_40 : decode cX7_writePaper 40 = .ok (.aload_n 1, 1) := by decide +kernel
theorem dX7_writePaper_41 : decode cX7_writePaper 41 = .ok (.aload_n 0, 1) := by decide +kernel
theorem dX7_writePaper_42 : decode cX7_writePaper 42 = .ok (.getfield 31, 3) := by decide +kernel
theorem dX7_writePaper_45 : decode cX7_writePaper 45 = .ok (.getfield 145, 3) := by decide +kernel
theorem dX7_writePaper_48 : decode cX7_writePaper 48 = .ok (.invokevirtual 199, 3) := by decide +kernel
theorem dX7_writePaper_51 : decode cX7_writePaper 51 = .ok (.iconst 0, 1) := by decide +kernel
theorem dX7_writePaper_52 : decode cX7_writePaper 52 = .ok (.istore_n 2, 1) := by decide +kernel
theorem dX7_writePaper_53 : decode cX7_writePaper 53 = .ok (.iload_n 2, 1) := by decide +kernel
theorem dX7_writePaper_54 : decode cX7_writePaper 54 = .ok (.aload_n 0, 1) := by decide +kernel
theorem dX7_writePaper_55 : decode cX7_writePaper 55 = .ok (.getfield 31, 3) := by decide +kernel
theorem dX7_writePaper_58 : decode cX7_writePaper 58 = .ok (.getfield 126, 3) := by decide +kernel
theorem dX7_writePaper_61 : decode cX7_writePaper 61 = .ok (.if_icmp .ge 25, 3) := by decide +kernel
theorem dX7_writePaper_64 : decode cX7_writePaper 64 = .ok (.aload_n 0, 1) := by decide +kernel
theorem dX7_writePaper_65 : decode cX7_writePaper 65 = .ok (.getfield 31, 3) := by decide +kernel
theorem dX7_writePaper_68 : decode cX7_writePaper 68 = .ok (.iload_n 2, 1) := by decide +kernel
theorem dX7_writePaper_69 : decode cX7_writePaper 69 = .ok (.invokevirtual 61, 3) := by decide +kernel
theorem dX7_writePaper_72 : decode cX7_writePaper 72 = .ok (.ifCond .eq 8, 3) := by decide +kernel
theorem dX7_writePaper_75 : decode cX7_writePaper 75 = .ok (.aload_n 0, 1) := by decide +kernel
theorem dX7_writePaper_76 : decode cX7_writePaper 76 = .ok (.iload_n 2, 1) := by decide +kernel
theorem dX7_writePaper_77 : decode cX7_writePaper 77 = .ok (.invokevirtual 201, 3) := by decide +kernel
theorem dX7_writePaper_80 : decode cX7_writePaper 80 = .ok (.iinc 2 1, 3) := by decide +kernel
theorem dX7_writePaper_83 : decode cX7_writePaper 83 = .ok (.goto (-30), 3) := by decide +kernel
theorem dX7_writePaper_86 : decode cX7_writePaper 86 = .ok (.aload_n 1, 1) := by decide +kernel
theorem dX7_writePaper_87 : decode cX7_writePaper 87 = .ok (.aload_n 0, 1) := by decide +kernel
theorem dX7_writePaper_88 : decode cX7_writePaper 88 = .ok (.getfield 123, 3) := by decide +kernel
theorem dX7_writePaper_91 : decode cX7_writePaper 91 = .ok (.invokevirtual 199, 3) := by decide +kernel
theorem dX7_writePaper_94 : decode cX7_writePaper 94 = .ok (.iconst 0, 1) := by decide +kernel
theorem dX7_writePaper_95 : decode cX7_writePaper 95 = .ok (.istore_n 2, 1) := by decide +kernel
theorem dX7_writePaper_96 : decode cX7_writePaper 96 = .ok (.iload_n 2, 1) := by decide +kernel
theorem dX7_writePaper_97 : decode cX7_writePaper 97 = .ok (.aload_n 0, 1) := by decide +kernel
theorem dX7_writePaper_98 : decode cX7_writePaper 98 = .ok (.getfield 123, 3) := by decide +kernel
theorem dX7_writePaper_101 : decode cX7_writePaper 101 = .ok (.if_icmp .ge 19, 3) := by decide +kernel
theorem dX7_writePaper_104 : decode cX7_writePaper 104 = .ok (.aload_n 1, 1) := by decide +kernel
theorem dX7_writePaper_105 : decode cX7_writePaper 105 = .ok (.aload_n 0, 1) := by decide +kernel
theorem dX7_writePaper_106 : decode cX7_writePaper 106 = .ok (.getfield 9, 3) := by decide +kernel
theorem dX7_writePaper_109 : decode cX7_writePaper 109 = .ok (.iload_n 2, 1) := by decide +kernel
theorem dX7_writePaper_110 : decode cX7_writePaper 110 = .ok (.iaload, 1) := by decide +kernel
theorem dX7_writePaper_111 : decode cX7_writePaper 111 = .ok (.invokevirtual 199, 3) := by decide +kernel
theorem dX7_writePaper_114 : decode cX7_writePaper 114 = .ok (.iinc 2 1, 3) := by decide +kernel
theorem dX7_writePaper_117 : decode cX7_writePaper 117 = .ok (.goto (-21), 3) := by decide +kernel
theorem dX7_writePaper_120 : decode cX7_writePaper 120 = .ok (.aload_n 1, 1) := by decide +kernel
theorem dX7_writePaper_121 : decode cX7_writePaper 121 = .ok (.aload_n 1, 1) := by decide +kernel
theorem dX7_writePaper_122 : decode cX7_writePaper 122 = .ok (.getfield 204, 3) := by decide +kernel
theorem dX7_writePaper_125 : decode cX7_writePaper 125 = .ok (.aload_n 1, 1) := by decide +kernel
theorem dX7_writePaper_126 : decode cX7_writePaper 126 = .ok (.getfield 194, 3) := by decide +kernel
theorem dX7_writePaper_129 : decode cX7_writePaper 129 = .ok (.invokestatic 207, 3) := by decide +kernel
theorem dX7_writePaper_132 : decode cX7_writePaper 132 = .ok (.invokevirtual 199, 3) := by decide +kernel
theorem dX7_writePaper_135 : decode cX7_writePaper 135 = .ok (.return_, 1) := by decide +kernel
theorem dX7_writeKept_0 : decode cX7_writeKept 0 = .ok (.aload_n 0, 1) := by decide +kernel
theorem dX7_writeKept_1 : decode cX7_writeKept 1 = .ok (.getfield 21, 3) := by decide +kernel
theorem dX7_writeKept_4 : decode cX7_writeKept 4 = .ok (.getfield 190, 3) := by decide +kernel
theorem dX7_writeKept_7 : decode cX7_writeKept 7 = .ok (.astore_n 2, 1) := by decide +kernel
theorem dX7_writeKept_8 : decode cX7_writeKept 8 = .ok (.aload_n 2, 1) := by decide +kernel
theorem dX7_writeKept_9 : decode cX7_writeKept 9 = .ok (.iload_n 1, 1) := by decide +kernel
theorem dX7_writeKept_10 : decode cX7_writeKept 10 = .ok (.invokevirtual 199, 3) := by decide +kernel
theorem dX7_writeKept_13 : decode cX7_writeKept 13 = .ok (.aload_n 2, 1) := by decide +kernel
theorem dX7_writeKept_14 : decode cX7_writeKept 14 = .ok (.aload_n 0, 1) := by decide +kernel
theorem dX7_writeKept_15 : decode cX7_writeKept 15 = .ok (.getfield 36, 3) := by decide +kernel
theorem dX7_writeKept_18 : decode cX7_writeKept 18 = .ok (.getfield 211, 3) := by decide +kernel
theorem dX7_writeKept_21 : decode cX7_writeKept 21 = .ok (.iload_n 1, 1) := by decide +kernel
theorem dX7_writeKept_22 : decode cX7_writeKept 22 = .ok (.iaload, 1) := by decide +kernel
theorem dX7_writeKept_23 : decode cX7_writeKept 23 = .ok (.invokevirtual 199, 3) := by decide +kernel
theorem dX7_writeKept_26 : decode cX7_writeKept 26 = .ok (.aload_n 2, 1) := by decide +kernel
theorem dX7_writeKept_27 : decode cX7_writeKept 27 = .ok (.aload_n 0, 1) := by decide +kernel
theorem dX7_writeKept_28 : decode cX7_writeKept 28 = .ok (.getfield 36, 3) := by decide +kernel
theorem dX7_writeKept_31 : decode cX7_writeKept 31 = .ok (.getfield 214, 3) := by decide +kernel
theorem dX7_writeKept_34 : decode cX7_writeKept 34 = .ok (.iload_n 1, 1) := by decide +kernel
theorem dX7_writeKept_35 : decode cX7_writeKept 35 = .ok (.iaload, 1) := by decide +kernel
theorem dX7_writeKept_36 : decode cX7_writeKept 36 = .ok (.invokevirtual 199, 3) := by decide +kernel
theorem dX7_writeKept_39 : decode cX7_writeKept 39 = .ok (.aload_n 2, 1) := by decide +kernel
theorem dX7_writeKept_40 : decode cX7_writeKept 40 = .ok (.aload_n 0, 1) := by decide +kernel
theorem dX7_writeKept_41 : decode cX7_writeKept 41 = .ok (.getfield 36, 3) := by decide +kernel
theorem dX7_writeKept_44 : decode cX7_writeKept 44 = .ok (.getfield 217, 3) := by decide +kernel
theorem dX7_writeKept_47 : decode cX7_writeKept 47 = .ok (.iload_n 1, 1) := by decide +kernel
theorem dX7_writeKept_48 : decode cX7_writeKept 48 = .ok (.iaload, 1) := by decide +kernel
theorem dX7_writeKept_49 : decode cX7_writeKept 49 = .ok (.invokevirtual 199, 3) := by decide +kernel
theorem dX7_writeKept_52 : decode cX7_writeKept 52 = .ok (.aload_n 2, 1) := by decide +kernel
theorem dX7_writeKept_53 : decode cX7_writeKept 53 = .ok (.aload_n 0, 1) := by decide +kernel
theorem dX7_writeKept_54 : decode cX7_writeKept 54 = .ok (.getfield 36, 3) := by decide +kernel
theorem dX7_writeKept_57 : decode cX7_writeKept 57 = .ok (.getfield 129, 3) := by decide +kernel
theorem dX7_writeKept_60 : decode cX7_writeKept 60 = .ok (.iload_n 1, 1) := by decide +kernel
theorem dX7_writeKept_61 : decode cX7_writeKept 61 = .ok (.iaload, 1) := by decide +kernel
theorem dX7_writeKept_62 : decode cX7_writeKept 62 = .ok (.invokevirtual 199, 3) := by decide +kernel
theorem dX7_writeKept_65 : decode cX7_writeKept 65 = .ok (.aload_n 0, 1) := by decide +kernel
theorem dX7_writeKept_66 : decode cX7_writeKept 66 = .ok (.getfield 31, 3) := by decide +kernel
theorem dX7_writeKept_69 : decode cX7_writeKept 69 = .ok (.iload_n 1, 1) := by decide +kernel
theorem dX7_writeKept_70 : decode cX7_writeKept 70 = .ok (.invokevirtual 99, 3) := by decide +kernel
theorem dX7_writeKept_73 : decode cX7_writeKept 73 = .ok (.istore_n 3, 1) := by decide +kernel
theorem dX7_writeKept_74 : decode cX7_writeKept 74 = .ok (.aload_n 0, 1) := by decide +kernel
theorem dX7_writeKept_75 : decode cX7_writeKept 75 = .ok (.getfield 31, 3) := by decide +kernel
theorem dX7_writeKept_78 : decode cX7_writeKept 78 = .ok (.iload_n 1, 1) := by decide +kernel
theorem dX7_writeKept_79 : decode cX7_writeKept 79 = .ok (.invokevirtual 93, 3) := by decide +kernel
theorem dX7_writeKept_82 : decode cX7_writeKept 82 = .ok (.istore 4, 2) := by decide +kernel
theorem dX7_writeKept_84 : decode cX7_writeKept 84 = .ok (.aload_n 2, 1) := by decide +kernel
theorem dX7_writeKept_85 : decode cX7_writeKept 85 = .ok (.iload_n 3, 1) := by decide +kernel
theorem dX7_writeKept_86 : decode cX7_writeKept 86 = .ok (.invokevirtual 199, 3) := by decide +kernel
theorem dX7_writeKept_89 : decode cX7_writeKept 89 = .ok (.iconst 0, 1) := by decide +kernel
theorem dX7_writeKept_90 : decode cX7_writeKept 90 = .ok (.istore 5, 2) := by decide +kernel
theorem dX7_writeKept_92 : decode cX7_writeKept 92 = .ok (.iload 5, 2) := by decide +kernel
theorem dX7_writeKept_94 : decode cX7_writeKept 94 = .ok (.iload_n 3, 1) := by decide +kernel
theorem dX7_writeKept_95 : decode cX7_writeKept 95 = .ok (.if_icmp .ge 26, 3) := by decide +kernel
theorem dX7_writeKept_98 : decode cX7_writeKept 98 = .ok (.aload_n 2, 1) := by decide +kernel
theorem dX7_writeKept_99 : decode cX7_writeKept 99 = .ok (.aload_n 0, 1) := by decide +kernel
theorem dX7_writeKept_100 : decode cX7_writeKept 100 = .ok (.getfield 31, 3) := by decide +kernel
theorem dX7_writeKept_103 : decode cX7_writeKept 103 = .ok (.getfield 90, 3) := by decide +kernel
theorem dX7_writeKept_106 : decode cX7_writeKept 106 = .ok (.iload 4, 2) := by decide +kernel
theorem dX7_writeKept_108 : decode cX7_writeKept 108 = .ok (.iload 5, 2) := by decide +kernel
theorem dX7_writeKept_110 : decode cX7_writeKept 110 = .ok (.iadd, 1) := by decide +kernel
theorem dX7_writeKept_111 : decode cX7_writeKept 111 = .ok (.iaload, 1) := by decide +kernel
theorem dX7_writeKept_112 : decode cX7_writeKept 112 = .ok (.invokevirtual 199, 3) := by decide +kernel
theorem dX7_writeKept_115 : decode cX7_writeKept 115 = .ok (.iinc 5 1, 3) := by decide +kernel
theorem dX7_writeKept_118 : decode cX7_writeKept 118 = .ok (.goto (-26), 3) := by decide +kernel
theorem dX7_writeKept_121 : decode cX7_writeKept 121 = .ok (.return_, 1) := by decide +kernel
theorem dX7_reachedInts_0 : decode cX7_reachedInts 0 = .ok (.aload_n 0, 1) := by decide +kernel
theorem dX7_reachedInts_1 : decode cX7_reachedInts 1 = .ok (.getfield 15, 3) := by decide +kernel
theorem dX7_reachedInts_4 : decode cX7_reachedInts 4 = .ok (.iconst 0, 1) := by decide +kernel
theorem dX7_reachedInts_5 : decode cX7_reachedInts 5 = .ok (.invokestatic 220, 3) := by decide +kernel
theorem dX7_reachedInts_8 : decode cX7_reachedInts 8 = .ok (.aload_n 0, 1) := by decide +kernel
theorem dX7_reachedInts_9 : decode cX7_reachedInts 9 = .ok (.iconst 0, 1) := by decide +kernel
theorem dX7_reachedInts_10 : decode cX7_reachedInts 10 = .ok (.putfield 226, 3) := by decide +kernel
theorem dX7_reachedInts_13 : decode cX7_reachedInts 13 = .ok (.iconst 0, 1) := by decide +kernel
theorem dX7_reachedInts_14 : decode cX7_reachedInts 14 = .ok (.istore_n 1, 1) := by decide +kernel
theorem dX7_reachedInts_15 : decode cX7_reachedInts 15 = .ok (.iload_n 1, 1) := by decide +kernel
theorem dX7_reachedInts_16 : decode cX7_reachedInts 16 = .ok (.bipush 24, 2) := by decide +kernel
theorem dX7_reachedInts_18 : decode cX7_reachedInts 18 = .ok (.if_icmp .ge 22, 3) := by decide +kernel
theorem dX7_reachedInts_21 : decode cX7_reachedInts 21 = .ok (.aload_n 0, 1) := by decide +kernel
theorem dX7_reachedInts_22 : decode cX7_reachedInts 22 = .ok (.aload_n 0, 1) := by decide +kernel
theorem dX7_reachedInts_23 : decode cX7_reachedInts 23 = .ok (.getfield 21, 3) := by decide +kernel
theorem dX7_reachedInts_26 : decode cX7_reachedInts 26 = .ok (.getfield 74, 3) := by decide +kernel
theorem dX7_reachedInts_29 : decode cX7_reachedInts 29 = .ok (.iload_n 1, 1) := by decide +kernel
theorem dX7_reachedInts_30 : decode cX7_reachedInts 30 = .ok (.iaload, 1) := by decide +kernel
theorem dX7_reachedInts_31 : decode cX7_reachedInts 31 = .ok (.invokevirtual 229, 3) := by decide +kernel
theorem dX7_reachedInts_34 : decode cX7_reachedInts 34 = .ok (.iinc 1 1, 3) := by decide +kernel
theorem dX7_reachedInts_37 : decode cX7_reachedInts 37 = .ok (.goto (-22), 3) := by decide +kernel
theorem dX7_reachedInts_40 : decode cX7_reachedInts 40 = .ok (.iconst 0, 1) := by decide +kernel
theorem dX7_reachedInts_41 : decode cX7_reachedInts 41 = .ok (.istore_n 1, 1) := by decide +kernel
theorem dX7_reachedInts_42 : decode cX7_reachedInts 42 = .ok (.iconst 0, 1) := by decide +kernel
theorem dX7_reachedInts_43 : decode cX7_reachedInts 43 = .ok (.istore_n 2, 1) := by decide +kernel
theorem dX7_reachedInts_44 : decode cX7_reachedInts 44 = .ok (.iload_n 2, 1) := by decide +kernel
theorem dX7_reachedInts_45 : decode cX7_reachedInts 45 = .ok (.aload_n 0, 1) := by decide +kernel
theorem dX7_reachedInts_46 : decode cX7_reachedInts 46 = .ok (.getfield 226, 3) := by decide +kernel
theorem dX7_reachedInts_49 : decode cX7_reachedInts 49 = .ok (.if_icmp .ge 80, 3) := by decide +kernel
theorem dX7_reachedInts_52 : decode cX7_reachedInts 52 = .ok (.aload_n 0, 1) := by decide +kernel
theorem dX7_reachedInts_53 : decode cX7_reachedInts 53 = .ok (.getfield 18, 3) := by decide +kernel
theorem dX7_reachedInts_56 : decode cX7_reachedInts 56 = .ok (.iload_n 2, 1) := by decide +kernel
theorem dX7_reachedInts_57 : decode cX7_reachedInts 57 = .ok (.iaload, 1) := by decide +kernel
theorem dX7_reachedInts_58 : decode cX7_reachedInts 58 = .ok (.istore_n 3, 1) := by decide +kernel
theorem dX7_reachedInts_59 : decode cX7_reachedInts 59 = .ok (.aload_n 0, 1) := by decide +kernel
theorem dX7_reachedInts_60 : decode cX7_reachedInts 60 = .ok (.getfield 31, 3) := by decide +kernel
theorem dX7_reachedInts_63 : decode cX7_reachedInts 63 = .ok (.iload_n 3, 1) := by decide +kernel
theorem dX7_reachedInts_64 : decode cX7_reachedInts 64 = .ok (.invokevirtual 99, 3) := by decide +kernel
theorem dX7_reachedInts_67 : decode cX7_reachedInts 67 = .ok (.istore 4, 2) := by decide +kernel
theorem dX7_reachedInts_69 : decode cX7_reachedInts 69 = .ok (.aload_n 0, 1) := by decide +kernel
theorem dX7_reachedInts_70 : decode cX7_reachedInts 70 = .ok (.getfield 31, 3) := by decide +kernel
theorem dX7_reachedInts_73 : decode cX7_reachedInts 73 = .ok (.iload_n 3, 1) := by decide +kernel
theorem dX7_reachedInts_74 : decode cX7_reachedInts 74 = .ok (.invokevirtual 93, 3) := by decide +kernel
theorem dX7_reachedInts_77 : decode cX7_reachedInts 77 = .ok (.istore 5, 2) := by decide +kernel
theorem dX7_reachedInts_79 : decode cX7_reachedInts 79 = .ok (.iconst 0, 1) := by decide +kernel
theorem dX7_reachedInts_80 : decode cX7_reachedInts 80 = .ok (.istore 6, 2) := by decide +kernel
theorem dX7_reachedInts_82 : decode cX7_reachedInts 82 = .ok (.iload 6, 2) := by decide +kernel
theorem dX7_reachedInts_84 : decode cX7_reachedInts 84 = .ok (.iload 4, 2) := by decide +kernel
theorem dX7_reachedInts_86 : decode cX7_reachedInts 86 = .ok (.if_icmp .ge 26, 3) := by decide +kernel
theorem dX7_reachedInts_89 : decode cX7_reachedInts 89 = .ok (.aload_n 0, 1) := by decide +kernel
theorem dX7_reachedInts_90 : decode cX7_reachedInts 90 = .ok (.aload_n 0, 1) := by decide +kernel
theorem dX7_reachedInts_91 : decode cX7_reachedInts 91 = .ok (.getfield 31, 3) := by decide +kernel
theorem dX7_reachedInts_94 : decode cX7_reachedInts 94 = .ok (.getfield 90, 3) := by decide +kernel
theorem dX7_reachedInts_97 : decode cX7_reachedInts 97 = .ok (.iload 5, 2) := by decide +kernel
theorem dX7_reachedInts_99 : decode cX7_reachedInts 99 = .ok (.iload 6, 2) := by decide +kernel
theorem dX7_reachedInts_101 : decode cX7_reachedInts 101 = .ok (.iadd, 1) := by decide +kernel
theorem dX7_reachedInts_102 : decode cX7_reachedInts 102 = .ok (.iaload, 1) := by decide +kernel
theorem dX7_reachedInts_103 : decode cX7_reachedInts 103 = .ok (.invokevirtual 229, 3) := by decide +kernel
theorem dX7_reachedInts_106 : decode cX7_reachedInts 106 = .ok (.iinc 6 1, 3) := by decide +kernel
theorem dX7_reachedInts_109 : decode cX7_reachedInts 109 = .ok (.goto (-27), 3) := by decide +kernel
theorem dX7_reachedInts_112 : decode cX7_reachedInts 112 = .ok (.iload_n 1, 1) := by decide +kernel
theorem dX7_reachedInts_113 : decode cX7_reachedInts 113 = .ok (.aload_n 0, 1) := by decide +kernel
theorem dX7_reachedInts_114 : decode cX7_reachedInts 114 = .ok (.getfield 31, 3) := by decide +kernel
theorem dX7_reachedInts_117 : decode cX7_reachedInts 117 = .ok (.iload_n 3, 1) := by decide +kernel
theorem dX7_reachedInts_118 : decode cX7_reachedInts 118 = .ok (.invokevirtual 180, 3) := by decide +kernel
theorem dX7_reachedInts_121 : decode cX7_reachedInts 121 = .ok (.iadd, 1) := by decide +kernel
theorem dX7_reachedInts_122 : decode cX7_reachedInts 122 = .ok (.istore_n 1, 1) := by decide +kernel
theorem dX7_reachedInts_123 : decode cX7_reachedInts 123 = .ok (.iinc 2 1, 3) := by decide +kernel
theorem dX7_reachedInts_126 : decode cX7_reachedInts 126 = .ok (.goto (-82), 3) := by decide +kernel
theorem dX7_reachedInts_129 : decode cX7_reachedInts 129 = .ok (.iload_n 1, 1) := by decide +kernel
theorem dX7_reachedInts_130 : decode cX7_reachedInts 130 = .ok (.ireturn, 1) := by decide +kernel
theorem dX7_reach_0 : decode cX7_reach 0 = .ok (.aload_n 0, 1) := by decide +kernel
theorem dX7_reach_1 : decode cX7_reach 1 = .ok (.getfield 31, 3) := by decide +kernel
theorem dX7_reach_4 : decode cX7_reach 4 = .ok (.iload_n 1, 1) := by decide +kernel
theorem dX7_reach_5 : decode cX7_reach 5 = .ok (.invokevirtual 61, 3) := by decide +kernel
theorem dX7_reach_8 : decode cX7_reach 8 = .ok (.ifCond .eq 39, 3) := by decide +kernel
theorem dX7_reach_11 : decode cX7_reach 11 = .ok (.aload_n 0, 1) := by decide +kernel
theorem dX7_reach_12 : decode cX7_reach 12 = .ok (.getfield 15, 3) := by decide +kernel
theorem dX7_reach_15 : decode cX7_reach 15 = .ok (.iload_n 1, 1) := by decide +kernel
theorem dX7_reach_16 : decode cX7_reach 16 = .ok (.iaload, 1) := by decide +kernel
theorem dX7_reach_17 : decode cX7_reach 17 = .ok (.ifCond .ne 30, 3) := by decide +kernel
theorem dX7_reach_20 : decode cX7_reach 20 = .ok (.aload_n 0, 1) := by decide +kernel
theorem dX7_reach_21 : decode cX7_reach 21 = .ok (.getfield 15, 3) := by decide +kernel
theorem dX7_reach_24 : decode cX7_reach 24 = .ok (.iload_n 1, 1) := by decide +kernel
theorem dX7_reach_25 : decode cX7_reach 25 = .ok (.iconst 1, 1) := by decide +kernel
theorem dX7_reach_26 : decode cX7_reach 26 = .ok (.iastore, 1) := by decide +kernel
theorem dX7_reach_27 : decode cX7_reach 27 = .ok (.aload_n 0, 1) := by decide +kernel
theorem dX7_reach_28 : decode cX7_reach 28 = .ok (.getfield 18, 3) := by decide +kernel
theorem dX7_reach_31 : decode cX7_reach 31 = .ok (.aload_n 0, 1) := by decide +kernel
theorem dX7_reach_32 : decode cX7_reach 32 = .ok (.getfield 226, 3) := by decide +kernel
theorem dX7_reach_35 : decode cX7_reach 35 = .ok (.iload_n 1, 1) := by decide +kernel
theorem dX7_reach_36 : decode cX7_reach 36 = .ok (.iastore, 1) := by decide +kernel
theorem dX7_reach_37 : decode cX7_reach 37 = .ok (.aload_n 0, 1) := by decide +kernel
theorem dX7_reach_38 : decode cX7_reach 38 = .ok (.dup, 1) := by decide +kernel
theorem dX7_reach_39 : decode cX7_reach 39 = .ok (.getfield 226, 3) := by decide +kernel
theorem dX7_reach_42 : decode cX7_reach 42 = .ok (.iconst 1, 1) := by decide +kernel
theorem dX7_reach_43 : decode cX7_reach 43 = .ok (.iadd, 1) := by decide +kernel
theorem dX7_reach_44 : decode cX7_reach 44 = .ok (.putfield 226, 3) := by decide +kernel
theorem dX7_reach_47 : decode cX7_reach 47 = .ok (.return_, 1) := by decide +kernel
theorem dX8_init_0 : decode cX8_init 0 = .ok (.aload_n 0, 1) := by decide +kernel
theorem dX8_init_1 : decode cX8_init 1 = .ok (.invokespecial 3, 3) := by decide +kernel
theorem dX8_init_4 : decode cX8_init 4 = .ok (.aload_n 0, 1) := by decide +kernel
theorem dX8_init_5 : decode cX8_init 5 = .ok (.sipush 300, 3) := by decide +kernel
theorem dX8_init_8 : decode cX8_init 8 = .ok (.newarray .int, 2) := by decide +kernel
theorem dX8_init_10 : decode cX8_init 10 = .ok (.putfield 9, 3) := by decide +kernel
theorem dX8_init_13 : decode cX8_init 13 = .ok (.return_, 1) := by decide +kernel
theorem dX8_empty_0 : decode cX8_empty 0 = .ok (.aload_n 0, 1) := by decide +kernel
theorem dX8_empty_1 : decode cX8_empty 1 = .ok (.iconst 0, 1) := by decide +kernel
theorem dX8_empty_2 : decode cX8_empty 2 = .ok (.putfield 15, 3) := by decide +kernel
theorem dX8_empty_5 : decode cX8_empty 5 = .ok (.aload_n 0, 1) := by decide +kernel
theorem dX8_empty_6 : decode cX8_empty 6 = .ok (.iconst 0, 1) := by decide +kernel
theorem dX8_empty_7 : decode cX8_empty 7 = .ok (.putfield 19, 3) := by decide +kernel
theorem dX8_empty_10 : decode cX8_empty 10 = .ok (.aload_n 0, 1) := by decide +kernel
theorem dX8_empty_11 : decode cX8_empty 11 = .ok (.iconst 0, 1) := by decide +kernel
theorem dX8_empty_12 : decode cX8_empty 12 = .ok (.putfield 22, 3) := by decide +kernel
theorem dX8_empty_15 : decode cX8_empty 15 = .ok (.aload_n 0, 1) := by decide +kernel
theorem dX8_empty_16 : decode cX8_empty 16 = .ok (.iconst 0, 1) := by decide +kernel
theorem dX8_empty_17 : decode cX8_empty 17 = .ok (.putfield 25, 3) := by decide +kernel
theorem dX8_empty_20 : decode cX8_empty 20 = .ok (.aload_n 0, 1) := by decide +kernel
theorem dX8_empty_21 : decode cX8_empty 21 = .ok (.iconst 0, 1) := by decide +kernel
theorem dX8_empty_22 : decode cX8_empty 22 = .ok (.putfield 28, 3) := by decide +kernel
theorem dX8_empty_25 : decode cX8_empty 25 = .ok (.aload_n 0, 1) := by decide +kernel
theorem dX8_empty_26 : decode cX8_empty 26 = .ok (.iconst 0, 1) := by decide +kernel
theorem dX8_empty_27 : decode cX8_empty 27 = .ok (.putfield 31, 3) := by decide +kernel
theorem dX8_empty_30 : decode cX8_empty 30 = .ok (.return_, 1) := by decide +kernel
theorem dX8_copyFrom_0 : decode cX8_copyFrom 0 = .ok (.aload_n 0, 1) := by decide +kernel
theorem dX8_copyFrom_1 : decode cX8_copyFrom 1 = .ok (.aload_n 1, 1) := by decide +kernel
theorem dX8_copyFrom_2 : decode cX8_copyFrom 2 = .ok (.getfield 15, 3) := by decide +kernel
theorem dX8_copyFrom_5 : decode cX8_copyFrom 5 = .ok (.putfield 15, 3) := by decide +kernel
theorem dX8_copyFrom_8 : decode cX8_copyFrom 8 = .ok (.aload_n 0, 1) := by decide +kernel
theorem dX8_copyFrom_9 : decode cX8_copyFrom 9 = .ok (.aload_n 1, 1) := by decide +kernel
theorem dX8_copyFrom_10 : decode cX8_copyFrom 10 = .ok (.getfield 19, 3) := by decide +kernel
theorem dX8_copyFrom_13 : decode cX8_copyFrom 13 = .ok (.putfield 19, 3) := by decide +kernel
theorem dX8_copyFrom_16 : decode cX8_copyFrom 16 = .ok (.aload_n 0, 1) := by decide +kernel
theorem dX8_copyFrom_17 : decode cX8_copyFrom 17 = .ok (.aload_n 1, 1) := by decide +kernel
theorem dX8_copyFrom_18 : decode cX8_copyFrom 18 = .ok (.getfield 22, 3) := by decide +kernel
theorem dX8_copyFrom_21 : decode cX8_copyFrom 21 = .ok (.putfield 22, 3) := by decide +kernel
theorem dX8_copyFrom_24 : decode cX8_copyFrom 24 = .ok (.aload_n 0, 1) := by decide +kernel
theorem dX8_copyFrom_25 : decode cX8_copyFrom 25 = .ok (.aload_n 1, 1) := by decide +kernel
theorem dX8_copyFrom_26 : decode cX8_copyFrom 26 = .ok (.getfield 25, 3) := by decide +kernel
theorem dX8_copyFrom_29 : decode cX8_copyFrom 29 = .ok (.putfield 25, 3) := by decide +kernel
theorem dX8_copyFrom_32 : decode cX8_copyFrom 32 = .ok (.aload_n 0, 1) := by decide +kernel
theorem dX8_copyFrom_33 : decode cX8_copyFrom 33 = .ok (.aload_n 1, 1) := by decide +kernel
theorem dX8_copyFrom_34 : decode cX8_copyFrom 34 = .ok (.getfield 28, 3) := by decide +kernel
theorem dX8_copyFrom_37 : decode cX8_copyFrom 37 = .ok (.putfield 28, 3) := by decide +kernel
theorem dX8_copyFrom_40 : decode cX8_copyFrom 40 = .ok (.aload_n 0, 1) := by decide +kernel
theorem dX8_copyFrom_41 : decode cX8_copyFrom 41 = .ok (.aload_n 1, 1) := by decide +kernel
theorem dX8_copyFrom_42 : decode cX8_copyFrom 42 = .ok (.getfield 31, 3) := by decide +kernel
theorem dX8_copyFrom_45 : decode cX8_copyFrom 45 = .ok (.putfield 31, 3) := by decide +kernel
theorem dX8_copyFrom_48 : decode cX8_copyFrom 48 = .ok (.aload_n 1, 1) := by decide +kernel
theorem dX8_copyFrom_49 : decode cX8_copyFrom 49 = .ok (.getfield 9, 3) := by decide +kernel
theorem dX8_copyFrom_52 : decode cX8_copyFrom 52 = .ok (.iconst 0, 1) := by decide +kernel
theorem dX8_copyFrom_53 : decode cX8_copyFrom 53 = .ok (.aload_n 0, 1) := by decide +kernel
theorem dX8_copyFrom_54 : decode cX8_copyFrom 54 = .ok (.getfield 9, 3) := by decide +kernel
theorem dX8_copyFrom_57 : decode cX8_copyFrom 57 = .ok (.iconst 0, 1) := by decide +kernel
theorem dX8_copyFrom_58 : decode cX8_copyFrom 58 = .ok (.aload_n 0, 1) := by decide +kernel
theorem dX8_copyFrom_59 : decode cX8_copyFrom 59 = .ok (.getfield 9, 3) := by decide +kernel
theorem dX8_copyFrom_62 : decode cX8_copyFrom 62 = .ok (.arraylength, 1) := by decide +kernel
theorem dX8_copyFrom_63 : decode cX8_copyFrom 63 = .ok (.invokestatic 34, 3) := by decide +kernel
theorem dX8_copyFrom_66 : decode cX8_copyFrom 66 = .ok (.return_, 1) := by decide +kernel
theorem dX8_tell_0 : decode cX8_tell 0 = .ok (.aload_n 0, 1) := by decide +kernel
theorem dX8_tell_1 : decode cX8_tell 1 = .ok (.getfield 31, 3) := by decide +kernel
theorem dX8_tell_4 : decode cX8_tell 4 = .ok (.bipush 100, 2) := by decide +kernel
theorem dX8_tell_6 : decode cX8_tell 6 = .ok (.if_icmp .ge 38, 3) := by decide +kernel
theorem dX8_tell_9 : decode cX8_tell 9 = .ok (.aload_n 0, 1) := by decide +kernel
theorem dX8_tell_10 : decode cX8_tell 10 = .ok (.getfield 31, 3) := by decide +kernel
theorem dX8_tell_13 : decode cX8_tell 13 = .ok (.iconst 3, 1) := by decide +kernel
theorem dX8_tell_14 : decode cX8_tell 14 = .ok (.imul, 1) := by decide +kernel
theorem dX8_tell_15 : decode cX8_tell 15 = .ok (.istore_n 3, 1) := by decide +kernel
theorem dX8_tell_16 : decode cX8_tell 16 = .ok (.aload_n 0, 1) := by decide +kernel
theorem dX8_tell_17 : decode cX8_tell 17 = .ok (.getfield 9, 3) := by decide +kernel
theorem dX8_tell_20 : decode cX8_tell 20 = .ok (.iload_n 3, 1) := by decide +kernel
theorem dX8_tell_21 : decode cX8_tell 21 = .ok (.iload_n 1, 1) := by decide +kernel
theorem dX8_tell_22 : decode cX8_tell 22 = .ok (.iastore, 1) := by decide +kernel
theorem dX8_tell_23 : decode cX8_tell 23 = .ok (.aload_n 0, 1) := by decide +kernel
theorem dX8_tell_24 : decode cX8_tell 24 = .ok (.getfield 9, 3) := by decide +kernel
theorem dX8_tell_27 : decode cX8_tell 27 = .ok (.iload_n 3, 1) := by decide +kernel
theorem dX8_tell_28 : decode cX8_tell 28 = .ok (.iconst 1, 1) := by decide +kernel
theorem dX8_tell_29 : decode cX8_tell 29 = .ok (.iadd, 1) := by decide +kernel
theorem dX8_tell_30 : decode cX8_tell 30 = .ok (.iload_n 2, 1) := by decide +kernel
theorem dX8_tell_31 : decode cX8_tell 31 = .ok (.iastore, 1) := by decide +kernel
theorem dX8_tell_32 : decode cX8_tell 32 = .ok (.aload_n 0, 1) := by decide +kernel
theorem dX8_tell_33 : decode cX8_tell 33 = .ok (.getfield 9, 3) := by decide +kernel
theorem dX8_tell_36 : decode cX8_tell 36 = .ok (.iload_n 3, 1) := by decide +kernel
theorem dX8_tell_37 : decode cX8_tell 37 = .ok (.iconst 2, 1) := by decide +kernel
theorem dX8_tell_38 : decode cX8_tell 38 = .ok (.iadd, 1) := by decide +kernel
theorem dX8_tell_39 : decode cX8_tell 39 = .ok (.aload_n 0, 1) := by decide +kernel
theorem dX8_tell_40 : decode cX8_tell 40 = .ok (.getfield 15, 3) := by decide +kernel
theorem dX8_tell_43 : decode cX8_tell 43 = .ok (.iastore, 1) := by decide +kernel
theorem dX8_tell_44 : decode cX8_tell 44 = .ok (.aload_n 0, 1) := by decide +kernel
theorem dX8_tell_45 : decode cX8_tell 45 = .ok (.dup, 1) := by decide +kernel
theorem dX8_tell_46 : decode cX8_tell 46 = .ok (.getfield 31, 3) := by decide +kernel
theorem dX8_tell_49 : decode cX8_tell 49 = .ok (.iconst 1, 1) := by decide +kernel
theorem dX8_tell_50 : decode cX8_tell 50 = .ok (.iadd, 1) := by decide +kernel
theorem dX8_tell_51 : decode cX8_tell 51 = .ok (.putfield 31, 3) := by decide +kernel
theorem dX8_tell_54 : decode cX8_tell 54 = .ok (.return_, 1) := by decide +kernel
theorem dX9_init_0 : decode cX9_init 0 = .ok (.aload_n 0, 1) := by decide +kernel
theorem dX9_init_1 : decode cX9_init 1 = .ok (.invokespecial 3, 3) := by decide +kernel
theorem dX9_init_4 : decode cX9_init 4 = .ok (.aload_n 0, 1) := by decide +kernel
theorem dX9_init_5 : decode cX9_init 5 = .ok (.new 9, 3) := by decide +kernel
theorem dX9_init_8 : decode cX9_init 8 = .ok (.dup, 1) := by decide +kernel
theorem dX9_init_9 : decode cX9_init 9 = .ok (.invokespecial 11, 3) := by decide +kernel
theorem dX9_init_12 : decode cX9_init 12 = .ok (.putfield 12, 3) := by decide +kernel
theorem dX9_init_15 : decode cX9_init 15 = .ok (.aload_n 0, 1) := by decide +kernel
theorem dX9_init_16 : decode cX9_init 16 = .ok (.new 9, 3) := by decide +kernel
theorem dX9_init_19 : decode cX9_init 19 = .ok (.dup, 1) := by decide +kernel
theorem dX9_init_20 : decode cX9_init 20 = .ok (.invokespecial 11, 3) := by decide +kernel
theorem dX9_init_23 : decode cX9_init 23 = .ok (.putfield 16, 3) := by decide +kernel
theorem dX9_init_26 : decode cX9_init 26 = .ok (.aload_n 0, 1) := by decide +kernel
theorem dX9_init_27 : decode cX9_init 27 = .ok (.new 9, 3) := by decide +kernel
theorem dX9_init_30 : decode cX9_init 30 = .ok (.dup, 1) := by decide +kernel
theorem dX9_init_31 : decode cX9_init 31 = .ok (.invokespecial 11, 3) := by decide +kernel
theorem dX9_init_34 : decode cX9_init 34 = .ok (.putfield 19, 3) := by decide +kernel
theorem dX9_init_37 : decode cX9_init 37 = .ok (.aload_n 0, 1) := by decide +kernel
theorem dX9_init_38 : decode cX9_init 38 = .ok (.bipush 14, 2) := by decide +kernel
theorem dX9_init_40 : decode cX9_init 40 = .ok (.newarray .int, 2) := by decide +kernel
theorem dX9_init_42 : decode cX9_init 42 = .ok (.putfield 22, 3) := by decide +kernel
theorem dX9_init_45 : decode cX9_init 45 = .ok (.aload_n 0, 1) := by decide +kernel
theorem dX9_init_46 : decode cX9_init 46 = .ok (.new 26, 3) := by decide +kernel
theorem dX9_init_49 : decode cX9_init 49 = .ok (.dup, 1) := by decide +kernel
theorem dX9_init_50 : decode cX9_init 50 = .ok (.aload_n 0, 1) := by decide +kernel
theorem dX9_init_51 : decode cX9_init 51 = .ok (.getfield 12, 3) := by decide +kernel
theorem dX9_init_54 : decode cX9_init 54 = .ok (.aload_n 0, 1) := by decide +kernel
theorem dX9_init_55 : decode cX9_init 55 = .ok (.getfield 22, 3) := by decide +kernel
theorem dX9_init_58 : decode cX9_init 58 = .ok (.invokespecial 28, 3) := by decide +kernel
theorem dX9_init_61 : decode cX9_init 61 = .ok (.putfield 31, 3) := by decide +kernel
theorem dX9_init_64 : decode cX9_init 64 = .ok (.aload_n 0, 1) := by decide +kernel
theorem dX9_init_65 : decode cX9_init 65 = .ok (.new 35, 3) := by decide +kernel
theorem dX9_init_68 : decode cX9_init 68 = .ok (.dup, 1) := by decide +kernel
theorem dX9_init_69 : decode cX9_init 69 = .ok (.aload_n 0, 1) := by decide +kernel
theorem dX9_init_70 : decode cX9_init 70 = .ok (.getfield 12, 3) := by decide +kernel
theorem dX9_init_73 : decode cX9_init 73 = .ok (.aload_n 0, 1) := by decide +kernel
theorem dX9_init_74 : decode cX9_init 74 = .ok (.getfield 31, 3) := by decide +kernel
theorem dX9_init_77 : decode cX9_init 77 = .ok (.invokespecial 37, 3) := by decide +kernel
theorem dX9_init_80 : decode cX9_init 80 = .ok (.putfield 40, 3) := by decide +kernel
theorem dX9_init_83 : decode cX9_init 83 = .ok (.aload_n 0, 1) := by decide +kernel
theorem dX9_init_84 : decode cX9_init 84 = .ok (.new 44, 3) := by decide +kernel
theorem dX9_init_87 : decode cX9_init 87 = .ok (.dup, 1) := by decide +kernel
theorem dX9_init_88 : decode cX9_init 88 = .ok (.invokespecial 46, 3) := by decide +kernel
theorem dX9_init_91 : decode cX9_init 91 = .ok (.putfield 47, 3) := by decide +kernel
theorem dX9_init_94 : decode cX9_init 94 = .ok (.return_, 1) := by decide +kernel
theorem dX9_size_0 : decode cX9_size 0 = .ok (.iload_n 1, 1) := by decide +kernel
theorem dX9_size_1 : decode cX9_size 1 = .ok (.bipush 16, 2) := by decide +kernel
theorem dX9_size_3 : decode cX9_size 3 = .ok (.if_icmp .lt 10, 3) := by decide +kernel
theorem dX9_size_6 : decode cX9_size 6 = .ok (.iload_n 1, 1) := by decide +kernel
theorem dX9_size_7 : decode cX9_size 7 = .ok (.sipush 4000, 3) := by decide +kernel
theorem dX9_size_10 : decode cX9_size 10 = .ok (.if_icmp .le 6, 3) := by decide +kernel
theorem dX9_size_13 : decode cX9_size 13 = .ok (.bipush (-102), 2) := by decide +kernel
theorem dX9_size_15 : decode cX9_size 15 = .ok (.ireturn, 1) := by decide +kernel
theorem dX9_size_16 : decode cX9_size 16 = .ok (.aload_n 0, 1) := by decide +kernel
theorem dX9_size_17 : decode cX9_size 17 = .ok (.getfield 12, 3) := by decide +kernel
theorem dX9_size_20 : decode cX9_size 20 = .ok (.iload_n 1, 1) := by decide +kernel
theorem dX9_size_21 : decode cX9_size 21 = .ok (.invokevirtual 51, 3) := by decide +kernel
theorem dX9_size_24 : decode cX9_size 24 = .ok (.aload_n 0, 1) := by decide +kernel
theorem dX9_size_25 : decode cX9_size 25 = .ok (.getfield 40, 3) := by decide +kernel
theorem dX9_size_28 : decode cX9_size 28 = .ok (.iconst 0, 1) := by decide +kernel
theorem dX9_size_29 : decode cX9_size 29 = .ok (.putfield 55, 3) := by decide +kernel
theorem dX9_size_32 : decode cX9_size 32 = .ok (.aload_n 0, 1) := by decide +kernel
theorem dX9_size_33 : decode cX9_size 33 = .ok (.iconst 0, 1) := by decide +kernel
theorem dX9_size_34 : decode cX9_size 34 = .ok (.putfield 59, 3) := by decide +kernel
theorem dX9_size_37 : decode cX9_size 37 = .ok (.aload_n 0, 1) := by decide +kernel
theorem dX9_size_38 : decode cX9_size 38 = .ok (.iconst 0, 1) := by decide +kernel
theorem dX9_size_39 : decode cX9_size 39 = .ok (.putfield 62, 3) := by decide +kernel
theorem dX9_size_42 : decode cX9_size 42 = .ok (.aload_n 0, 1) := by decide +kernel
theorem dX9_size_43 : decode cX9_size 43 = .ok (.iconst 0, 1) := by decide +kernel
theorem dX9_size_44 : decode cX9_size 44 = .ok (.putfield 65, 3) := by decide +kernel
theorem dX9_size_47 : decode cX9_size 47 = .ok (.aload_n 0, 1) := by decide +kernel
theorem dX9_size_48 : decode cX9_size 48 = .ok (.iconst 0, 1) := by decide +kernel
theorem dX9_size_49 : decode cX9_size 49 = .ok (.putfield 69, 3) := by decide +kernel
theorem dX9_size_52 : decode cX9_size 52 = .ok (.iconst 1, 1) := by decide +kernel
theorem dX9_size_53 : decode cX9_size 53 = .ok (.ireturn, 1) := by decide +kernel
theorem dX9_make_0 : decode cX9_make 0 = .ok (.iload_n 1, 1) := by decide +kernel
theorem dX9_make_1 : decode cX9_make 1 = .ok (.iload_n 2, 1) := by decide +kernel
theorem dX9_make_2 : decode cX9_make 2 = .ok (.invokestatic 72, 3) := by decide +kernel
theorem dX9_make_5 : decode cX9_make 5 = .ok (.ifCond .eq 6, 3) := by decide +kernel
theorem dX9_make_8 : decode cX9_make 8 = .ok (.bipush (-102), 2) := by decide +kernel
theorem dX9_make_10 : decode cX9_make 10 = .ok (.ireturn, 1) := by decide +kernel
theorem dX9_make_11 : decode cX9_make 11 = .ok (.aload_n 0, 1) := by decide +kernel
theorem dX9_make_12 : decode cX9_make 12 = .ok (.aload_n 0, 1) := by decide +kernel
theorem dX9_make_13 : decode cX9_make 13 = .ok (.getfield 40, 3) := by decide +kernel
theorem dX9_make_16 : decode cX9_make 16 = .ok (.iload_n 1, 1) := by decide +kernel
theorem dX9_make_17 : decode cX9_make 17 = .ok (.iload_n 2, 1) := by decide +kernel
theorem dX9_make_18 : decode cX9_make 18 = .ok (.invokevirtual 76, 3) := by decide +kernel
theorem dX9_make_21 : decode cX9_make 21 = .ok (.invokevirtual 80, 3) := by decide +kernel
theorem dX9_make_24 : decode cX9_make 24 = .ok (.ireturn, 1) := by decide +kernel
theorem dX9_kind_0 : decode cX9_kind 0 = .ok (.aload_n 0, 1) := by decide +kernel
theorem dX9_kind_1 : decode cX9_kind 1 = .ok (.getfield 12, 3) := by decide +kernel
theorem dX9_kind_4 : decode cX9_kind 4 = .ok (.getfield 84, 3) := by decide +kernel
theorem dX9_kind_7 : decode cX9_kind 7 = .ok (.iload_n 1, 1) := by decide +kernel
theorem dX9_kind_8 : decode cX9_kind 8 = .ok (.invokevirtual 88, 3) := by decide +kernel
theorem dX9_kind_11 : decode cX9_kind 11 = .ok (.ifCond .ne 6, 3) := by decide +kernel
theorem dX9_kind_14 : decode cX9_kind 14 = .ok (.bipush (-101), 2) := by decide +kernel
theorem dX9_kind_16 : decode cX9_kind 16 = .ok (.ireturn, 1) := by decide +kernel
theorem dX9_kind_17 : decode cX9_kind 17 = .ok (.aload_n 0, 1) := by decide +kernel
theorem dX9_kind_18 : decode cX9_kind 18 = .ok (.aload_n 0, 1) := by decide +kernel
theorem dX9_kind_19 : decode cX9_kind 19 = .ok (.getfield 12, 3) := by decide +kernel
theorem dX9_kind_22 : decode cX9_kind 22 = .ok (.getfield 84, 3) := by decide +kernel
theorem dX9_kind_25 : decode cX9_kind 25 = .ok (.iload_n 1, 1) := by decide +kernel
theorem dX9_kind_26 : decode cX9_kind 26 = .ok (.invokevirtual 94, 3) := by decide +kernel
theorem dX9_kind_29 : decode cX9_kind 29 = .ok (.ifCond .eq 17, 3) := by decide +kernel
theorem dX9_kind_32 : decode cX9_kind 32 = .ok (.aload_n 0, 1) := by decide +kernel
theorem dX9_kind_33 : decode cX9_kind 33 = .ok (.getfield 12, 3) := by decide +kernel
theorem dX9_kind_36 : decode cX9_kind 36 = .ok (.getfield 84, 3) := by decide +kernel
theorem dX9_kind_39 : decode cX9_kind 39 = .ok (.iload_n 1, 1) := by decide +kernel
theorem dX9_kind_40 : decode cX9_kind 40 = .ok (.invokevirtual 97, 3) := by decide +kernel
theorem dX9_kind_43 : decode cX9_kind 43 = .ok (.goto 5, 3) := by decide +kernel
theorem dX9_kind_46 : decode cX9_kind 46 = .ok (.bipush (-11), 2) := by decide +kernel
theorem dX9_kind_48 : decode cX9_kind 48 = .ok (.invokevirtual 80, 3) := by decide +kernel
theorem dX9_kind_51 : decode cX9_kind 51 = .ok (.ireturn, 1) := by decide +kernel
theorem dX9_place_0 : decode cX9_place 0 = .ok (.aload_n 0, 1) := by decide +kernel
theorem dX9_place_1 : decode cX9_place 1 = .ok (.getfield 12, 3) := by decide +kernel
theorem dX9_place_4 : decode cX9_place 4 = .ok (.getfield 84, 3) := by decide +kernel
theorem dX9_place_7 : decode cX9_place 7 = .ok (.iload_n 1, 1) := by decide +kernel
theorem dX9_place_8 : decode cX9_place 8 = .ok (.invokevirtual 88, 3) := by decide +kernel
theorem dX9_place_11 : decode cX9_place 11 = .ok (.ifCond .ne 6, 3) := by decide +kernel
theorem dX9_place_14 : decode cX9_place 14 = .ok (.bipush (-101), 2) := by decide +kernel
theorem dX9_place_16 : decode cX9_place 16 = .ok (.ireturn, 1) := by decide +kernel
theorem dX9_place_17 : decode cX9_place 17 = .ok (.aload_n 0, 1) := by decide +kernel
theorem dX9_place_18 : decode cX9_place 18 = .ok (.aload_n 0, 1) := by decide +kernel
theorem dX9_place_19 : decode cX9_place 19 = .ok (.getfield 12, 3) := by decide +kernel
theorem dX9_place_22 : decode cX9_place 22 = .ok (.getfield 84, 3) := by decide +kernel
theorem dX9_place_25 : decode cX9_place 25 = .ok (.iload_n 1, 1) := by decide +kernel
theorem dX9_place_26 : decode cX9_place 26 = .ok (.invokevirtual 94, 3) := by decide +kernel
theorem dX9_place_29 : decode cX9_place 29 = .ok (.ifCond .eq 18, 3) := by decide +kernel
theorem dX9_place_32 : decode cX9_place 32 = .ok (.aload_n 0, 1) := by decide +kernel
theorem dX9_place_33 : decode cX9_place 33 = .ok (.getfield 12, 3) := by decide +kernel
theorem dX9_place_36 : decode cX9_place 36 = .ok (.getfield 84, 3) := by decide +kernel
theorem dX9_place_39 : decode cX9_place 39 = .ok (.getfield 100, 3) := by decide +kernel
theorem dX9_place_42 : decode cX9_place 42 = .ok (.iload_n 1, 1) := by decide +kernel
theorem dX9_place_43 : decode cX9_place 43 = .ok (.iaload, 1) := by decide +kernel
theorem dX9_place_44 : decode cX9_place 44 = .ok (.goto 5, 3) := by decide +kernel
theorem dX9_place_47 : decode cX9_place 47 = .ok (.bipush (-11), 2) := by decide +kernel
theorem dX9_place_49 : decode cX9_place 49 = .ok (.invokevirtual 80, 3) := by decide +kernel
theorem dX9_place_52 : decode cX9_place 52 = .ok (.ireturn, 1) := by decide +kernel
theorem dX9_measure_0 : decode cX9_measure 0 = .ok (.aload_n 0, 1) := by decide +kernel
theorem dX9_measure_1 : decode cX9_measure 1 = .ok (.getfield 12, 3) := by decide +kernel
theorem dX9_measure_4 : decode cX9_measure 4 = .ok (.getfield 84, 3) := by decide +kernel
theorem dX9_measure_7 : decode cX9_measure 7 = .ok (.iload_n 1, 1) := by decide +kernel
theorem dX9_measure_8 : decode cX9_measure 8 = .ok (.invokevirtual 88, 3) := by decide +kernel
theorem dX9_measure_11 : decode cX9_measure 11 = .ok (.ifCond .ne 6, 3) := by decide +kernel
theorem dX9_measure_14 : decode cX9_measure 14 = .ok (.bipush (-101), 2) := by decide +kernel
theorem dX9_measure_16 : decode cX9_measure 16 = .ok (.ireturn, 1) := by decide +kernel
theorem dX9_measure_17 : decode cX9_measure 17 = .ok (.aload_n 0, 1) := by decide +kernel
theorem dX9_measure_18 : decode cX9_measure 18 = .ok (.getfield 12, 3) := by decide +kernel
theorem dX9_measure_21 : decode cX9_measure 21 = .ok (.getfield 84, 3) := by decide +kernel
theorem dX9_measure_24 : decode cX9_measure 24 = .ok (.iload_n 1, 1) := by decide +kernel
theorem dX9_measure_25 : decode cX9_measure 25 = .ok (.invokevirtual 94, 3) := by decide +kernel
theorem dX9_measure_28 : decode cX9_measure 28 = .ok (.ifCond .ne 10, 3) := by decide +kernel
theorem dX9_measure_31 : decode cX9_measure 31 = .ok (.aload_n 0, 1) := by decide +kernel
theorem dX9_measure_32 : decode cX9_measure 32 = .ok (.bipush (-11), 2) := by decide +kernel
theorem dX9_measure_34 : decode cX9_measure 34 = .ok (.invokevirtual 80, 3) := by decide +kernel
theorem dX9_measure_37 : decode cX9_measure 37 = .ok (.ireturn, 1) := by decide +kernel
theorem dX9_measure_38 : decode cX9_measure 38 = .ok (.aload_n 0, 1) := by decide +kernel
theorem dX9_measure_39 : decode cX9_measure 39 = .ok (.getfield 12, 3) := by decide +kernel
theorem dX9_measure_42 : decode cX9_measure 42 = .ok (.getfield 84, 3) := by decide +kernel
theorem dX9_measure_45 : decode cX9_measure 45 = .ok (.iload_n 1, 1) := by decide +kernel
theorem dX9_measure_46 : decode cX9_measure 46 = .ok (.invokevirtual 97, 3) := by decide +kernel
theorem dX9_measure_49 : decode cX9_measure 49 = .ok (.istore_n 2, 1) := by decide +kernel
theorem dX9_measure_50 : decode cX9_measure 50 = .ok (.aload_n 0, 1) := by decide +kernel
theorem dX9_measure_51 : decode cX9_measure 51 = .ok (.getstatic 103, 3) := by decide +kernel
theorem dX9_measure_54 : decode cX9_measure 54 = .ok (.iload_n 2, 1) := by decide +kernel
theorem dX9_measure_55 : decode cX9_measure 55 = .ok (.iaload, 1) := by decide +kernel
theorem dX9_measure_56 : decode cX9_measure 56 = .ok (.getstatic 106, 3) := by decide +kernel
theorem dX9_measure_59 : decode cX9_measure 59 = .ok (.iload_n 2, 1) := by decide +kernel
theorem dX9_measure_60 : decode cX9_measure 60 = .ok (.iaload, 1) := by decide +kernel
theorem dX9_measure_61 : decode cX9_measure 61 = .ok (.invokevirtual 109, 3) := by decide +kernel
theorem dX9_measure_64 : decode cX9_measure 64 = .ok (.aload_n 0, 1) := by decide +kernel
theorem dX9_measure_65 : decode cX9_measure 65 = .ok (.aload_n 0, 1) := by decide +kernel
theorem dX9_measure_66 : decode cX9_measure 66 = .ok (.getfield 12, 3) := by decide +kernel
theorem dX9_measure_69 : decode cX9_measure 69 = .ok (.getfield 84, 3) := by decide +kernel
theorem dX9_measure_72 : decode cX9_measure 72 = .ok (.iload_n 1, 1) := by decide +kernel
theorem dX9_measure_73 : decode cX9_measure 73 = .ok (.invokevirtual 113, 3) := by decide +kernel
theorem dX9_measure_76 : decode cX9_measure 76 = .ok (.invokevirtual 80, 3) := by decide +kernel
theorem dX9_measure_79 : decode cX9_measure 79 = .ok (.ireturn, 1) := by decide +kernel
theorem dX9_links_0 : decode cX9_links 0 = .ok (.aload_n 0, 1) := by decide +kernel
theorem dX9_links_1 : decode cX9_links 1 = .ok (.getfield 12, 3) := by decide +kernel
theorem dX9_links_4 : decode cX9_links 4 = .ok (.getfield 84, 3) := by decide +kernel
theorem dX9_links_7 : decode cX9_links 7 = .ok (.iload_n 1, 1) := by decide +kernel
theorem dX9_links_8 : decode cX9_links 8 = .ok (.invokevirtual 88, 3) := by decide +kernel
theorem dX9_links_11 : decode cX9_links 11 = .ok (.ifCond .ne 6, 3) := by decide +kernel
theorem dX9_links_14 : decode cX9_links 14 = .ok (.bipush (-101), 2) := by decide +kernel
theorem dX9_links_16 : decode cX9_links 16 = .ok (.ireturn, 1) := by decide +kernel
theorem dX9_links_17 : decode cX9_links 17 = .ok (.aload_n 0, 1) := by decide +kernel
theorem dX9_links_18 : decode cX9_links 18 = .ok (.getfield 12, 3) := by decide +kernel
theorem dX9_links_21 : decode cX9_links 21 = .ok (.getfield 84, 3) := by decide +kernel
theorem dX9_links_24 : decode cX9_links 24 = .ok (.iload_n 1, 1) := by decide +kernel
theorem dX9_links_25 : decode cX9_links 25 = .ok (.invokevirtual 94, 3) := by decide +kernel
theorem dX9_links_28 : decode cX9_links 28 = .ok (.ifCond .ne 10, 3) := by decide +kernel
theorem dX9_links_31 : decode cX9_links 31 = .ok (.aload_n 0, 1) := by decide +kernel
theorem dX9_links_32 : decode cX9_links 32 = .ok (.bipush (-11), 2) := by decide +kernel
theorem dX9_links_34 : decode cX9_links 34 = .ok (.invokevirtual 80, 3) := by decide +kernel
theorem dX9_links_37 : decode cX9_links 37 = .ok (.ireturn, 1) := by decide +kernel
theorem dX9_links_38 : decode cX9_links 38 = .ok (.aload_n 0, 1) := by decide +kernel
theorem dX9_links_39 : decode cX9_links 39 = .ok (.getfield 12, 3) := by decide +kernel
theorem dX9_links_42 : decode cX9_links 42 = .ok (.getfield 84, 3) := by decide +kernel
theorem dX9_links_45 : decode cX9_links 45 = .ok (.iload_n 1, 1) := by decide +kernel
theorem dX9_links_46 : decode cX9_links 46 = .ok (.invokevirtual 97, 3) := by decide +kernel
theorem dX9_links_49 : decode cX9_links 49 = .ok (.istore_n 2, 1) := by decide +kernel
theorem dX9_links_50 : decode cX9_links 50 = .ok (.aload_n 0, 1) := by decide +kernel
theorem dX9_links_51 : decode cX9_links 51 = .ok (.getstatic 116, 3) := by decide +kernel
theorem dX9_links_54 : decode cX9_links 54 = .ok (.iload_n 2, 1) := by decide +kernel
theorem dX9_links_55 : decode cX9_links 55 = .ok (.iaload, 1) := by decide +kernel
theorem dX9_links_56 : decode cX9_links 56 = .ok (.getstatic 119, 3) := by decide +kernel
theorem dX9_links_59 : decode cX9_links 59 = .ok (.iload_n 2, 1) := by decide +kernel
theorem dX9_links_60 : decode cX9_links 60 = .ok (.iaload, 1) := by decide +kernel
theorem dX9_links_61 : decode cX9_links 61 = .ok (.invokevirtual 109, 3) := by decide +kernel
theorem dX9_links_64 : decode cX9_links 64 = .ok (.aload_n 0, 1) := by decide +kernel
theorem dX9_links_65 : decode cX9_links 65 = .ok (.aload_n 0, 1) := by decide +kernel
theorem dX9_links_66 : decode cX9_links 66 = .ok (.getfield 12, 3) := by decide +kernel
theorem dX9_links_69 : decode cX9_links 69 = .ok (.getfield 84, 3) := by decide +kernel
theorem dX9_links_72 : decode cX9_links 72 = .ok (.iload_n 1, 1) := by decide +kernel
theorem dX9_links_73 : decode cX9_links 73 = .ok (.invokevirtual 122, 3) := by decide +kernel
theorem dX9_links_76 : decode cX9_links 76 = .ok (.invokevirtual 80, 3) := by decide +kernel
theorem dX9_links_79 : decode cX9_links 79 = .ok (.ireturn, 1) := by decide +kernel
theorem dX9_link_0 : decode cX9_link 0 = .ok (.aload_n 0, 1) := by decide +kernel
theorem dX9_link_1 : decode cX9_link 1 = .ok (.getfield 12, 3) := by decide +kernel
theorem dX9_link_4 : decode cX9_link 4 = .ok (.getfield 84, 3) := by decide +kernel
theorem dX9_link_7 : decode cX9_link 7 = .ok (.iload_n 1, 1) := by decide +kernel
theorem dX9_link_8 : decode cX9_link 8 = .ok (.invokevirtual 88, 3) := by decide +kernel
theorem dX9_link_11 : decode cX9_link 11 = .ok (.ifCond .eq 11, 3) := by decide +kernel
theorem dX9_link_14 : decode cX9_link 14 = .ok (.aload_n 0, 1) := by decide +kernel
theorem dX9_link_15 : decode cX9_link 15 = .ok (.iload_n 3, 1) := by decide +kernel
theorem dX9_link_16 : decode cX9_link 16 = .ok (.invokevirtual 125, 3) := by decide +kernel
theorem dX9_link_19 : decode cX9_link 19 = .ok (.ifCond .eq 6, 3) := by decide +kernel
theorem dX9_link_22 : decode cX9_link 22 = .ok (.bipush (-101), 2) := by decide +kernel
theorem dX9_link_24 : decode cX9_link 24 = .ok (.ireturn, 1) := by decide +kernel
theorem dX9_link_25 : decode cX9_link 25 = .ok (.aload_n 0, 1) := by decide +kernel
theorem dX9_link_26 : decode cX9_link 26 = .ok (.aload_n 0, 1) := by decide +kernel
theorem dX9_link_27 : decode cX9_link 27 = .ok (.getfield 40, 3) := by decide +kernel
theorem dX9_link_30 : decode cX9_link 30 = .ok (.iload_n 1, 1) := by decide +kernel
theorem dX9_link_31 : decode cX9_link 31 = .ok (.iload_n 2, 1) := by decide +kernel
theorem dX9_link_32 : decode cX9_link 32 = .ok (.iload_n 3, 1) := by decide +kernel
theorem dX9_link_33 : decode cX9_link 33 = .ok (.invokevirtual 128, 3) := by decide +kernel
theorem dX9_link_36 : decode cX9_link 36 = .ok (.invokevirtual 80, 3) := by decide +kernel
theorem dX9_link_39 : decode cX9_link 39 = .ok (.ireturn, 1) := by decide +kernel
theorem dX9_get_0 : decode cX9_get 0 = .ok (.aload_n 0, 1) := by decide +kernel
theorem dX9_get_1 : decode cX9_get 1 = .ok (.getfield 12, 3) := by decide +kernel
theorem dX9_get_4 : decode cX9_get 4 = .ok (.getfield 84, 3) := by decide +kernel
theorem dX9_get_7 : decode cX9_get 7 = .ok (.iload_n 1, 1) := by decide +kernel
theorem dX9_get_8 : decode cX9_get 8 = .ok (.invokevirtual 88, 3) := by decide +kernel
theorem dX9_get_11 : decode cX9_get 11 = .ok (.ifCond .ne 6, 3) := by decide +kernel
theorem dX9_get_14 : decode cX9_get 14 = .ok (.bipush (-101), 2) := by decide +kernel
theorem dX9_get_16 : decode cX9_get 16 = .ok (.ireturn, 1) := by decide +kernel
theorem dX9_get_17 : decode cX9_get 17 = .ok (.aload_n 0, 1) := by decide +kernel
theorem dX9_get_18 : decode cX9_get 18 = .ok (.aload_n 0, 1) := by decide +kernel
theorem dX9_get_19 : decode cX9_get 19 = .ok (.getfield 40, 3) := by decide +kernel
theorem dX9_get_22 : decode cX9_get 22 = .ok (.iload_n 1, 1) := by decide +kernel
theorem dX9_get_23 : decode cX9_get 23 = .ok (.iload_n 2, 1) := by decide +kernel
theorem dX9_get_24 : decode cX9_get 24 = .ok (.invokevirtual 132, 3) := by decide +kernel
theorem dX9_get_27 : decode cX9_get 27 = .ok (.invokevirtual 80, 3) := by decide +kernel
theorem dX9_get_30 : decode cX9_get 30 = .ok (.ireturn, 1) := by decide +kernel
theorem dX9_weaken_0 : decode cX9_weaken 0 = .ok (.aload_n 0, 1) := by decide +kernel
theorem dX9_weaken_1 : decode cX9_weaken 1 = .ok (.getfield 12, 3) := by decide +kernel
theorem dX9_weaken_4 : decode cX9_weaken 4 = .ok (.getfield 84, 3) := by decide +kernel
theorem dX9_weaken_7 : decode cX9_weaken 7 = .ok (.iload_n 1, 1) := by decide +kernel
theorem dX9_weaken_8 : decode cX9_weaken 8 = .ok (.invokevirtual 88, 3) := by decide +kernel
theorem dX9_weaken_11 : decode cX9_weaken 11 = .ok (.ifCond .eq 11, 3) := by decide +kernel
theorem dX9_weaken_14 : decode cX9_weaken 14 = .ok (.aload_n 0, 1) := by decide +kernel
theorem dX9_weaken_15 : decode cX9_weaken 15 = .ok (.iload_n 2, 1) := by decide +kernel
theorem dX9_weaken_16 : decode cX9_weaken 16 = .ok (.invokevirtual 125, 3) := by decide +kernel
theorem dX9_weaken_19 : decode cX9_weaken 19 = .ok (.ifCond .eq 6, 3) := by decide +kernel
theorem dX9_weaken_22 : decode cX9_weaken 22 = .ok (.bipush (-101), 2) := by decide +kernel
theorem dX9_weaken_24 : decode cX9_weaken 24 = .ok (.ireturn, 1) := by decide +kernel
theorem dX9_weaken_25 : decode cX9_weaken 25 = .ok (.aload_n 0, 1) := by decide +kernel
theorem dX9_weaken_26 : decode cX9_weaken 26 = .ok (.aload_n 0, 1) := by decide +kernel
theorem dX9_weaken_27 : decode cX9_weaken 27 = .ok (.getfield 40, 3) := by decide +kernel
theorem dX9_weaken_30 : decode cX9_weaken 30 = .ok (.iload_n 1, 1) := by decide +kernel
theorem dX9_weaken_31 : decode cX9_weaken 31 = .ok (.iload_n 2, 1) := by decide +kernel
theorem dX9_weaken_32 : decode cX9_weaken 32 = .ok (.invokevirtual 135, 3) := by decide +kernel
theorem dX9_weaken_35 : decode cX9_weaken 35 = .ok (.invokevirtual 80, 3) := by decide +kernel
theorem dX9_weaken_38 : decode cX9_weaken 38 = .ok (.ireturn, 1) := by decide +kernel
theorem dX9_look_0 : decode cX9_look 0 = .ok (.aload_n 0, 1) := by decide +kernel
theorem dX9_look_1 : decode cX9_look 1 = .ok (.getfield 12, 3) := by decide +kernel
theorem dX9_look_4 : decode cX9_look 4 = .ok (.getfield 84, 3) := by decide +kernel
theorem dX9_look_7 : decode cX9_look 7 = .ok (.iload_n 1, 1) := by decide +kernel
theorem dX9_look_8 : decode cX9_look 8 = .ok (.invokevirtual 88, 3) := by decide +kernel
theorem dX9_look_11 : decode cX9_look 11 = .ok (.ifCond .ne 6, 3) := by decide +kernel
theorem dX9_look_14 : decode cX9_look 14 = .ok (.bipush (-101), 2) := by decide +kernel
theorem dX9_look_16 : decode cX9_look 16 = .ok (.ireturn, 1) := by decide +kernel
theorem dX9_look_17 : decode cX9_look 17 = .ok (.aload_n 0, 1) := by decide +kernel
theorem dX9_look_18 : decode cX9_look 18 = .ok (.aload_n 0, 1) := by decide +kernel
theorem dX9_look_19 : decode cX9_look 19 = .ok (.getfield 40, 3) := by decide +kernel
theorem dX9_look_22 : decode cX9_look 22 = .ok (.iload_n 1, 1) := by decide +kernel
theorem dX9_look_23 : decode cX9_look 23 = .ok (.invokevirtual 138, 3) := by decide +kernel
theorem dX9_look_26 : decode cX9_look 26 = .ok (.invokevirtual 80, 3) := by decide +kernel
theorem dX9_look_29 : decode cX9_look 29 = .ok (.ireturn, 1) := by decide +kernel
theorem dX9_number_0 : decode cX9_number 0 = .ok (.aload_n 0, 1) := by decide +kernel
theorem dX9_number_1 : decode cX9_number 1 = .ok (.getfield 12, 3) := by decide +kernel
theorem dX9_number_4 : decode cX9_number 4 = .ok (.getfield 84, 3) := by decide +kernel
theorem dX9_number_7 : decode cX9_number 7 = .ok (.iload_n 1, 1) := by decide +kernel
theorem dX9_number_8 : decode cX9_number 8 = .ok (.invokevirtual 88, 3) := by decide +kernel
theorem dX9_number_11 : decode cX9_number 11 = .ok (.ifCond .ne 6, 3) := by decide +kernel
theorem dX9_number_14 : decode cX9_number 14 = .ok (.bipush (-101), 2) := by decide +kernel
theorem dX9_number_16 : decode cX9_number 16 = .ok (.ireturn, 1) := by decide +kernel
theorem dX9_number_17 : decode cX9_number 17 = .ok (.aload_n 0, 1) := by decide +kernel
theorem dX9_number_18 : decode cX9_number 18 = .ok (.getfield 40, 3) := by decide +kernel
theorem dX9_number_21 : decode cX9_number 21 = .ok (.iconst 4, 1) := by decide +kernel
theorem dX9_number_22 : decode cX9_number 22 = .ok (.iload_n 1, 1) := by decide +kernel
theorem dX9_number_23 : decode cX9_number 23 = .ok (.invokevirtual 141, 3) := by decide +kernel
theorem dX9_number_26 : decode cX9_number 26 = .ok (.istore_n 3, 1) := by decide +kernel
theorem dX9_number_27 : decode cX9_number 27 = .ok (.aload_n 0, 1) := by decide +kernel
theorem dX9_number_28 : decode cX9_number 28 = .ok (.iload_n 3, 1) := by decide +kernel
theorem dX9_number_29 : decode cX9_number 29 = .ok (.invokevirtual 80, 3) := by decide +kernel
theorem dX9_number_32 : decode cX9_number 32 = .ok (.pop, 1) := by decide +kernel
theorem dX9_number_33 : decode cX9_number 33 = .ok (.iload_n 3, 1) := by decide +kernel
theorem dX9_number_34 : decode cX9_number 34 = .ok (.ifCond .eq 7, 3) := by decide +kernel
theorem dX9_number_37 : decode cX9_number 37 = .ok (.iload_n 3, 1) := by decide +kernel
theorem dX9_number_38 : decode cX9_number 38 = .ok (.goto 15, 3) := by decide +kernel
theorem dX9_number_41 : decode cX9_number 41 = .ok (.aload_n 0, 1) := by decide +kernel
theorem dX9_number_42 : decode cX9_number 42 = .ok (.getfield 12, 3) := by decide +kernel
theorem dX9_number_45 : decode cX9_number 45 = .ok (.getfield 84, 3) := by decide +kernel
theorem dX9_number_48 : decode cX9_number 48 = .ok (.iload_n 1, 1) := by decide +kernel
theorem dX9_number_49 : decode cX9_number 49 = .ok (.iload_n 2, 1) := by decide +kernel
theorem dX9_number_50 : decode cX9_number 50 = .ok (.invokevirtual 144, 3) := by decide +kernel
theorem dX9_number_53 : decode cX9_number 53 = .ok (.ireturn, 1) := by decide +kernel
theorem dX9_put_0 : decode cX9_put 0 = .ok (.aload_n 0, 1) := by decide +kernel
theorem dX9_put_1 : decode cX9_put 1 = .ok (.getfield 12, 3) := by decide +kernel
theorem dX9_put_4 : decode cX9_put 4 = .ok (.getfield 84, 3) := by decide +kernel
theorem dX9_put_7 : decode cX9_put 7 = .ok (.iload_n 1, 1) := by decide +kernel
theorem dX9_put_8 : decode cX9_put 8 = .ok (.invokevirtual 88, 3) := by decide +kernel
theorem dX9_put_11 : decode cX9_put 11 = .ok (.ifCond .ne 6, 3) := by decide +kernel
theorem dX9_put_14 : decode cX9_put 14 = .ok (.bipush (-101), 2) := by decide +kernel
theorem dX9_put_16 : decode cX9_put 16 = .ok (.ireturn, 1) := by decide +kernel
theorem dX9_put_17 : decode cX9_put 17 = .ok (.aload_n 0, 1) := by decide +kernel
theorem dX9_put_18 : decode cX9_put 18 = .ok (.aload_n 0, 1) := by decide +kernel
theorem dX9_put_19 : decode cX9_put 19 = .ok (.getfield 40, 3) := by decide +kernel
theorem dX9_put_22 : decode cX9_put 22 = .ok (.iload_n 1, 1) := by decide +kernel
theorem dX9_put_23 : decode cX9_put 23 = .ok (.iload_n 2, 1) := by decide +kernel
theorem dX9_put_24 : decode cX9_put 24 = .ok (.iload_n 3, 1) := by decide +kernel
theorem dX9_put_25 : decode cX9_put 25 = .ok (.invokevirtual 147, 3) := by decide +kernel
theorem dX9_put_28 : decode cX9_put 28 = .ok (.invokevirtual 80, 3) := by decide +kernel
theorem dX9_put_31 : decode cX9_put 31 = .ok (.ireturn, 1) := by decide +kernel
theorem dX9_byteAt_0 : decode cX9_byteAt 0 = .ok (.aload_n 0, 1) := by decide +kernel
theorem dX9_byteAt_1 : decode cX9_byteAt 1 = .ok (.getfield 12, 3) := by decide +kernel
theorem dX9_byteAt_4 : decode cX9_byteAt 4 = .ok (.getfield 84, 3) := by decide +kernel
theorem dX9_byteAt_7 : decode cX9_byteAt 7 = .ok (.iload_n 1, 1) := by decide +kernel
theorem dX9_byteAt_8 : decode cX9_byteAt 8 = .ok (.invokevirtual 88, 3) := by decide +kernel
theorem dX9_byteAt_11 : decode cX9_byteAt 11 = .ok (.ifCond .ne 6, 3) := by decide +kernel
theorem dX9_byteAt_14 : decode cX9_byteAt 14 = .ok (.bipush (-101), 2) := by decide +kernel
theorem dX9_byteAt_16 : decode cX9_byteAt 16 = .ok (.ireturn, 1) := by decide +kernel
theorem dX9_byteAt_17 : decode cX9_byteAt 17 = .ok (.aload_n 0, 1) := by decide +kernel
theorem dX9_byteAt_18 : decode cX9_byteAt 18 = .ok (.aload_n 0, 1) := by decide +kernel
theorem dX9_byteAt_19 : decode cX9_byteAt 19 = .ok (.getfield 40, 3) := by decide +kernel
theorem dX9_byteAt_22 : decode cX9_byteAt 22 = .ok (.iload_n 1, 1) := by decide +kernel
theorem dX9_byteAt_23 : decode cX9_byteAt 23 = .ok (.iload_n 2, 1) := by decide +kernel
theorem dX9_byteAt_24 : decode cX9_byteAt 24 = .ok (.invokevirtual 150, 3) := by decide +kernel
theorem dX9_byteAt_27 : decode cX9_byteAt 27 = .ok (.invokevirtual 80, 3) := by decide +kernel
theorem dX9_byteAt_30 : decode cX9_byteAt 30 = .ok (.ireturn, 1) := by decide +kernel
theorem dX9_key_0 : decode cX9_key 0 = .ok (.aload_n 0, 1) := by decide +kernel
theorem dX9_key_1 : decode cX9_key 1 = .ok (.getfield 12, 3) := by decide +kernel
theorem dX9_key_4 : decode cX9_key 4 = .ok (.getfield 84, 3) := by decide +kernel
theorem dX9_key_7 : decode cX9_key 7 = .ok (.iload_n 1, 1) := by decide +kernel
theorem dX9_key_8 : decode cX9_key 8 = .ok (.invokevirtual 88, 3) := by decide +kernel
theorem dX9_key_11 : decode cX9_key 11 = .ok (.ifCond .ne 6, 3) := by decide +kernel
theorem dX9_key_14 : decode cX9_key 14 = .ok (.bipush (-101), 2) := by decide +kernel
theorem dX9_key_16 : decode cX9_key 16 = .ok (.ireturn, 1) := by decide +kernel
theorem dX9_key_17 : decode cX9_key 17 = .ok (.aload_n 0, 1) := by decide +kernel
theorem dX9_key_18 : decode cX9_key 18 = .ok (.aload_n 0, 1) := by decide +kernel
theorem dX9_key_19 : decode cX9_key 19 = .ok (.getfield 40, 3) := by decide +kernel
theorem dX9_key_22 : decode cX9_key 22 = .ok (.iload_n 1, 1) := by decide +kernel
theorem dX9_key_23 : decode cX9_key 23 = .ok (.iload_n 2, 1) := by decide +kernel
theorem dX9_key_24 : decode cX9_key 24 = .ok (.iload_n 3, 1) := by decide +kernel
theorem dX9_key_25 : decode cX9_key 25 = .ok (.invokevirtual 153, 3) := by decide +kernel
theorem dX9_key_28 : decode cX9_key 28 = .ok (.invokevirtual 80, 3) := by decide +kernel
theorem dX9_key_31 : decode cX9_key 31 = .ok (.ireturn, 1) := by decide +kernel
theorem dX9_find_0 : decode cX9_find 0 = .ok (.aload_n 0, 1) := by decide +kernel
theorem dX9_find_1 : decode cX9_find 1 = .ok (.getfield 12, 3) := by decide +kernel
theorem dX9_find_4 : decode cX9_find 4 = .ok (.getfield 84, 3) := by decide +kernel
theorem dX9_find_7 : decode cX9_find 7 = .ok (.iload_n 1, 1) := by decide +kernel
theorem dX9_find_8 : decode cX9_find 8 = .ok (.invokevirtual 88, 3) := by decide +kernel
theorem dX9_find_11 : decode cX9_find 11 = .ok (.ifCond .ne 6, 3) := by decide +kernel
theorem dX9_find_14 : decode cX9_find 14 = .ok (.bipush (-101), 2) := by decide +kernel
theorem dX9_find_16 : decode cX9_find 16 = .ok (.ireturn, 1) := by decide +kernel
theorem dX9_find_17 : decode cX9_find 17 = .ok (.aload_n 0, 1) := by decide +kernel
theorem dX9_find_18 : decode cX9_find 18 = .ok (.aload_n 0, 1) := by decide +kernel
theorem dX9_find_19 : decode cX9_find 19 = .ok (.getfield 40, 3) := by decide +kernel
theorem dX9_find_22 : decode cX9_find 22 = .ok (.iload_n 1, 1) := by decide +kernel
theorem dX9_find_23 : decode cX9_find 23 = .ok (.iload_n 2, 1) := by decide +kernel
theorem dX9_find_24 : decode cX9_find 24 = .ok (.invokevirtual 156, 3) := by decide +kernel
theorem dX9_find_27 : decode cX9_find 27 = .ok (.invokevirtual 80, 3) := by decide +kernel
theorem dX9_find_30 : decode cX9_find 30 = .ok (.ireturn, 1) := by decide +kernel
theorem dX9_root_0 : decode cX9_root 0 = .ok (.iload_n 1, 1) := by decide +kernel
theorem dX9_root_1 : decode cX9_root 1 = .ok (.ifCond .lt 17, 3) := by decide +kernel
theorem dX9_root_4 : decode cX9_root 4 = .ok (.iload_n 1, 1) := by decide +kernel
theorem dX9_root_5 : decode cX9_root 5 = .ok (.bipush 24, 2) := by decide +kernel
theorem dX9_root_7 : decode cX9_root 7 = .ok (.if_icmp .ge 11, 3) := by decide +kernel
theorem dX9_root_10 : decode cX9_root 10 = .ok (.aload_n 0, 1) := by decide +kernel
theorem dX9_root_11 : decode cX9_root 11 = .ok (.iload_n 2, 1) := by decide +kernel
theorem dX9_root_12 : decode cX9_root 12 = .ok (.invokevirtual 125, 3) := by decide +kernel
theorem dX9_root_15 : decode cX9_root 15 = .ok (.ifCond .eq 6, 3) := by decide +kernel
theorem dX9_root_18 : decode cX9_root 18 = .ok (.bipush (-101), 2) := by decide +kernel
theorem dX9_root_20 : decode cX9_root 20 = .ok (.ireturn, 1) := by decide +kernel
theorem dX9_root_21 : decode cX9_root 21 = .ok (.aload_n 0, 1) := by decide +kernel
theorem dX9_root_22 : decode cX9_root 22 = .ok (.aload_n 0, 1) := by decide +kernel
theorem dX9_root_23 : decode cX9_root 23 = .ok (.getfield 40, 3) := by decide +kernel
theorem dX9_root_26 : decode cX9_root 26 = .ok (.iload_n 1, 1) := by decide +kernel
theorem dX9_root_27 : decode cX9_root 27 = .ok (.iload_n 2, 1) := by decide +kernel
theorem dX9_root_28 : decode cX9_root 28 = .ok (.invokevirtual 159, 3) := by decide +kernel
theorem dX9_root_31 : decode cX9_root 31 = .ok (.invokevirtual 80, 3) := by decide +kernel
theorem dX9_root_34 : decode cX9_root 34 = .ok (.ireturn, 1) := by decide +kernel
theorem dX9_rootOf_0 : decode cX9_rootOf 0 = .ok (.iload_n 1, 1) := by decide +kernel
theorem dX9_rootOf_1 : decode cX9_rootOf 1 = .ok (.ifCond .lt 9, 3) := by decide +kernel
theorem dX9_rootOf_4 : decode cX9_rootOf 4 = .ok (.iload_n 1, 1) := by decide +kernel
theorem dX9_rootOf_5 : decode cX9_rootOf 5 = .ok (.bipush 24, 2) := by decide +kernel
theorem dX9_rootOf_7 : decode cX9_rootOf 7 = .ok (.if_icmp .lt 8, 3) := by decide +kernel
theorem dX9_rootOf_10 : decode cX9_rootOf 10 = .ok (.bipush (-101), 2) := by decide +kernel
theorem dX9_rootOf_12 : decode cX9_rootOf 12 = .ok (.goto 12, 3) := by decide +kernel
theorem dX9_rootOf_15 : decode cX9_rootOf 15 = .ok (.aload_n 0, 1) := by decide +kernel
theorem dX9_rootOf_16 : decode cX9_rootOf 16 = .ok (.getfield 12, 3) := by decide +kernel
theorem dX9_rootOf_19 : decode cX9_rootOf 19 = .ok (.getfield 162, 3) := by decide +kernel
theorem dX9_rootOf_22 : decode cX9_rootOf 22 = .ok (.iload_n 1, 1) := by decide +kernel
theorem dX9_rootOf_23 : decode cX9_rootOf 23 = .ok (.iaload, 1) := by decide +kernel
theorem dX9_rootOf_24 : decode cX9_rootOf 24 = .ok (.ireturn, 1) := by decide +kernel
theorem dX9_copy_0 : decode cX9_copy 0 = .ok (.aload_n 0, 1) := by decide +kernel
theorem dX9_copy_1 : decode cX9_copy 1 = .ok (.getfield 12, 3) := by decide +kernel
theorem dX9_copy_4 : decode cX9_copy 4 = .ok (.getfield 84, 3) := by decide +kernel
theorem dX9_copy_7 : decode cX9_copy 7 = .ok (.iload_n 1, 1) := by decide +kernel
theorem dX9_copy_8 : decode cX9_copy 8 = .ok (.invokevirtual 88, 3) := by decide +kernel
theorem dX9_copy_11 : decode cX9_copy 11 = .ok (.ifCond .eq 17, 3) := by decide +kernel
theorem dX9_copy_14 : decode cX9_copy 14 = .ok (.aload_n 0, 1) := by decide +kernel
theorem dX9_copy_15 : decode cX9_copy 15 = .ok (.getfield 12, 3) := by decide +kernel
theorem dX9_copy_18 : decode cX9_copy 18 = .ok (.getfield 84, 3) := by decide +kernel
theorem dX9_copy_21 : decode cX9_copy 21 = .ok (.iload_n 3, 1) := by decide +kernel
theorem dX9_copy_22 : decode cX9_copy 22 = .ok (.invokevirtual 88, 3) := by decide +kernel
theorem dX9_copy_25 : decode cX9_copy 25 = .ok (.ifCond .ne 6, 3) := by decide +kernel
theorem dX9_copy_28 : decode cX9_copy 28 = .ok (.bipush (-101), 2) := by decide +kernel
theorem dX9_copy_30 : decode cX9_copy 30 = .ok (.ireturn, 1) := by decide +kernel
theorem dX9_copy_31 : decode cX9_copy 31 = .ok (.aload_n 0, 1) := by decide +kernel
theorem dX9_copy_32 : decode cX9_copy 32 = .ok (.aload_n 0, 1) := by decide +kernel
theorem dX9_copy_33 : decode cX9_copy 33 = .ok (.getfield 40, 3) := by decide +kernel
theorem dX9_copy_36 : decode cX9_copy 36 = .ok (.iload_n 1, 1) := by decide +kernel
theorem dX9_copy_37 : decode cX9_copy 37 = .ok (.iload_n 2, 1) := by decide +kernel
theorem dX9_copy_38 : decode cX9_copy 38 = .ok (.iload_n 3, 1) := by decide +kernel
theorem dX9_copy_39 : decode cX9_copy 39 = .ok (.iload 4, 2) := by decide +kernel
theorem dX9_copy_41 : decode cX9_copy 41 = .ok (.iload 5, 2) := by decide +kernel
theorem dX9_copy_43 : decode cX9_copy 43 = .ok (.invokevirtual 165, 3) := by decide +kernel
theorem dX9_copy_46 : decode cX9_copy 46 = .ok (.invokevirtual 80, 3) := by decide +kernel
theorem dX9_copy_49 : decode cX9_copy 49 = .ok (.ireturn, 1) := by decide +kernel
theorem dX9_copied_0 : decode cX9_copied 0 = .ok (.aload_n 0, 1) := by decide +kernel
theorem dX9_copied_1 : decode cX9_copied 1 = .ok (.getfield 40, 3) := by decide +kernel
theorem dX9_copied_4 : decode cX9_copied 4 = .ok (.getfield 55, 3) := by decide +kernel
theorem dX9_copied_7 : decode cX9_copied 7 = .ok (.ireturn, 1) := by decide +kernel
theorem dX9_shelve_0 : decode cX9_shelve 0 = .ok (.iload_n 1, 1) := by decide +kernel
theorem dX9_shelve_1 : decode cX9_shelve 1 = .ok (.ifCond .lt 16, 3) := by decide +kernel
theorem dX9_shelve_4 : decode cX9_shelve 4 = .ok (.iload_n 1, 1) := by decide +kernel
theorem dX9_shelve_5 : decode cX9_shelve 5 = .ok (.iconst 4, 1) := by decide +kernel
theorem dX9_shelve_6 : decode cX9_shelve 6 = .ok (.if_icmp .ge 11, 3) := by decide +kernel
theorem dX9_shelve_9 : decode cX9_shelve 9 = .ok (.aload_n 0, 1) := by decide +kernel
theorem dX9_shelve_10 : decode cX9_shelve 10 = .ok (.iload_n 3, 1) := by decide +kernel
theorem dX9_shelve_11 : decode cX9_shelve 11 = .ok (.invokevirtual 125, 3) := by decide +kernel
theorem dX9_shelve_14 : decode cX9_shelve 14 = .ok (.ifCond .eq 6, 3) := by decide +kernel
theorem dX9_shelve_17 : decode cX9_shelve 17 = .ok (.bipush (-101), 2) := by decide +kernel
theorem dX9_shelve_19 : decode cX9_shelve 19 = .ok (.ireturn, 1) := by decide +kernel
theorem dX9_shelve_20 : decode cX9_shelve 20 = .ok (.aload_n 0, 1) := by decide +kernel
theorem dX9_shelve_21 : decode cX9_shelve 21 = .ok (.aload_n 0, 1) := by decide +kernel
theorem dX9_shelve_22 : decode cX9_shelve 22 = .ok (.getfield 40, 3) := by decide +kernel
theorem dX9_shelve_25 : decode cX9_shelve 25 = .ok (.iload_n 1, 1) := by decide +kernel
theorem dX9_shelve_26 : decode cX9_shelve 26 = .ok (.iload_n 2, 1) := by decide +kernel
theorem dX9_shelve_27 : decode cX9_shelve 27 = .ok (.iload_n 3, 1) := by decide +kernel
theorem dX9_shelve_28 : decode cX9_shelve 28 = .ok (.invokevirtual 169, 3) := by decide +kernel
theorem dX9_shelve_31 : decode cX9_shelve 31 = .ok (.invokevirtual 80, 3) := by decide +kernel
theorem dX9_shelve_34 : decode cX9_shelve 34 = .ok (.ireturn, 1) := by decide +kernel
theorem dX9_shelf_0 : decode cX9_shelf 0 = .ok (.iload_n 1, 1) := by decide +kernel
theorem dX9_shelf_1 : decode cX9_shelf 1 = .ok (.ifCond .lt 8, 3) := by decide +kernel
theorem dX9_shelf_4 : decode cX9_shelf 4 = .ok (.iload_n 1, 1) := by decide +kernel
theorem dX9_shelf_5 : decode cX9_shelf 5 = .ok (.iconst 4, 1) := by decide +kernel
theorem dX9_shelf_6 : decode cX9_shelf 6 = .ok (.if_icmp .lt 6, 3) := by decide +kernel
theorem dX9_shelf_9 : decode cX9_shelf 9 = .ok (.bipush (-101), 2) := by decide +kernel
theorem dX9_shelf_11 : decode cX9_shelf 11 = .ok (.ireturn, 1) := by decide +kernel
theorem dX9_shelf_12 : decode cX9_shelf 12 = .ok (.aload_n 0, 1) := by decide +kernel
theorem dX9_shelf_13 : decode cX9_shelf 13 = .ok (.iload_n 2, 1) := by decide +kernel
theorem dX9_shelf_14 : decode cX9_shelf 14 = .ok (.ifCond .lt 9, 3) := by decide +kernel
theorem dX9_shelf_17 : decode cX9_shelf 17 = .ok (.iload_n 2, 1) := by decide +kernel
theorem dX9_shelf_18 : decode cX9_shelf 18 = .ok (.bipush 8, 2) := by decide +kernel
theorem dX9_shelf_20 : decode cX9_shelf 20 = .ok (.if_icmp .lt 8, 3) := by decide +kernel
theorem dX9_shelf_23 : decode cX9_shelf 23 = .ok (.bipush (-12), 2) := by decide +kernel
theorem dX9_shelf_25 : decode cX9_shelf 25 = .ok (.goto 17, 3) := by decide +kernel
theorem dX9_shelf_28 : decode cX9_shelf 28 = .ok (.aload_n 0, 1) := by decide +kernel
theorem dX9_shelf_29 : decode cX9_shelf 29 = .ok (.getfield 12, 3) := by decide +kernel
theorem dX9_shelf_32 : decode cX9_shelf 32 = .ok (.getfield 172, 3) := by decide +kernel
theorem dX9_shelf_35 : decode cX9_shelf 35 = .ok (.iload_n 1, 1) := by decide +kernel
theorem dX9_shelf_36 : decode cX9_shelf 36 = .ok (.bipush 8, 2) := by decide +kernel
theorem dX9_shelf_38 : decode cX9_shelf 38 = .ok (.imul, 1) := by decide +kernel
theorem dX9_shelf_39 : decode cX9_shelf 39 = .ok (.iload_n 2, 1) := by decide +kernel
theorem dX9_shelf_40 : decode cX9_shelf 40 = .ok (.iadd, 1) := by decide +kernel
theorem dX9_shelf_41 : decode cX9_shelf 41 = .ok (.iaload, 1) := by decide +kernel
theorem dX9_shelf_42 : decode cX9_shelf 42 = .ok (.invokevirtual 80, 3) := by decide +kernel
theorem dX9_shelf_45 : decode cX9_shelf 45 = .ok (.ireturn, 1) := by decide +kernel
theorem dX9_step_0 : decode cX9_step 0 = .ok (.iload_n 1, 1) := by decide +kernel
theorem dX9_step_1 : decode cX9_step 1 = .ok (.ifCond .lt 10, 3) := by decide +kernel
theorem dX9_step_4 : decode cX9_step 4 = .ok (.iload_n 1, 1) := by decide +kernel
theorem dX9_step_5 : decode cX9_step 5 = .ok (.sipush 1000, 3) := by decide +kernel
theorem dX9_step_8 : decode cX9_step 8 = .ok (.if_icmp .le 8, 3) := by decide +kernel
theorem dX9_step_11 : decode cX9_step 11 = .ok (.bipush (-102), 2) := by decide +kernel
theorem dX9_step_13 : decode cX9_step 13 = .ok (.goto 8, 3) := by decide +kernel
theorem dX9_step_16 : decode cX9_step 16 = .ok (.aload_n 0, 1) := by decide +kernel
theorem dX9_step_17 : decode cX9_step 17 = .ok (.iload_n 1, 1) := by decide +kernel
theorem dX9_step_18 : decode cX9_step 18 = .ok (.invokevirtual 175, 3) := by decide +kernel
theorem dX9_step_21 : decode cX9_step 21 = .ok (.ireturn, 1) := by decide +kernel
theorem dX9_cycle_0 : decode cX9_cycle 0 = .ok (.aload_n 0, 1) := by decide +kernel
theorem dX9_cycle_1 : decode cX9_cycle 1 = .ok (.getfield 31, 3) := by decide +kernel
theorem dX9_cycle_4 : decode cX9_cycle 4 = .ok (.invokevirtual 178, 3) := by decide +kernel
theorem dX9_cycle_7 : decode cX9_cycle 7 = .ok (.aload_n 0, 1) := by decide +kernel
theorem dX9_cycle_8 : decode cX9_cycle 8 = .ok (.getfield 12, 3) := by decide +kernel
theorem dX9_cycle_11 : decode cX9_cycle 11 = .ok (.getfield 181, 3) := by decide +kernel
theorem dX9_cycle_14 : decode cX9_cycle 14 = .ok (.getfield 185, 3) := by decide +kernel
theorem dX9_cycle_17 : decode cX9_cycle 17 = .ok (.ireturn, 1) := by decide +kernel
theorem dX9_phase_0 : decode cX9_phase 0 = .ok (.aload_n 0, 1) := by decide +kernel
theorem dX9_phase_1 : decode cX9_phase 1 = .ok (.getfield 12, 3) := by decide +kernel
theorem dX9_phase_4 : decode cX9_phase 4 = .ok (.getfield 190, 3) := by decide +kernel
theorem dX9_phase_7 : decode cX9_phase 7 = .ok (.getfield 194, 3) := by decide +kernel
theorem dX9_phase_10 : decode cX9_phase 10 = .ok (.ifCond .eq 7, 3) := by decide +kernel
theorem dX9_phase_13 : decode cX9_phase 13 = .ok (.iconst 1, 1) := by decide +kernel
theorem dX9_phase_14 : decode cX9_phase 14 = .ok (.goto 4, 3) := by decide +kernel
theorem dX9_phase_17 : decode cX9_phase 17 = .ok (.iconst 0, 1) := by decide +kernel
theorem dX9_phase_18 : decode cX9_phase 18 = .ok (.ireturn, 1) := by decide +kernel
theorem dX9_marked_0 : decode cX9_marked 0 = .ok (.aload_n 0, 1) := by decide +kernel
theorem dX9_marked_1 : decode cX9_marked 1 = .ok (.getfield 12, 3) := by decide +kernel
theorem dX9_marked_4 : decode cX9_marked 4 = .ok (.getfield 84, 3) := by decide +kernel
theorem dX9_marked_7 : decode cX9_marked 7 = .ok (.iload_n 1, 1) := by decide +kernel
theorem dX9_marked_8 : decode cX9_marked 8 = .ok (.invokevirtual 88, 3) := by decide +kernel
theorem dX9_marked_11 : decode cX9_marked 11 = .ok (.ifCond .ne 6, 3) := by decide +kernel
theorem dX9_marked_14 : decode cX9_marked 14 = .ok (.bipush (-101), 2) := by decide +kernel
theorem dX9_marked_16 : decode cX9_marked 16 = .ok (.ireturn, 1) := by decide +kernel
theorem dX9_marked_17 : decode cX9_marked 17 = .ok (.aload_n 0, 1) := by decide +kernel
theorem dX9_marked_18 : decode cX9_marked 18 = .ok (.aload_n 0, 1) := by decide +kernel
theorem dX9_marked_19 : decode cX9_marked 19 = .ok (.getfield 12, 3) := by decide +kernel
theorem dX9_marked_22 : decode cX9_marked 22 = .ok (.getfield 84, 3) := by decide +kernel
theorem dX9_marked_25 : decode cX9_marked 25 = .ok (.iload_n 1, 1) := by decide +kernel
theorem dX9_marked_26 : decode cX9_marked 26 = .ok (.invokevirtual 94, 3) := by decide +kernel
theorem dX9_marked_29 : decode cX9_marked 29 = .ok (.ifCond .eq 18, 3) := by decide +kernel
theorem dX9_marked_32 : decode cX9_marked 32 = .ok (.aload_n 0, 1) := by decide +kernel
theorem dX9_marked_33 : decode cX9_marked 33 = .ok (.getfield 12, 3) := by decide +kernel
theorem dX9_marked_36 : decode cX9_marked 36 = .ok (.getfield 190, 3) := by decide +kernel
theorem dX9_marked_39 : decode cX9_marked 39 = .ok (.getfield 199, 3) := by decide +kernel
theorem dX9_marked_42 : decode cX9_marked 42 = .ok (.iload_n 1, 1) := by decide +kernel
theorem dX9_marked_43 : decode cX9_marked 43 = .ok (.iaload, 1) := by decide +kernel
theorem dX9_marked_44 : decode cX9_marked 44 = .ok (.goto 5, 3) := by decide +kernel
theorem dX9_marked_47 : decode cX9_marked 47 = .ok (.bipush (-11), 2) := by decide +kernel
theorem dX9_marked_49 : decode cX9_marked 49 = .ok (.invokevirtual 80, 3) := by decide +kernel
theorem dX9_marked_52 : decode cX9_marked 52 = .ok (.ireturn, 1) := by decide +kernel
theorem dX9_moved_0 : decode cX9_moved 0 = .ok (.aload_n 0, 1) := by decide +kernel
theorem dX9_moved_1 : decode cX9_moved 1 = .ok (.getfield 12, 3) := by decide +kernel
theorem dX9_moved_4 : decode cX9_moved 4 = .ok (.getfield 84, 3) := by decide +kernel
theorem dX9_moved_7 : decode cX9_moved 7 = .ok (.iload_n 1, 1) := by decide +kernel
theorem dX9_moved_8 : decode cX9_moved 8 = .ok (.invokevirtual 88, 3) := by decide +kernel
theorem dX9_moved_11 : decode cX9_moved 11 = .ok (.ifCond .ne 6, 3) := by decide +kernel
theorem dX9_moved_14 : decode cX9_moved 14 = .ok (.bipush (-101), 2) := by decide +kernel
theorem dX9_moved_16 : decode cX9_moved 16 = .ok (.ireturn, 1) := by decide +kernel
theorem dX9_moved_17 : decode cX9_moved 17 = .ok (.aload_n 0, 1) := by decide +kernel
theorem dX9_moved_18 : decode cX9_moved 18 = .ok (.aload_n 0, 1) := by decide +kernel
theorem dX9_moved_19 : decode cX9_moved 19 = .ok (.getfield 12, 3) := by decide +kernel
theorem dX9_moved_22 : decode cX9_moved 22 = .ok (.getfield 84, 3) := by decide +kernel
theorem dX9_moved_25 : decode cX9_moved 25 = .ok (.iload_n 1, 1) := by decide +kernel
theorem dX9_moved_26 : decode cX9_moved 26 = .ok (.invokevirtual 94, 3) := by decide +kernel
theorem dX9_moved_29 : decode cX9_moved 29 = .ok (.ifCond .eq 18, 3) := by decide +kernel
theorem dX9_moved_32 : decode cX9_moved 32 = .ok (.aload_n 0, 1) := by decide +kernel
theorem dX9_moved_33 : decode cX9_moved 33 = .ok (.getfield 12, 3) := by decide +kernel
theorem dX9_moved_36 : decode cX9_moved 36 = .ok (.getfield 84, 3) := by decide +kernel
theorem dX9_moved_39 : decode cX9_moved 39 = .ok (.getfield 202, 3) := by decide +kernel
theorem dX9_moved_42 : decode cX9_moved 42 = .ok (.iload_n 1, 1) := by decide +kernel
theorem dX9_moved_43 : decode cX9_moved 43 = .ok (.iaload, 1) := by decide +kernel
theorem dX9_moved_44 : decode cX9_moved 44 = .ok (.goto 5, 3) := by decide +kernel
theorem dX9_moved_47 : decode cX9_moved 47 = .ok (.bipush (-11), 2) := by decide +kernel
theorem dX9_moved_49 : decode cX9_moved 49 = .ok (.invokevirtual 80, 3) := by decide +kernel
theorem dX9_moved_52 : decode cX9_moved 52 = .ok (.ireturn, 1) := by decide +kernel
theorem dX9_told_0 : decode cX9_told 0 = .ok (.iload_n 2, 1) := by decide +kernel
theorem dX9_told_1 : decode cX9_told 1 = .ok (.ifCond .lt 8, 3) := by decide +kernel
theorem dX9_told_4 : decode cX9_told 4 = .ok (.iload_n 2, 1) := by decide +kernel
theorem dX9_told_5 : decode cX9_told 5 = .ok (.iconst 3, 1) := by decide +kernel
theorem dX9_told_6 : decode cX9_told 6 = .ok (.if_icmp .lt 6, 3) := by decide +kernel
theorem dX9_told_9 : decode cX9_told 9 = .ok (.bipush (-102), 2) := by decide +kernel
theorem dX9_told_11 : decode cX9_told 11 = .ok (.ireturn, 1) := by decide +kernel
theorem dX9_told_12 : decode cX9_told 12 = .ok (.iload_n 1, 1) := by decide +kernel
theorem dX9_told_13 : decode cX9_told 13 = .ok (.ifCond .lt 23, 3) := by decide +kernel
theorem dX9_told_16 : decode cX9_told 16 = .ok (.iload_n 1, 1) := by decide +kernel
theorem dX9_told_17 : decode cX9_told 17 = .ok (.bipush 100, 2) := by decide +kernel
theorem dX9_told_19 : decode cX9_told 19 = .ok (.if_icmp .ge 17, 3) := by decide +kernel
theorem dX9_told_22 : decode cX9_told 22 = .ok (.iload_n 1, 1) := by decide +kernel
theorem dX9_told_23 : decode cX9_told 23 = .ok (.aload_n 0, 1) := by decide +kernel
theorem dX9_told_24 : decode cX9_told 24 = .ok (.getfield 12, 3) := by decide +kernel
theorem dX9_told_27 : decode cX9_told 27 = .ok (.getfield 181, 3) := by decide +kernel
theorem dX9_told_30 : decode cX9_told 30 = .ok (.getfield 205, 3) := by decide +kernel
theorem dX9_told_33 : decode cX9_told 33 = .ok (.if_icmp .lt 7, 3) := by decide +kernel
theorem dX9_told_36 : decode cX9_told 36 = .ok (.iconst (-1), 1) := by decide +kernel
theorem dX9_told_37 : decode cX9_told 37 = .ok (.goto 19, 3) := by decide +kernel
theorem dX9_told_40 : decode cX9_told 40 = .ok (.aload_n 0, 1) := by decide +kernel
theorem dX9_told_41 : decode cX9_told 41 = .ok (.getfield 12, 3) := by decide +kernel
theorem dX9_told_44 : decode cX9_told 44 = .ok (.getfield 181, 3) := by decide +kernel
theorem dX9_told_47 : decode cX9_told 47 = .ok (.getfield 208, 3) := by decide +kernel
theorem dX9_told_50 : decode cX9_told 50 = .ok (.iload_n 1, 1) := by decide +kernel
theorem dX9_told_51 : decode cX9_told 51 = .ok (.iconst 3, 1) := by decide +kernel
theorem dX9_told_52 : decode cX9_told 52 = .ok (.imul, 1) := by decide +kernel
theorem dX9_told_53 : decode cX9_told 53 = .ok (.iload_n 2, 1) := by decide +kernel
theorem dX9_told_54 : decode cX9_told 54 = .ok (.iadd, 1) := by decide +kernel
theorem dX9_told_55 : decode cX9_told 55 = .ok (.iaload, 1) := by decide +kernel
theorem dX9_told_56 : decode cX9_told 56 = .ok (.ireturn, 1) := by decide +kernel
theorem dX9_about_0 : decode cX9_about 0 = .ok (.iload_n 1, 1) := by decide +kernel
theorem dX9_about_1 : decode cX9_about 1 = .ok (.tableswitch 252 0 15 #[79, 90, 101, 112, 123, 134, 145, 156, 167, 178, 189, 200, 208, 219, 230, 241], 79) := by decide +kernel
theorem dX9_about_80 : decode cX9_about 80 = .ok (.aload_n 0, 1) := by decide +kernel
theorem dX9_about_81 : decode cX9_about 81 = .ok (.getfield 12, 3) := by decide +kernel
theorem dX9_about_84 : decode cX9_about 84 = .ok (.getfield 84, 3) := by decide +kernel
theorem dX9_about_87 : decode cX9_about 87 = .ok (.getfield 211, 3) := by decide +kernel
theorem dX9_about_90 : decode cX9_about 90 = .ok (.ireturn, 1) := by decide +kernel
theorem dX9_about_91 : decode cX9_about 91 = .ok (.aload_n 0, 1) := by decide +kernel
theorem dX9_about_92 : decode cX9_about 92 = .ok (.getfield 12, 3) := by decide +kernel
theorem dX9_about_95 : decode cX9_about 95 = .ok (.getfield 84, 3) := by decide +kernel
theorem dX9_about_98 : decode cX9_about 98 = .ok (.invokevirtual 214, 3) := by decide +kernel
theorem dX9_about_101 : decode cX9_about 101 = .ok (.ireturn, 1) := by decide +kernel
theorem dX9_about_102 : decode cX9_about 102 = .ok (.aload_n 0, 1) := by decide +kernel
theorem dX9_about_103 : decode cX9_about 103 = .ok (.getfield 12, 3) := by decide +kernel
theorem dX9_about_106 : decode cX9_about 106 = .ok (.getfield 84, 3) := by decide +kernel
theorem dX9_about_109 : decode cX9_about 109 = .ok (.getfield 218, 3) := by decide +kernel
theorem dX9_about_112 : decode cX9_about 112 = .ok (.ireturn, 1) := by decide +kernel
theorem dX9_about_113 : decode cX9_about 113 = .ok (.aload_n 0, 1) := by decide +kernel
theorem dX9_about_114 : decode cX9_about 114 = .ok (.getfield 12, 3) := by decide +kernel
theorem dX9_about_117 : decode cX9_about 117 = .ok (.getfield 84, 3) := by decide +kernel
theorem dX9_about_120 : decode cX9_about 120 = .ok (.getfield 221, 3) := by decide +kernel
theorem dX9_about_123 : decode cX9_about 123 = .ok (.ireturn, 1) := by decide +kernel
theorem dX9_about_124 : decode cX9_about 124 = .ok (.aload_n 0, 1) := by decide +kernel
theorem dX9_about_125 : decode cX9_about 125 = .ok (.getfield 12, 3) := by decide +kernel
theorem dX9_about_128 : decode cX9_about 128 = .ok (.getfield 181, 3) := by decide +kernel
theorem dX9_about_131 : decode cX9_about 131 = .ok (.getfield 224, 3) := by decide +kernel
theorem dX9_about_134 : decode cX9_about 134 = .ok (.ireturn, 1) := by decide +kernel
theorem dX9_about_135 : decode cX9_about 135 = .ok (.aload_n 0, 1) := by decide +kernel
theorem dX9_about_136 : decode cX9_about 136 = .ok (.getfield 12, 3) := by decide +kernel
theorem dX9_about_139 : decode cX9_about 139 = .ok (.getfield 181, 3) := by decide +kernel
theorem dX9_about_142 : decode cX9_about 142 = .ok (.getfield 227, 3) := by decide +kernel
theorem dX9_about_145 : decode cX9_about 145 = .ok (.ireturn, 1) := by decide +kernel
theorem dX9_about_146 : decode cX9_about 146 = .ok (.aload_n 0, 1) := by decide +kernel
theorem dX9_about_147 : decode cX9_about 147 = .ok (.getfield 12, 3) := by decide +kernel
theorem dX9_about_150 : decode cX9_about 150 = .ok (.getfield 181, 3) := by decide +kernel
theorem dX9_about_153 : decode cX9_about 153 = .ok (.getfield 185, 3) := by decide +kernel
theorem dX9_about_156 : decode cX9_about 156 = .ok (.ireturn, 1) := by decide +kernel
theorem dX9_about_157 : decode cX9_about 157 = .ok (.aload_n 0, 1) := by decide +kernel
theorem dX9_about_158 : decode cX9_about 158 = .ok (.getfield 12, 3) := by decide +kernel
theorem dX9_about_161 : decode cX9_about 161 = .ok (.getfield 181, 3) := by decide +kernel
theorem dX9_about_164 : decode cX9_about 164 = .ok (.getfield 230, 3) := by decide +kernel
theorem dX9_about_167 : decode cX9_about 167 = .ok (.ireturn, 1) := by decide +kernel
theorem dX9_about_168 : decode cX9_about 168 = .ok (.aload_n 0, 1) := by decide +kernel
theorem dX9_about_169 : decode cX9_about 169 = .ok (.getfield 12, 3) := by decide +kernel
theorem dX9_about_172 : decode cX9_about 172 = .ok (.getfield 181, 3) := by decide +kernel
theorem dX9_about_175 : decode cX9_about 175 = .ok (.getfield 233, 3) := by decide +kernel
theorem dX9_about_178 : decode cX9_about 178 = .ok (.ireturn, 1) := by decide +kernel
theorem dX9_about_179 : decode cX9_about 179 = .ok (.aload_n 0, 1) := by decide +kernel
theorem dX9_about_180 : decode cX9_about 180 = .ok (.getfield 12, 3) := by decide +kernel
theorem dX9_about_183 : decode cX9_about 183 = .ok (.getfield 181, 3) := by decide +kernel
theorem dX9_about_186 : decode cX9_about 186 = .ok (.getfield 205, 3) := by decide +kernel
theorem dX9_about_189 : decode cX9_about 189 = .ok (.ireturn, 1) := by decide +kernel
theorem dX9_about_190 : decode cX9_about 190 = .ok (.aload_n 0, 1) := by decide +kernel
theorem dX9_about_191 : decode cX9_about 191 = .ok (.getfield 12, 3) := by decide +kernel
theorem dX9_about_194 : decode cX9_about 194 = .ok (.getfield 190, 3) := by decide +kernel
theorem dX9_about_197 : decode cX9_about 197 = .ok (.getfield 236, 3) := by decide +kernel
theorem dX9_about_200 : decode cX9_about 200 = .ok (.ireturn, 1) := by decide +kernel
theorem dX9_about_201 : decode cX9_about 201 = .ok (.aload_n 0, 1) := by decide +kernel
theorem dX9_about_202 : decode cX9_about 202 = .ok (.getfield 31, 3) := by decide +kernel
theorem dX9_about_205 : decode cX9_about 205 = .ok (.invokevirtual 239, 3) := by decide +kernel
theorem dX9_about_208 : decode cX9_about 208 = .ok (.ireturn, 1) := by decide +kernel
theorem dX9_about_209 : decode cX9_about 209 = .ok (.aload_n 0, 1) := by decide +kernel
theorem dX9_about_210 : decode cX9_about 210 = .ok (.getfield 12, 3) := by decide +kernel
theorem dX9_about_213 : decode cX9_about 213 = .ok (.getfield 242, 3) := by decide +kernel
theorem dX9_about_216 : decode cX9_about 216 = .ok (.getfield 246, 3) := by decide +kernel
theorem dX9_about_219 : decode cX9_about 219 = .ok (.ireturn, 1) := by decide +kernel
theorem dX9_about_220 : decode cX9_about 220 = .ok (.aload_n 0, 1) := by decide +kernel
theorem dX9_about_221 : decode cX9_about 221 = .ok (.getfield 12, 3) := by decide +kernel
theorem dX9_about_224 : decode cX9_about 224 = .ok (.getfield 242, 3) := by decide +kernel
theorem dX9_about_227 : decode cX9_about 227 = .ok (.getfield 249, 3) := by decide +kernel
theorem dX9_about_230 : decode cX9_about 230 = .ok (.ireturn, 1) := by decide +kernel
theorem dX9_about_231 : decode cX9_about 231 = .ok (.aload_n 0, 1) := by decide +kernel
theorem dX9_about_232 : decode cX9_about 232 = .ok (.getfield 12, 3) := by decide +kernel
theorem dX9_about_235 : decode cX9_about 235 = .ok (.getfield 242, 3) := by decide +kernel
theorem dX9_about_238 : decode cX9_about 238 = .ok (.getfield 252, 3) := by decide +kernel
theorem dX9_about_241 : decode cX9_about 241 = .ok (.ireturn, 1) := by decide +kernel
theorem dX9_about_242 : decode cX9_about 242 = .ok (.aload_n 0, 1) := by decide +kernel
theorem dX9_about_243 : decode cX9_about 243 = .ok (.getfield 12, 3) := by decide +kernel
theorem dX9_about_246 : decode cX9_about 246 = .ok (.getfield 242, 3) := by decide +kernel
theorem dX9_about_249 : decode cX9_about 249 = .ok (.getfield 255, 3) := by decide +kernel
theorem dX9_about_252 : decode cX9_about 252 = .ok (.ireturn, 1) := by decide +kernel
theorem dX9_about_253 : decode cX9_about 253 = .ok (.bipush (-102), 2) := by decide +kernel
theorem dX9_about_255 : decode cX9_about 255 = .ok (.ireturn, 1) := by decide +kernel
theorem dX9_word_0 : decode cX9_word 0 = .ok (.iload_n 1, 1) := by decide +kernel
theorem dX9_word_1 : decode cX9_word 1 = .ok (.ifCond .lt 17, 3) := by decide +kernel
theorem dX9_word_4 : decode cX9_word 4 = .ok (.iload_n 1, 1) := by decide +kernel
theorem dX9_word_5 : decode cX9_word 5 = .ok (.aload_n 0, 1) := by decide +kernel
theorem dX9_word_6 : decode cX9_word 6 = .ok (.getfield 12, 3) := by decide +kernel
theorem dX9_word_9 : decode cX9_word 9 = .ok (.getfield 84, 3) := by decide +kernel
theorem dX9_word_12 : decode cX9_word 12 = .ok (.getfield 211, 3) := by decide +kernel
theorem dX9_word_15 : decode cX9_word 15 = .ok (.if_icmp .lt 8, 3) := by decide +kernel
theorem dX9_word_18 : decode cX9_word 18 = .ok (.bipush (-102), 2) := by decide +kernel
theorem dX9_word_20 : decode cX9_word 20 = .ok (.goto 15, 3) := by decide +kernel
theorem dX9_word_23 : decode cX9_word 23 = .ok (.aload_n 0, 1) := by decide +kernel
theorem dX9_word_24 : decode cX9_word 24 = .ok (.getfield 12, 3) := by decide +kernel
theorem dX9_word_27 : decode cX9_word 27 = .ok (.getfield 84, 3) := by decide +kernel
theorem dX9_word_30 : decode cX9_word 30 = .ok (.getfield 258, 3) := by decide +kernel
theorem dX9_word_33 : decode cX9_word 33 = .ok (.iload_n 1, 1) := by decide +kernel
theorem dX9_word_34 : decode cX9_word 34 = .ok (.iaload, 1) := by decide +kernel
theorem dX9_word_35 : decode cX9_word 35 = .ok (.ireturn, 1) := by decide +kernel
theorem dX9_digest_0 : decode cX9_digest 0 = .ok (.bipush 7, 2) := by decide +kernel
theorem dX9_digest_2 : decode cX9_digest 2 = .ok (.istore_n 1, 1) := by decide +kernel
theorem dX9_digest_3 : decode cX9_digest 3 = .ok (.iconst 0, 1) := by decide +kernel
theorem dX9_digest_4 : decode cX9_digest 4 = .ok (.istore_n 2, 1) := by decide +kernel
theorem dX9_digest_5 : decode cX9_digest 5 = .ok (.iload_n 2, 1) := by decide +kernel
theorem dX9_digest_6 : decode cX9_digest 6 = .ok (.aload_n 0, 1) := by decide +kernel
theorem dX9_digest_7 : decode cX9_digest 7 = .ok (.getfield 12, 3) := by decide +kernel
theorem dX9_digest_10 : decode cX9_digest 10 = .ok (.getfield 84, 3) := by decide +kernel
theorem dX9_digest_13 : decode cX9_digest 13 = .ok (.getfield 261, 3) := by decide +kernel
theorem dX9_digest_16 : decode cX9_digest 16 = .ok (.if_icmp .ge 27, 3) := by decide +kernel
theorem dX9_digest_19 : decode cX9_digest 19 = .ok (.bipush 31, 2) := by decide +kernel
theorem dX9_digest_21 : decode cX9_digest 21 = .ok (.iload_n 1, 1) := by decide +kernel
theorem dX9_digest_22 : decode cX9_digest 22 = .ok (.imul, 1) := by decide +kernel
theorem dX9_digest_23 : decode cX9_digest 23 = .ok (.aload_n 0, 1) := by decide +kernel
theorem dX9_digest_24 : decode cX9_digest 24 = .ok (.getfield 12, 3) := by decide +kernel
theorem dX9_digest_27 : decode cX9_digest 27 = .ok (.getfield 84, 3) := by decide +kernel
theorem dX9_digest_30 : decode cX9_digest 30 = .ok (.getfield 258, 3) := by decide +kernel
theorem dX9_digest_33 : decode cX9_digest 33 = .ok (.iload_n 2, 1) := by decide +kernel
theorem dX9_digest_34 : decode cX9_digest 34 = .ok (.iaload, 1) := by decide +kernel
theorem dX9_digest_35 : decode cX9_digest 35 = .ok (.iadd, 1) := by decide +kernel
theorem dX9_digest_36 : decode cX9_digest 36 = .ok (.istore_n 1, 1) := by decide +kernel
theorem dX9_digest_37 : decode cX9_digest 37 = .ok (.iinc 2 1, 3) := by decide +kernel
theorem dX9_digest_40 : decode cX9_digest 40 = .ok (.goto (-35), 3) := by decide +kernel
theorem dX9_digest_43 : decode cX9_digest 43 = .ok (.iconst 0, 1) := by decide +kernel
theorem dX9_digest_44 : decode cX9_digest 44 = .ok (.istore_n 2, 1) := by decide +kernel
theorem dX9_digest_45 : decode cX9_digest 45 = .ok (.iload_n 2, 1) := by decide +kernel
theorem dX9_digest_46 : decode cX9_digest 46 = .ok (.bipush 24, 2) := by decide +kernel
theorem dX9_digest_48 : decode cX9_digest 48 = .ok (.if_icmp .ge 24, 3) := by decide +kernel
theorem dX9_digest_51 : decode cX9_digest 51 = .ok (.bipush 31, 2) := by decide +kernel
theorem dX9_digest_53 : decode cX9_digest 53 = .ok (.iload_n 1, 1) := by decide +kernel
theorem dX9_digest_54 : decode cX9_digest 54 = .ok (.imul, 1) := by decide +kernel
theorem dX9_digest_55 : decode cX9_digest 55 = .ok (.aload_n 0, 1) := by decide +kernel
theorem dX9_digest_56 : decode cX9_digest 56 = .ok (.getfield 12, 3) := by decide +kernel
theorem dX9_digest_59 : decode cX9_digest 59 = .ok (.getfield 162, 3) := by decide +kernel
theorem dX9_digest_62 : decode cX9_digest 62 = .ok (.iload_n 2, 1) := by decide +kernel
theorem dX9_digest_63 : decode cX9_digest 63 = .ok (.iaload, 1) := by decide +kernel
theorem dX9_digest_64 : decode cX9_digest 64 = .ok (.iadd, 1) := by decide +kernel
theorem dX9_digest_65 : decode cX9_digest 65 = .ok (.istore_n 1, 1) := by decide +kernel
theorem dX9_digest_66 : decode cX9_digest 66 = .ok (.iinc 2 1, 3) := by decide +kernel
theorem dX9_digest_69 : decode cX9_digest 69 = .ok (.goto (-24), 3) := by decide +kernel
theorem dX9_digest_72 : decode cX9_digest 72 = .ok (.bipush 31, 2) := by decide +kernel
theorem dX9_digest_74 : decode cX9_digest 74 = .ok (.iload_n 1, 1) := by decide +kernel
theorem dX9_digest_75 : decode cX9_digest 75 = .ok (.imul, 1) := by decide +kernel
theorem dX9_digest_76 : decode cX9_digest 76 = .ok (.aload_n 0, 1) := by decide +kernel
theorem dX9_digest_77 : decode cX9_digest 77 = .ok (.invokevirtual 264, 3) := by decide +kernel
theorem dX9_digest_80 : decode cX9_digest 80 = .ok (.iadd, 1) := by decide +kernel
theorem dX9_digest_81 : decode cX9_digest 81 = .ok (.ireturn, 1) := by decide +kernel
theorem dX9_rows_0 : decode cX9_rows 0 = .ok (.aload_n 0, 1) := by decide +kernel
theorem dX9_rows_1 : decode cX9_rows 1 = .ok (.getfield 12, 3) := by decide +kernel
theorem dX9_rows_4 : decode cX9_rows 4 = .ok (.getfield 267, 3) := by decide +kernel
theorem dX9_rows_7 : decode cX9_rows 7 = .ok (.getfield 271, 3) := by decide +kernel
theorem dX9_rows_10 : decode cX9_rows 10 = .ok (.ireturn, 1) := by decide +kernel
theorem dX9_row_0 : decode cX9_row 0 = .ok (.iload_n 1, 1) := by decide +kernel
theorem dX9_row_1 : decode cX9_row 1 = .ok (.ifCond .lt 17, 3) := by decide +kernel
theorem dX9_row_4 : decode cX9_row 4 = .ok (.iload_n 1, 1) := by decide +kernel
theorem dX9_row_5 : decode cX9_row 5 = .ok (.aload_n 0, 1) := by decide +kernel
theorem dX9_row_6 : decode cX9_row 6 = .ok (.getfield 12, 3) := by decide +kernel
theorem dX9_row_9 : decode cX9_row 9 = .ok (.getfield 267, 3) := by decide +kernel
theorem dX9_row_12 : decode cX9_row 12 = .ok (.getfield 271, 3) := by decide +kernel
theorem dX9_row_15 : decode cX9_row 15 = .ok (.if_icmp .lt 8, 3) := by decide +kernel
theorem dX9_row_18 : decode cX9_row 18 = .ok (.bipush (-101), 2) := by decide +kernel
theorem dX9_row_20 : decode cX9_row 20 = .ok (.goto 15, 3) := by decide +kernel
theorem dX9_row_23 : decode cX9_row 23 = .ok (.aload_n 0, 1) := by decide +kernel
theorem dX9_row_24 : decode cX9_row 24 = .ok (.getfield 12, 3) := by decide +kernel
theorem dX9_row_27 : decode cX9_row 27 = .ok (.getfield 267, 3) := by decide +kernel
theorem dX9_row_30 : decode cX9_row 30 = .ok (.getfield 276, 3) := by decide +kernel
theorem dX9_row_33 : decode cX9_row 33 = .ok (.iload_n 1, 1) := by decide +kernel
theorem dX9_row_34 : decode cX9_row 34 = .ok (.iaload, 1) := by decide +kernel
theorem dX9_row_35 : decode cX9_row 35 = .ok (.ireturn, 1) := by decide +kernel
theorem dX9_forge_0 : decode cX9_forge 0 = .ok (.iload_n 1, 1) := by decide +kernel
theorem dX9_forge_1 : decode cX9_forge 1 = .ok (.ifCond .lt 17, 3) := by decide +kernel
theorem dX9_forge_4 : decode cX9_forge 4 = .ok (.iload_n 1, 1) := by decide +kernel
theorem dX9_forge_5 : decode cX9_forge 5 = .ok (.aload_n 0, 1) := by decide +kernel
theorem dX9_forge_6 : decode cX9_forge 6 = .ok (.getfield 12, 3) := by decide +kernel
theorem dX9_forge_9 : decode cX9_forge 9 = .ok (.getfield 267, 3) := by decide +kernel
theorem dX9_forge_12 : decode cX9_forge 12 = .ok (.getfield 271, 3) := by decide +kernel
theorem dX9_forge_15 : decode cX9_forge 15 = .ok (.if_icmp .lt 6, 3) := by decide +kernel
theorem dX9_forge_18 : decode cX9_forge 18 = .ok (.bipush (-101), 2) := by decide +kernel
theorem dX9_forge_20 : decode cX9_forge 20 = .ok (.ireturn, 1) := by decide +kernel
theorem dX9_forge_21 : decode cX9_forge 21 = .ok (.aload_n 0, 1) := by decide +kernel
theorem dX9_forge_22 : decode cX9_forge 22 = .ok (.getfield 12, 3) := by decide +kernel
theorem dX9_forge_25 : decode cX9_forge 25 = .ok (.getfield 267, 3) := by decide +kernel
theorem dX9_forge_28 : decode cX9_forge 28 = .ok (.getfield 276, 3) := by decide +kernel
theorem dX9_forge_31 : decode cX9_forge 31 = .ok (.iload_n 1, 1) := by decide +kernel
theorem dX9_forge_32 : decode cX9_forge 32 = .ok (.iaload, 1) := by decide +kernel
theorem dX9_forge_33 : decode cX9_forge 33 = .ok (.istore_n 3, 1) := by decide +kernel
theorem dX9_forge_34 : decode cX9_forge 34 = .ok (.aload_n 0, 1) := by decide +kernel
theorem dX9_forge_35 : decode cX9_forge 35 = .ok (.getfield 12, 3) := by decide +kernel
theorem dX9_forge_38 : decode cX9_forge 38 = .ok (.getfield 267, 3) := by decide +kernel
theorem dX9_forge_41 : decode cX9_forge 41 = .ok (.getfield 276, 3) := by decide +kernel
theorem dX9_forge_44 : decode cX9_forge 44 = .ok (.iload_n 1, 1) := by decide +kernel
theorem dX9_forge_45 : decode cX9_forge 45 = .ok (.iload_n 2, 1) := by decide +kernel
theorem dX9_forge_46 : decode cX9_forge 46 = .ok (.iastore, 1) := by decide +kernel
theorem dX9_forge_47 : decode cX9_forge 47 = .ok (.iload_n 3, 1) := by decide +kernel
theorem dX9_forge_48 : decode cX9_forge 48 = .ok (.ireturn, 1) := by decide +kernel
theorem dX9_plain_0 : decode cX9_plain 0 = .ok (.aload_n 0, 1) := by decide +kernel
theorem dX9_plain_1 : decode cX9_plain 1 = .ok (.getfield 12, 3) := by decide +kernel
theorem dX9_plain_4 : decode cX9_plain 4 = .ok (.getfield 267, 3) := by decide +kernel
theorem dX9_plain_7 : decode cX9_plain 7 = .ok (.invokevirtual 279, 3) := by decide +kernel
theorem dX9_plain_10 : decode cX9_plain 10 = .ok (.ireturn, 1) := by decide +kernel
theorem dX9_check_0 : decode cX9_check 0 = .ok (.aload_n 0, 1) := by decide +kernel
theorem dX9_check_1 : decode cX9_check 1 = .ok (.getfield 12, 3) := by decide +kernel
theorem dX9_check_4 : decode cX9_check 4 = .ok (.getfield 267, 3) := by decide +kernel
theorem dX9_check_7 : decode cX9_check 7 = .ok (.getfield 271, 3) := by decide +kernel
theorem dX9_check_10 : decode cX9_check 10 = .ok (.ifCond .ne 8, 3) := by decide +kernel
theorem dX9_check_13 : decode cX9_check 13 = .ok (.bipush (-104), 2) := by decide +kernel
theorem dX9_check_15 : decode cX9_check 15 = .ok (.goto 30, 3) := by decide +kernel
theorem dX9_check_18 : decode cX9_check 18 = .ok (.aload_n 0, 1) := by decide +kernel
theorem dX9_check_19 : decode cX9_check 19 = .ok (.getfield 47, 3) := by decide +kernel
theorem dX9_check_22 : decode cX9_check 22 = .ok (.aload_n 0, 1) := by decide +kernel
theorem dX9_check_23 : decode cX9_check 23 = .ok (.getfield 12, 3) := by decide +kernel
theorem dX9_check_26 : decode cX9_check 26 = .ok (.getfield 267, 3) := by decide +kernel
theorem dX9_check_29 : decode cX9_check 29 = .ok (.getfield 276, 3) := by decide +kernel
theorem dX9_check_32 : decode cX9_check 32 = .ok (.aload_n 0, 1) := by decide +kernel
theorem dX9_check_33 : decode cX9_check 33 = .ok (.getfield 12, 3) := by decide +kernel
theorem dX9_check_36 : decode cX9_check 36 = .ok (.getfield 267, 3) := by decide +kernel
theorem dX9_check_39 : decode cX9_check 39 = .ok (.getfield 271, 3) := by decide +kernel
theorem dX9_check_42 : decode cX9_check 42 = .ok (.invokevirtual 282, 3) := by decide +kernel
theorem dX9_check_45 : decode cX9_check 45 = .ok (.ireturn, 1) := by decide +kernel
theorem dX9_act_0 : decode cX9_act 0 = .ok (.iload_n 1, 1) := by decide +kernel
theorem dX9_act_1 : decode cX9_act 1 = .ok (.ifCond .lt 9, 3) := by decide +kernel
theorem dX9_act_4 : decode cX9_act 4 = .ok (.iload_n 1, 1) := by decide +kernel
theorem dX9_act_5 : decode cX9_act 5 = .ok (.bipush 12, 2) := by decide +kernel
theorem dX9_act_7 : decode cX9_act 7 = .ok (.if_icmp .le 6, 3) := by decide +kernel
theorem dX9_act_10 : decode cX9_act 10 = .ok (.bipush (-102), 2) := by decide +kernel
theorem dX9_act_12 : decode cX9_act 12 = .ok (.ireturn, 1) := by decide +kernel
theorem dX9_act_13 : decode cX9_act 13 = .ok (.getstatic 286, 3) := by decide +kernel
theorem dX9_act_16 : decode cX9_act 16 = .ok (.iload_n 1, 1) := by decide +kernel
theorem dX9_act_17 : decode cX9_act 17 = .ok (.iaload, 1) := by decide +kernel
theorem dX9_act_18 : decode cX9_act 18 = .ok (.iload_n 2, 1) := by decide +kernel
theorem dX9_act_19 : decode cX9_act 19 = .ok (.invokestatic 289, 3) := by decide +kernel
theorem dX9_act_22 : decode cX9_act 22 = .ok (.ifCond .ne 28, 3) := by decide +kernel
theorem dX9_act_25 : decode cX9_act 25 = .ok (.getstatic 292, 3) := by decide +kernel
theorem dX9_act_28 : decode cX9_act 28 = .ok (.iload_n 1, 1) := by decide +kernel
theorem dX9_act_29 : decode cX9_act 29 = .ok (.iaload, 1) := by decide +kernel
theorem dX9_act_30 : decode cX9_act 30 = .ok (.iload_n 3, 1) := by decide +kernel
theorem dX9_act_31 : decode cX9_act 31 = .ok (.invokestatic 289, 3) := by decide +kernel
theorem dX9_act_34 : decode cX9_act 34 = .ok (.ifCond .ne 16, 3) := by decide +kernel
theorem dX9_act_37 : decode cX9_act 37 = .ok (.getstatic 295, 3) := by decide +kernel
theorem dX9_act_40 : decode cX9_act 40 = .ok (.iload_n 1, 1) := by decide +kernel
theorem dX9_act_41 : decode cX9_act 41 = .ok (.iaload, 1) := by decide +kernel
theorem dX9_act_42 : decode cX9_act 42 = .ok (.iload 4, 2) := by decide +kernel
theorem dX9_act_44 : decode cX9_act 44 = .ok (.invokestatic 289, 3) := by decide +kernel
theorem dX9_act_47 : decode cX9_act 47 = .ok (.ifCond .eq 6, 3) := by decide +kernel
theorem dX9_act_50 : decode cX9_act 50 = .ok (.bipush (-101), 2) := by decide +kernel
theorem dX9_act_52 : decode cX9_act 52 = .ok (.ireturn, 1) := by decide +kernel
theorem dX9_act_53 : decode cX9_act 53 = .ok (.iload_n 1, 1) := by decide +kernel
theorem dX9_act_54 : decode cX9_act 54 = .ok (.ifCond .ne 12, 3) := by decide +kernel
theorem dX9_act_57 : decode cX9_act 57 = .ok (.iload_n 3, 1) := by decide +kernel
theorem dX9_act_58 : decode cX9_act 58 = .ok (.iload 4, 2) := by decide +kernel
theorem dX9_act_60 : decode cX9_act 60 = .ok (.invokestatic 72, 3) := by decide +kernel
theorem dX9_act_63 : decode cX9_act 63 = .ok (.ifCond .ne 20, 3) := by decide +kernel
theorem dX9_act_66 : decode cX9_act 66 = .ok (.iload_n 1, 1) := by decide +kernel
theorem dX9_act_67 : decode cX9_act 67 = .ok (.bipush 9, 2) := by decide +kernel
theorem dX9_act_69 : decode cX9_act 69 = .ok (.if_icmp .ne 17, 3) := by decide +kernel
theorem dX9_act_72 : decode cX9_act 72 = .ok (.iload_n 2, 1) := by decide +kernel
theorem dX9_act_73 : decode cX9_act 73 = .ok (.ifCond .lt 10, 3) := by decide +kernel
theorem dX9_act_76 : decode cX9_act 76 = .ok (.iload_n 2, 1) := by decide +kernel
theorem dX9_act_77 : decode cX9_act 77 = .ok (.sipush 1000, 3) := by decide +kernel
theorem dX9_act_80 : decode cX9_act 80 = .ok (.if_icmp .le 6, 3) := by decide +kernel
theorem dX9_act_83 : decode cX9_act 83 = .ok (.bipush (-102), 2) := by decide +kernel
theorem dX9_act_85 : decode cX9_act 85 = .ok (.ireturn, 1) := by decide +kernel
theorem dX9_act_86 : decode cX9_act 86 = .ok (.aload_n 0, 1) := by decide +kernel
theorem dX9_act_87 : decode cX9_act 87 = .ok (.getfield 12, 3) := by decide +kernel
theorem dX9_act_90 : decode cX9_act 90 = .ok (.getfield 242, 3) := by decide +kernel
theorem dX9_act_93 : decode cX9_act 93 = .ok (.getfield 246, 3) := by decide +kernel
theorem dX9_act_96 : decode cX9_act 96 = .ok (.bipush 40, 2) := by decide +kernel
theorem dX9_act_98 : decode cX9_act 98 = .ok (.if_icmp .lt 6, 3) := by decide +kernel
theorem dX9_act_101 : decode cX9_act 101 = .ok (.bipush (-104), 2) := by decide +kernel
theorem dX9_act_103 : decode cX9_act 103 = .ok (.ireturn, 1) := by decide +kernel
theorem dX9_act_104 : decode cX9_act 104 = .ok (.aload_n 0, 1) := by decide +kernel
theorem dX9_act_105 : decode cX9_act 105 = .ok (.getfield 12, 3) := by decide +kernel
theorem dX9_act_108 : decode cX9_act 108 = .ok (.getfield 242, 3) := by decide +kernel
theorem dX9_act_111 : decode cX9_act 111 = .ok (.iload_n 1, 1) := by decide +kernel
theorem dX9_act_112 : decode cX9_act 112 = .ok (.iload_n 2, 1) := by decide +kernel
theorem dX9_act_113 : decode cX9_act 113 = .ok (.iload_n 3, 1) := by decide +kernel
theorem dX9_act_114 : decode cX9_act 114 = .ok (.iload 4, 2) := by decide +kernel
theorem dX9_act_116 : decode cX9_act 116 = .ok (.iload 5, 2) := by decide +kernel
theorem dX9_act_118 : decode cX9_act 118 = .ok (.invokevirtual 298, 3) := by decide +kernel
theorem dX9_act_121 : decode cX9_act 121 = .ok (.aload_n 0, 1) := by decide +kernel
theorem dX9_act_122 : decode cX9_act 122 = .ok (.getfield 12, 3) := by decide +kernel
theorem dX9_act_125 : decode cX9_act 125 = .ok (.getfield 242, 3) := by decide +kernel
theorem dX9_act_128 : decode cX9_act 128 = .ok (.getfield 246, 3) := by decide +kernel
theorem dX9_act_131 : decode cX9_act 131 = .ok (.ireturn, 1) := by decide +kernel
theorem dX9_clear_0 : decode cX9_clear 0 = .ok (.aload_n 0, 1) := by decide +kernel
theorem dX9_clear_1 : decode cX9_clear 1 = .ok (.getfield 12, 3) := by decide +kernel
theorem dX9_clear_4 : decode cX9_clear 4 = .ok (.getfield 242, 3) := by decide +kernel
theorem dX9_clear_7 : decode cX9_clear 7 = .ok (.getfield 246, 3) := by decide +kernel
theorem dX9_clear_10 : decode cX9_clear 10 = .ok (.istore_n 1, 1) := by decide +kernel
theorem dX9_clear_11 : decode cX9_clear 11 = .ok (.aload_n 0, 1) := by decide +kernel
theorem dX9_clear_12 : decode cX9_clear 12 = .ok (.getfield 12, 3) := by decide +kernel
theorem dX9_clear_15 : decode cX9_clear 15 = .ok (.getfield 242, 3) := by decide +kernel
theorem dX9_clear_18 : decode cX9_clear 18 = .ok (.iconst 0, 1) := by decide +kernel
theorem dX9_clear_19 : decode cX9_clear 19 = .ok (.putfield 246, 3) := by decide +kernel
theorem dX9_clear_22 : decode cX9_clear 22 = .ok (.aload_n 0, 1) := by decide +kernel
theorem dX9_clear_23 : decode cX9_clear 23 = .ok (.getfield 12, 3) := by decide +kernel
theorem dX9_clear_26 : decode cX9_clear 26 = .ok (.getfield 242, 3) := by decide +kernel
theorem dX9_clear_29 : decode cX9_clear 29 = .ok (.iconst 0, 1) := by decide +kernel
theorem dX9_clear_30 : decode cX9_clear 30 = .ok (.putfield 249, 3) := by decide +kernel
theorem dX9_clear_33 : decode cX9_clear 33 = .ok (.iload_n 1, 1) := by decide +kernel
theorem dX9_clear_34 : decode cX9_clear 34 = .ok (.ireturn, 1) := by decide +kernel
theorem dX9_run_0 : decode cX9_run 0 = .ok (.iload_n 1, 1) := by decide +kernel
theorem dX9_run_1 : decode cX9_run 1 = .ok (.ifCond .lt 10, 3) := by decide +kernel
theorem dX9_run_4 : decode cX9_run 4 = .ok (.iload_n 1, 1) := by decide +kernel
theorem dX9_run_5 : decode cX9_run 5 = .ok (.sipush 200, 3) := by decide +kernel
theorem dX9_run_8 : decode cX9_run 8 = .ok (.if_icmp .le 6, 3) := by decide +kernel
theorem dX9_run_11 : decode cX9_run 11 = .ok (.bipush (-102), 2) := by decide +kernel
theorem dX9_run_13 : decode cX9_run 13 = .ok (.ireturn, 1) := by decide +kernel
theorem dX9_run_14 : decode cX9_run 14 = .ok (.aload_n 0, 1) := by decide +kernel
theorem dX9_run_15 : decode cX9_run 15 = .ok (.getfield 12, 3) := by decide +kernel
theorem dX9_run_18 : decode cX9_run 18 = .ok (.getfield 242, 3) := by decide +kernel
theorem dX9_run_21 : decode cX9_run 21 = .ok (.astore_n 2, 1) := by decide +kernel
theorem dX9_run_22 : decode cX9_run 22 = .ok (.aload_n 2, 1) := by decide +kernel
theorem dX9_run_23 : decode cX9_run 23 = .ok (.getfield 246, 3) := by decide +kernel
theorem dX9_run_26 : decode cX9_run 26 = .ok (.ifCond .ne 6, 3) := by decide +kernel
theorem dX9_run_29 : decode cX9_run 29 = .ok (.bipush (-104), 2) := by decide +kernel
theorem dX9_run_31 : decode cX9_run 31 = .ok (.ireturn, 1) := by decide +kernel
theorem dX9_run_32 : decode cX9_run 32 = .ok (.iconst 1, 1) := by decide +kernel
theorem dX9_run_33 : decode cX9_run 33 = .ok (.istore_n 3, 1) := by decide +kernel
theorem dX9_run_34 : decode cX9_run 34 = .ok (.iconst 0, 1) := by decide +kernel
theorem dX9_run_35 : decode cX9_run 35 = .ok (.istore 4, 2) := by decide +kernel
theorem dX9_run_37 : decode cX9_run 37 = .ok (.iload 4, 2) := by decide +kernel
theorem dX9_run_39 : decode cX9_run 39 = .ok (.iload_n 1, 1) := by decide +kernel
theorem dX9_run_40 : decode cX9_run 40 = .ok (.if_icmp .ge 100, 3) := by decide +kernel
theorem dX9_run_43 : decode cX9_run 43 = .ok (.iload_n 3, 1) := by decide +kernel
theorem dX9_run_44 : decode cX9_run 44 = .ok (.ifCond .eq 96, 3) := by decide +kernel
theorem dX9_run_47 : decode cX9_run 47 = .ok (.aload_n 2, 1) := by decide +kernel
theorem dX9_run_48 : decode cX9_run 48 = .ok (.getfield 249, 3) := by decide +kernel
theorem dX9_run_51 : decode cX9_run 51 = .ok (.iconst 5, 1) := by decide +kernel
theorem dX9_run_52 : decode cX9_run 52 = .ok (.imul, 1) := by decide +kernel
theorem dX9_run_53 : decode cX9_run 53 = .ok (.istore 5, 2) := by decide +kernel
theorem dX9_run_55 : decode cX9_run 55 = .ok (.aload_n 2, 1) := by decide +kernel
theorem dX9_run_56 : decode cX9_run 56 = .ok (.getfield 302, 3) := by decide +kernel
theorem dX9_run_59 : decode cX9_run 59 = .ok (.astore 6, 2) := by decide +kernel
theorem dX9_run_61 : decode cX9_run 61 = .ok (.aload_n 0, 1) := by decide +kernel
theorem dX9_run_62 : decode cX9_run 62 = .ok (.aload_n 0, 1) := by decide +kernel
theorem dX9_run_63 : decode cX9_run 63 = .ok (.aload 6, 2) := by decide +kernel
theorem dX9_run_65 : decode cX9_run 65 = .ok (.iload 5, 2) := by decide +kernel
theorem dX9_run_67 : decode cX9_run 67 = .ok (.iaload, 1) := by decide +kernel
theorem dX9_run_68 : decode cX9_run 68 = .ok (.aload 6, 2) := by decide +kernel
theorem dX9_run_70 : decode cX9_run 70 = .ok (.iload 5, 2) := by decide +kernel
theorem dX9_run_72 : decode cX9_run 72 = .ok (.iconst 1, 1) := by decide +kernel
theorem dX9_run_73 : decode cX9_run 73 = .ok (.iadd, 1) := by decide +kernel
theorem dX9_run_74 : decode cX9_run 74 = .ok (.iaload, 1) := by decide +kernel
theorem dX9_run_75 : decode cX9_run 75 = .ok (.aload 6, 2) := by decide +kernel
theorem dX9_run_77 : decode cX9_run 77 = .ok (.iload 5, 2) := by decide +kernel
theorem dX9_run_79 : decode cX9_run 79 = .ok (.iconst 2, 1) := by decide +kernel
theorem dX9_run_80 : decode cX9_run 80 = .ok (.iadd, 1) := by decide +kernel
theorem dX9_run_81 : decode cX9_run 81 = .ok (.iaload, 1) := by decide +kernel
theorem dX9_run_82 : decode cX9_run 82 = .ok (.aload 6, 2) := by decide +kernel
theorem dX9_run_84 : decode cX9_run 84 = .ok (.iload 5, 2) := by decide +kernel
theorem dX9_run_86 : decode cX9_run 86 = .ok (.iconst 3, 1) := by decide +kernel
theorem dX9_run_87 : decode cX9_run 87 = .ok (.iadd, 1) := by decide +kernel
theorem dX9_run_88 : decode cX9_run 88 = .ok (.iaload, 1) := by decide +kernel
theorem dX9_run_89 : decode cX9_run 89 = .ok (.aload 6, 2) := by decide +kernel
theorem dX9_run_91 : decode cX9_run 91 = .ok (.iload 5, 2) := by decide +kernel
theorem dX9_run_93 : decode cX9_run 93 = .ok (.iconst 4, 1) := by decide +kernel
theorem dX9_run_94 : decode cX9_run 94 = .ok (.iadd, 1) := by decide +kernel
theorem dX9_run_95 : decode cX9_run 95 = .ok (.iaload, 1) := by decide +kernel
theorem dX9_run_96 : decode cX9_run 96 = .ok (.invokevirtual 305, 3) := by decide +kernel
theorem dX9_run_99 : decode cX9_run 99 = .ok (.invokestatic 308, 3) := by decide +kernel
theorem dX9_run_102 : decode cX9_run 102 = .ok (.putfield 62, 3) := by decide +kernel
theorem dX9_run_105 : decode cX9_run 105 = .ok (.aload_n 2, 1) := by decide +kernel
theorem dX9_run_106 : decode cX9_run 106 = .ok (.aload_n 0, 1) := by decide +kernel
theorem dX9_run_107 : decode cX9_run 107 = .ok (.getfield 62, 3) := by decide +kernel
theorem dX9_run_110 : decode cX9_run 110 = .ok (.ifCond .eq 7, 3) := by decide +kernel
theorem dX9_run_113 : decode cX9_run 113 = .ok (.iconst 1, 1) := by decide +kernel
theorem dX9_run_114 : decode cX9_run 114 = .ok (.goto 4, 3) := by decide +kernel
theorem dX9_run_117 : decode cX9_run 117 = .ok (.iconst 0, 1) := by decide +kernel
theorem dX9_run_118 : decode cX9_run 118 = .ok (.invokevirtual 311, 3) := by decide +kernel
theorem dX9_run_121 : decode cX9_run 121 = .ok (.aload_n 0, 1) := by decide +kernel
theorem dX9_run_122 : decode cX9_run 122 = .ok (.getfield 62, 3) := by decide +kernel
theorem dX9_run_125 : decode cX9_run 125 = .ok (.ifCond .ne 7, 3) := by decide +kernel
theorem dX9_run_128 : decode cX9_run 128 = .ok (.iconst 1, 1) := by decide +kernel
theorem dX9_run_129 : decode cX9_run 129 = .ok (.goto 4, 3) := by decide +kernel
theorem dX9_run_132 : decode cX9_run 132 = .ok (.iconst 0, 1) := by decide +kernel
theorem dX9_run_133 : decode cX9_run 133 = .ok (.istore_n 3, 1) := by decide +kernel
theorem dX9_run_134 : decode cX9_run 134 = .ok (.iinc 4 1, 3) := by decide +kernel
theorem dX9_run_137 : decode cX9_run 137 = .ok (.goto (-100), 3) := by decide +kernel
theorem dX9_run_140 : decode cX9_run 140 = .ok (.iload 4, 2) := by decide +kernel
theorem dX9_run_142 : decode cX9_run 142 = .ok (.ireturn, 1) := by decide +kernel
theorem dX9_found_0 : decode cX9_found 0 = .ok (.aload_n 0, 1) := by decide +kernel
theorem dX9_found_1 : decode cX9_found 1 = .ok (.getfield 62, 3) := by decide +kernel
theorem dX9_found_4 : decode cX9_found 4 = .ok (.ireturn, 1) := by decide +kernel
theorem dX9_register_0 : decode cX9_register 0 = .ok (.iload_n 1, 1) := by decide +kernel
theorem dX9_register_1 : decode cX9_register 1 = .ok (.ifCond .lt 9, 3) := by decide +kernel
theorem dX9_register_4 : decode cX9_register 4 = .ok (.iload_n 1, 1) := by decide +kernel
theorem dX9_register_5 : decode cX9_register 5 = .ok (.bipush 8, 2) := by decide +kernel
theorem dX9_register_7 : decode cX9_register 7 = .ok (.if_icmp .lt 8, 3) := by decide +kernel
theorem dX9_register_10 : decode cX9_register 10 = .ok (.bipush (-101), 2) := by decide +kernel
theorem dX9_register_12 : decode cX9_register 12 = .ok (.goto 15, 3) := by decide +kernel
theorem dX9_register_15 : decode cX9_register 15 = .ok (.aload_n 0, 1) := by decide +kernel
theorem dX9_register_16 : decode cX9_register 16 = .ok (.getfield 12, 3) := by decide +kernel
theorem dX9_register_19 : decode cX9_register 19 = .ok (.getfield 242, 3) := by decide +kernel
theorem dX9_register_22 : decode cX9_register 22 = .ok (.getfield 315, 3) := by decide +kernel
theorem dX9_register_25 : decode cX9_register 25 = .ok (.iload_n 1, 1) := by decide +kernel
theorem dX9_register_26 : decode cX9_register 26 = .ok (.iaload, 1) := by decide +kernel
theorem dX9_register_27 : decode cX9_register 27 = .ok (.ireturn, 1) := by decide +kernel
theorem dX9_image_0 : decode cX9_image 0 = .ok (.aload_n 0, 1) := by decide +kernel
theorem dX9_image_1 : decode cX9_image 1 = .ok (.getfield 16, 3) := by decide +kernel
theorem dX9_image_4 : decode cX9_image 4 = .ok (.aload_n 0, 1) := by decide +kernel
theorem dX9_image_5 : decode cX9_image 5 = .ok (.getfield 12, 3) := by decide +kernel
theorem dX9_image_8 : decode cX9_image 8 = .ok (.invokevirtual 318, 3) := by decide +kernel
theorem dX9_image_11 : decode cX9_image 11 = .ok (.aload_n 0, 1) := by decide +kernel
theorem dX9_image_12 : decode cX9_image 12 = .ok (.iconst 1, 1) := by decide +kernel
theorem dX9_image_13 : decode cX9_image 13 = .ok (.putfield 65, 3) := by decide +kernel
theorem dX9_image_16 : decode cX9_image 16 = .ok (.aload_n 0, 1) := by decide +kernel
theorem dX9_image_17 : decode cX9_image 17 = .ok (.getfield 12, 3) := by decide +kernel
theorem dX9_image_20 : decode cX9_image 20 = .ok (.getfield 84, 3) := by decide +kernel
theorem dX9_image_23 : decode cX9_image 23 = .ok (.getfield 221, 3) := by decide +kernel
theorem dX9_image_26 : decode cX9_image 26 = .ok (.ireturn, 1) := by decide +kernel
theorem dX9_load_0 : decode cX9_load 0 = .ok (.aload_n 0, 1) := by decide +kernel
theorem dX9_load_1 : decode cX9_load 1 = .ok (.getfield 65, 3) := by decide +kernel
theorem dX9_load_4 : decode cX9_load 4 = .ok (.ifCond .ne 6, 3) := by decide +kernel
theorem dX9_load_7 : decode cX9_load 7 = .ok (.bipush (-104), 2) := by decide +kernel
theorem dX9_load_9 : decode cX9_load 9 = .ok (.ireturn, 1) := by decide +kernel
theorem dX9_load_10 : decode cX9_load 10 = .ok (.aload_n 0, 1) := by decide +kernel
theorem dX9_load_11 : decode cX9_load 11 = .ok (.getfield 12, 3) := by decide +kernel
theorem dX9_load_14 : decode cX9_load 14 = .ok (.aload_n 0, 1) := by decide +kernel
theorem dX9_load_15 : decode cX9_load 15 = .ok (.getfield 16, 3) := by decide +kernel
theorem dX9_load_18 : decode cX9_load 18 = .ok (.invokevirtual 318, 3) := by decide +kernel
theorem dX9_load_21 : decode cX9_load 21 = .ok (.aload_n 0, 1) := by decide +kernel
theorem dX9_load_22 : decode cX9_load 22 = .ok (.iconst 0, 1) := by decide +kernel
theorem dX9_load_23 : decode cX9_load 23 = .ok (.putfield 69, 3) := by decide +kernel
theorem dX9_load_26 : decode cX9_load 26 = .ok (.iconst 1, 1) := by decide +kernel
theorem dX9_load_27 : decode cX9_load 27 = .ok (.ireturn, 1) := by decide +kernel
theorem dX9_undoStep_0 : decode cX9_undoStep 0 = .ok (.aload_n 0, 1) := by decide +kernel
theorem dX9_undoStep_1 : decode cX9_undoStep 1 = .ok (.getfield 69, 3) := by decide +kernel
theorem dX9_undoStep_4 : decode cX9_undoStep 4 = .ok (.ifCond .ne 6, 3) := by decide +kernel
theorem dX9_undoStep_7 : decode cX9_undoStep 7 = .ok (.bipush (-104), 2) := by decide +kernel
theorem dX9_undoStep_9 : decode cX9_undoStep 9 = .ok (.ireturn, 1) := by decide +kernel
theorem dX9_undoStep_10 : decode cX9_undoStep 10 = .ok (.aload_n 0, 1) := by decide +kernel
theorem dX9_undoStep_11 : decode cX9_undoStep 11 = .ok (.getfield 12, 3) := by decide +kernel
theorem dX9_undoStep_14 : decode cX9_undoStep 14 = .ok (.aload_n 0, 1) := by decide +kernel
theorem dX9_undoStep_15 : decode cX9_undoStep 15 = .ok (.getfield 19, 3) := by decide +kernel
theorem dX9_undoStep_18 : decode cX9_undoStep 18 = .ok (.invokevirtual 318, 3) := by decide +kernel
theorem dX9_undoStep_21 : decode cX9_undoStep 21 = .ok (.aload_n 0, 1) := by decide +kernel
theorem dX9_undoStep_22 : decode cX9_undoStep 22 = .ok (.iconst 0, 1) := by decide +kernel
theorem dX9_undoStep_23 : decode cX9_undoStep 23 = .ok (.putfield 69, 3) := by decide +kernel
theorem dX9_undoStep_26 : decode cX9_undoStep 26 = .ok (.iconst 1, 1) := by decide +kernel
theorem dX9_undoStep_27 : decode cX9_undoStep 27 = .ok (.ireturn, 1) := by decide +kernel
theorem dX9_finding_0 : decode cX9_finding 0 = .ok (.aload_n 0, 1) := by decide +kernel
theorem dX9_finding_1 : decode cX9_finding 1 = .ok (.getfield 59, 3) := by decide +kernel
theorem dX9_finding_4 : decode cX9_finding 4 = .ok (.ireturn, 1) := by decide +kernel
theorem dX9_trace_0 : decode cX9_trace 0 = .ok (.iload_n 1, 1) := by decide +kernel
theorem dX9_trace_1 : decode cX9_trace 1 = .ok (.ifCond .lt 9, 3) := by decide +kernel
theorem dX9_trace_4 : decode cX9_trace 4 = .ok (.iload_n 1, 1) := by decide +kernel
theorem dX9_trace_5 : decode cX9_trace 5 = .ok (.bipush 14, 2) := by decide +kernel
theorem dX9_trace_7 : decode cX9_trace 7 = .ok (.if_icmp .lt 8, 3) := by decide +kernel
theorem dX9_trace_10 : decode cX9_trace 10 = .ok (.bipush (-101), 2) := by decide +kernel
theorem dX9_trace_12 : decode cX9_trace 12 = .ok (.goto 9, 3) := by decide +kernel
theorem dX9_trace_15 : decode cX9_trace 15 = .ok (.aload_n 0, 1) := by decide +kernel
theorem dX9_trace_16 : decode cX9_trace 16 = .ok (.getfield 22, 3) := by decide +kernel
theorem dX9_trace_19 : decode cX9_trace 19 = .ok (.iload_n 1, 1) := by decide +kernel
theorem dX9_trace_20 : decode cX9_trace 20 = .ok (.iaload, 1) := by decide +kernel
theorem dX9_trace_21 : decode cX9_trace 21 = .ok (.ireturn, 1) := by decide +kernel
theorem dX9_findingIn_0 : decode cX9_findingIn 0 = .ok (.iload_n 0, 1) := by decide +kernel
theorem dX9_findingIn_1 : decode cX9_findingIn 1 = .ok (.bipush (-11), 2) := by decide +kernel
theorem dX9_findingIn_3 : decode cX9_findingIn 3 = .ok (.if_icmp .gt 16, 3) := by decide +kernel
theorem dX9_findingIn_6 : decode cX9_findingIn 6 = .ok (.iload_n 0, 1) := by decide +kernel
theorem dX9_findingIn_7 : decode cX9_findingIn 7 = .ok (.bipush (-18), 2) := by decide +kernel
theorem dX9_findingIn_9 : decode cX9_findingIn 9 = .ok (.if_icmp .lt 10, 3) := by decide +kernel
theorem dX9_findingIn_12 : decode cX9_findingIn 12 = .ok (.bipush (-10), 2) := by decide +kernel
theorem dX9_findingIn_14 : decode cX9_findingIn 14 = .ok (.iload_n 0, 1) := by decide +kernel
theorem dX9_findingIn_15 : decode cX9_findingIn 15 = .ok (.isub, 1) := by decide +kernel
theorem dX9_findingIn_16 : decode cX9_findingIn 16 = .ok (.goto 4, 3) := by decide +kernel
theorem dX9_findingIn_19 : decode cX9_findingIn 19 = .ok (.iconst 0, 1) := by decide +kernel
theorem dX9_findingIn_20 : decode cX9_findingIn 20 = .ok (.ireturn, 1) := by decide +kernel
theorem dX9_answer_0 : decode cX9_answer 0 = .ok (.aload_n 0, 1) := by decide +kernel
theorem dX9_answer_1 : decode cX9_answer 1 = .ok (.iload_n 1, 1) := by decide +kernel
theorem dX9_answer_2 : decode cX9_answer 2 = .ok (.invokestatic 308, 3) := by decide +kernel
theorem dX9_answer_5 : decode cX9_answer 5 = .ok (.putfield 59, 3) := by decide +kernel
theorem dX9_answer_8 : decode cX9_answer 8 = .ok (.iload_n 1, 1) := by decide +kernel
theorem dX9_answer_9 : decode cX9_answer 9 = .ok (.ireturn, 1) := by decide +kernel
theorem dX9_isUnknownTarget_0 : decode cX9_isUnknownTarget 0 = .ok (.iload_n 1, 1) := by decide +kernel
theorem dX9_isUnknownTarget_1 : decode cX9_isUnknownTarget 1 = .ok (.iconst (-1), 1) := by decide +kernel
theorem dX9_isUnknownTarget_2 : decode cX9_isUnknownTarget 2 = .ok (.if_icmp .eq 21, 3) := by decide +kernel
theorem dX9_isUnknownTarget_5 : decode cX9_isUnknownTarget 5 = .ok (.aload_n 0, 1) := by decide +kernel
theorem dX9_isUnknownTarget_6 : decode cX9_isUnknownTarget 6 = .ok (.getfield 12, 3) := by decide +kernel
theorem dX9_isUnknownTarget_9 : decode cX9_isUnknownTarget 9 = .ok (.getfield 84, 3) := by decide +kernel
theorem dX9_isUnknownTarget_12 : decode cX9_isUnknownTarget 12 = .ok (.iload_n 1, 1) := by decide +kernel
theorem dX9_isUnknownTarget_13 : decode cX9_isUnknownTarget 13 = .ok (.invokevirtual 88, 3) := by decide +kernel
theorem dX9_isUnknownTarget_16 : decode cX9_isUnknownTarget 16 = .ok (.ifCond .ne 7, 3) := by decide +kernel
theorem dX9_isUnknownTarget_19 : decode cX9_isUnknownTarget 19 = .ok (.iconst 1, 1) := by decide +kernel
theorem dX9_isUnknownTarget_20 : decode cX9_isUnknownTarget 20 = .ok (.goto 4, 3) := by decide +kernel
theorem dX9_isUnknownTarget_23 : decode cX9_isUnknownTarget 23 = .ok (.iconst 0, 1) := by decide +kernel
theorem dX9_isUnknownTarget_24 : decode cX9_isUnknownTarget 24 = .ok (.ireturn, 1) := by decide +kernel
theorem dX9_isOutsideOfMaking_0 : decode cX9_isOutsideOfMaking 0 = .ok (.iload_n 0, 1) := by decide +kernel
theorem dX9_isOutsideOfMaking_1 : decode cX9_isOutsideOfMaking 1 = .ok (.ifCond .lt 23, 3) := by decide +kernel
theorem dX9_isOutsideOfMaking_4 : decode cX9_isOutsideOfMaking 4 = .ok (.iload_n 0, 1) := by decide +kernel
theorem dX9_isOutsideOfMaking_5 : decode cX9_isOutsideOfMaking 5 = .ok (.bipush 6, 2) := by decide +kernel
theorem dX9_isOutsideOfMaking_7 : decode cX9_isOutsideOfMaking 7 = .ok (.if_icmp .ge 17, 3) := by decide +kernel
theorem dX9_isOutsideOfMaking_10 : decode cX9_isOutsideOfMaking 10 = .ok (.iload_n 0, 1) := by decide +kernel
theorem dX9_isOutsideOfMaking_11 : decode cX9_isOutsideOfMaking 11 = .ok (.invokestatic 322, 3) := by decide +kernel
theorem dX9_isOutsideOfMaking_14 : decode cX9_isOutsideOfMaking 14 = .ok (.ifCond .eq 14, 3) := by decide +kernel
theorem dX9_isOutsideOfMaking_17 : decode cX9_isOutsideOfMaking 17 = .ok (.iload_n 1, 1) := by decide +kernel
theorem dX9_isOutsideOfMaking_18 : decode cX9_isOutsideOfMaking 18 = .ok (.sipush 300, 3) := by decide +kernel
theorem dX9_isOutsideOfMaking_21 : decode cX9_isOutsideOfMaking 21 = .ok (.if_icmp .le 7, 3) := by decide +kernel
theorem dX9_isOutsideOfMaking_24 : decode cX9_isOutsideOfMaking 24 = .ok (.iconst 1, 1) := by decide +kernel
theorem dX9_isOutsideOfMaking_25 : decode cX9_isOutsideOfMaking 25 = .ok (.goto 4, 3) := by decide +kernel
theorem dX9_isOutsideOfMaking_28 : decode cX9_isOutsideOfMaking 28 = .ok (.iconst 0, 1) := by decide +kernel
theorem dX9_isOutsideOfMaking_29 : decode cX9_isOutsideOfMaking 29 = .ok (.ireturn, 1) := by decide +kernel
theorem dX9_isNoName_0 : decode cX9_isNoName 0 = .ok (.iload_n 0, 1) := by decide +kernel
theorem dX9_isNoName_1 : decode cX9_isNoName 1 = .ok (.ifCond .le 16, 3) := by decide +kernel
theorem dX9_isNoName_4 : decode cX9_isNoName 4 = .ok (.iload_n 1, 1) := by decide +kernel
theorem dX9_isNoName_5 : decode cX9_isNoName 5 = .ok (.ifCond .lt 8, 3) := by decide +kernel
theorem dX9_isNoName_8 : decode cX9_isNoName 8 = .ok (.iload_n 1, 1) := by decide +kernel
theorem dX9_isNoName_9 : decode cX9_isNoName 9 = .ok (.iload_n 0, 1) := by decide +kernel
theorem dX9_isNoName_10 : decode cX9_isNoName 10 = .ok (.if_icmp .lt 7, 3) := by decide +kernel
theorem dX9_isNoName_13 : decode cX9_isNoName 13 = .ok (.iconst 1, 1) := by decide +kernel
theorem dX9_isNoName_14 : decode cX9_isNoName 14 = .ok (.goto 4, 3) := by decide +kernel
theorem dX9_isNoName_17 : decode cX9_isNoName 17 = .ok (.iconst 0, 1) := by decide +kernel
theorem dX9_isNoName_18 : decode cX9_isNoName 18 = .ok (.ireturn, 1) := by decide +kernel
theorem dX9_countBodies_0 : decode cX9_countBodies 0 = .ok (.aload_n 0, 1) := by decide +kernel
theorem dX9_countBodies_1 : decode cX9_countBodies 1 = .ok (.getfield 22, 3) := by decide +kernel
theorem dX9_countBodies_4 : decode cX9_countBodies 4 = .ok (.iload_n 1, 1) := by decide +kernel
theorem dX9_countBodies_5 : decode cX9_countBodies 5 = .ok (.dup2, 1) := by decide +kernel
theorem dX9_countBodies_6 : decode cX9_countBodies 6 = .ok (.iaload, 1) := by decide +kernel
theorem dX9_countBodies_7 : decode cX9_countBodies 7 = .ok (.iconst 1, 1) := by decide +kernel
theorem dX9_countBodies_8 : decode cX9_countBodies 8 = .ok (.iadd, 1) := by decide +kernel
theorem dX9_countBodies_9 : decode cX9_countBodies 9 = .ok (.iastore, 1) := by decide +kernel
theorem dX9_countBodies_10 : decode cX9_countBodies 10 = .ok (.iload_n 2, 1) := by decide +kernel
theorem dX9_countBodies_11 : decode cX9_countBodies 11 = .ok (.iconst (-1), 1) := by decide +kernel
theorem dX9_countBodies_12 : decode cX9_countBodies 12 = .ok (.if_icmp .eq 13, 3) := by decide +kernel
theorem dX9_countBodies_15 : decode cX9_countBodies 15 = .ok (.aload_n 0, 1) := by decide +kernel
theorem dX9_countBodies_16 : decode cX9_countBodies 16 = .ok (.getfield 22, 3) := by decide +kernel
theorem dX9_countBodies_19 : decode cX9_countBodies 19 = .ok (.iload_n 2, 1) := by decide +kernel
theorem dX9_countBodies_20 : decode cX9_countBodies 20 = .ok (.dup2, 1) := by decide +kernel
theorem dX9_countBodies_21 : decode cX9_countBodies 21 = .ok (.iaload, 1) := by decide +kernel
theorem dX9_countBodies_22 : decode cX9_countBodies 22 = .ok (.iconst 1, 1) := by decide +kernel
theorem dX9_countBodies_23 : decode cX9_countBodies 23 = .ok (.iadd, 1) := by decide +kernel
theorem dX9_countBodies_24 : decode cX9_countBodies 24 = .ok (.iastore, 1) := by decide +kernel
theorem dX9_countBodies_25 : decode cX9_countBodies 25 = .ok (.return_, 1) := by decide +kernel
theorem dX9_stepKeepingBefore_0 : decode cX9_stepKeepingBefore 0 = .ok (.aload_n 0, 1) := by decide +kernel
theorem dX9_stepKeepingBefore_1 : decode cX9_stepKeepingBefore 1 = .ok (.getfield 19, 3) := by decide +kernel
theorem dX9_stepKeepingBefore_4 : decode cX9_stepKeepingBefore 4 = .ok (.aload_n 0, 1) := by decide +kernel
theorem dX9_stepKeepingBefore_5 : decode cX9_stepKeepingBefore 5 = .ok (.getfield 12, 3) := by decide +kernel
theorem dX9_stepKeepingBefore_8 : decode cX9_stepKeepingBefore 8 = .ok (.invokevirtual 318, 3) := by decide +kernel
theorem dX9_stepKeepingBefore_11 : decode cX9_stepKeepingBefore 11 = .ok (.aload_n 0, 1) := by decide +kernel
theorem dX9_stepKeepingBefore_12 : decode cX9_stepKeepingBefore 12 = .ok (.iconst 1, 1) := by decide +kernel
theorem dX9_stepKeepingBefore_13 : decode cX9_stepKeepingBefore 13 = .ok (.putfield 69, 3) := by decide +kernel
theorem dX9_stepKeepingBefore_16 : decode cX9_stepKeepingBefore 16 = .ok (.aload_n 0, 1) := by decide +kernel
theorem dX9_stepKeepingBefore_17 : decode cX9_stepKeepingBefore 17 = .ok (.getfield 31, 3) := by decide +kernel
theorem dX9_stepKeepingBefore_20 : decode cX9_stepKeepingBefore 20 = .ok (.iload_n 1, 1) := by decide +kernel
theorem dX9_stepKeepingBefore_21 : decode cX9_stepKeepingBefore 21 = .ok (.invokevirtual 325, 3) := by decide +kernel
theorem dX9_stepKeepingBefore_24 : decode cX9_stepKeepingBefore 24 = .ok (.ireturn, 1) := by decide +kernel
theorem dX9_perform_0 : decode cX9_perform 0 = .ok (.aload_n 0, 1) := by decide +kernel
theorem dX9_perform_1 : decode cX9_perform 1 = .ok (.getfield 12, 3) := by decide +kernel
theorem dX9_perform_4 : decode cX9_perform 4 = .ok (.getfield 242, 3) := by decide +kernel
theorem dX9_perform_7 : decode cX9_perform 7 = .ok (.getfield 315, 3) := by decide +kernel
theorem dX9_perform_10 : decode cX9_perform 10 = .ok (.astore 6, 2) := by decide +kernel
theorem dX9_perform_12 : decode cX9_perform 12 = .ok (.iload_n 1, 1) := by decide +kernel
theorem dX9_perform_13 : decode cX9_perform 13 = .ok (.tableswitch 257 0 12 #[67, 83, 101, 120, 133, 148, 165, 181, 202, 209, 215, 227, 242], 67) := by decide +kernel
theorem dX9_perform_80 : decode cX9_perform 80 = .ok (.aload_n 0, 1) := by decide +kernel
theorem dX9_perform_81 : decode cX9_perform 81 = .ok (.iload_n 2, 1) := by decide +kernel
theorem dX9_perform_82 : decode cX9_perform 82 = .ok (.aload_n 0, 1) := by decide +kernel
theorem dX9_perform_83 : decode cX9_perform 83 = .ok (.getfield 40, 3) := by decide +kernel
theorem dX9_perform_86 : decode cX9_perform 86 = .ok (.iload_n 3, 1) := by decide +kernel
theorem dX9_perform_87 : decode cX9_perform 87 = .ok (.iload 4, 2) := by decide +kernel
theorem dX9_perform_89 : decode cX9_perform 89 = .ok (.invokevirtual 76, 3) := by decide +kernel
theorem dX9_perform_92 : decode cX9_perform 92 = .ok (.invokevirtual 328, 3) := by decide +kernel
theorem dX9_perform_95 : decode cX9_perform 95 = .ok (.ireturn, 1) := by decide +kernel
theorem dX9_perform_96 : decode cX9_perform 96 = .ok (.aload_n 0, 1) := by decide +kernel
theorem dX9_perform_97 : decode cX9_perform 97 = .ok (.getfield 40, 3) := by decide +kernel
theorem dX9_perform_100 : decode cX9_perform 100 = .ok (.aload 6, 2) := by decide +kernel
theorem dX9_perform_102 : decode cX9_perform 102 = .ok (.iload_n 2, 1) := by decide +kernel
theorem dX9_perform_103 : decode cX9_perform 103 = .ok (.iaload, 1) := by decide +kernel
theorem dX9_perform_104 : decode cX9_perform 104 = .ok (.iload_n 3, 1) := by decide +kernel
theorem dX9_perform_105 : decode cX9_perform 105 = .ok (.aload 6, 2) := by decide +kernel
theorem dX9_perform_107 : decode cX9_perform 107 = .ok (.iload 4, 2) := by decide +kernel
theorem dX9_perform_109 : decode cX9_perform 109 = .ok (.iaload, 1) := by decide +kernel
theorem dX9_perform_110 : decode cX9_perform 110 = .ok (.invokevirtual 128, 3) := by decide +kernel
theorem dX9_perform_113 : decode cX9_perform 113 = .ok (.ireturn, 1) := by decide +kernel
theorem dX9_perform_114 : decode cX9_perform 114 = .ok (.aload_n 0, 1) := by decide +kernel
theorem dX9_perform_115 : decode cX9_perform 115 = .ok (.iload 4, 2) := by decide +kernel
theorem dX9_perform_117 : decode cX9_perform 117 = .ok (.aload_n 0, 1) := by decide +kernel
theorem dX9_perform_118 : decode cX9_perform 118 = .ok (.getfield 40, 3) := by decide +kernel
theorem dX9_perform_121 : decode cX9_perform 121 = .ok (.aload 6, 2) := by decide +kernel
theorem dX9_perform_123 : decode cX9_perform 123 = .ok (.iload_n 2, 1) := by decide +kernel
theorem dX9_perform_124 : decode cX9_perform 124 = .ok (.iaload, 1) := by decide +kernel
theorem dX9_perform_125 : decode cX9_perform 125 = .ok (.iload_n 3, 1) := by decide +kernel
theorem dX9_perform_126 : decode cX9_perform 126 = .ok (.invokevirtual 132, 3) := by decide +kernel
theorem dX9_perform_129 : decode cX9_perform 129 = .ok (.invokevirtual 328, 3) := by decide +kernel
theorem dX9_perform_132 : decode cX9_perform 132 = .ok (.ireturn, 1) := by decide +kernel
theorem dX9_perform_133 : decode cX9_perform 133 = .ok (.aload_n 0, 1) := by decide +kernel
theorem dX9_perform_134 : decode cX9_perform 134 = .ok (.getfield 40, 3) := by decide +kernel
theorem dX9_perform_137 : decode cX9_perform 137 = .ok (.iload_n 2, 1) := by decide +kernel
theorem dX9_perform_138 : decode cX9_perform 138 = .ok (.aload 6, 2) := by decide +kernel
theorem dX9_perform_140 : decode cX9_perform 140 = .ok (.iload_n 3, 1) := by decide +kernel
theorem dX9_perform_141 : decode cX9_perform 141 = .ok (.iaload, 1) := by decide +kernel
theorem dX9_perform_142 : decode cX9_perform 142 = .ok (.invokevirtual 159, 3) := by decide +kernel
theorem dX9_perform_145 : decode cX9_perform 145 = .ok (.ireturn, 1) := by decide +kernel
theorem dX9_perform_146 : decode cX9_perform 146 = .ok (.aload_n 0, 1) := by decide +kernel
theorem dX9_perform_147 : decode cX9_perform 147 = .ok (.iload_n 3, 1) := by decide +kernel
theorem dX9_perform_148 : decode cX9_perform 148 = .ok (.aload_n 0, 1) := by decide +kernel
theorem dX9_perform_149 : decode cX9_perform 149 = .ok (.getfield 12, 3) := by decide +kernel
theorem dX9_perform_152 : decode cX9_perform 152 = .ok (.getfield 162, 3) := by decide +kernel
theorem dX9_perform_155 : decode cX9_perform 155 = .ok (.iload_n 2, 1) := by decide +kernel
theorem dX9_perform_156 : decode cX9_perform 156 = .ok (.iaload, 1) := by decide +kernel
theorem dX9_perform_157 : decode cX9_perform 157 = .ok (.invokevirtual 328, 3) := by decide +kernel
theorem dX9_perform_160 : decode cX9_perform 160 = .ok (.ireturn, 1) := by decide +kernel
theorem dX9_perform_161 : decode cX9_perform 161 = .ok (.aload_n 0, 1) := by decide +kernel
theorem dX9_perform_162 : decode cX9_perform 162 = .ok (.iload_n 3, 1) := by decide +kernel
theorem dX9_perform_163 : decode cX9_perform 163 = .ok (.aload_n 0, 1) := by decide +kernel
theorem dX9_perform_164 : decode cX9_perform 164 = .ok (.getfield 40, 3) := by decide +kernel
theorem dX9_perform_167 : decode cX9_perform 167 = .ok (.aload 6, 2) := by decide +kernel
theorem dX9_perform_169 : decode cX9_perform 169 = .ok (.iload_n 2, 1) := by decide +kernel
theorem dX9_perform_170 : decode cX9_perform 170 = .ok (.iaload, 1) := by decide +kernel
theorem dX9_perform_171 : decode cX9_perform 171 = .ok (.invokevirtual 138, 3) := by decide +kernel
theorem dX9_perform_174 : decode cX9_perform 174 = .ok (.invokevirtual 328, 3) := by decide +kernel
theorem dX9_perform_177 : decode cX9_perform 177 = .ok (.ireturn, 1) := by decide +kernel
theorem dX9_perform_178 : decode cX9_perform 178 = .ok (.aload_n 0, 1) := by decide +kernel
theorem dX9_perform_179 : decode cX9_perform 179 = .ok (.getfield 40, 3) := by decide +kernel
theorem dX9_perform_182 : decode cX9_perform 182 = .ok (.aload 6, 2) := by decide +kernel
theorem dX9_perform_184 : decode cX9_perform 184 = .ok (.iload_n 2, 1) := by decide +kernel
theorem dX9_perform_185 : decode cX9_perform 185 = .ok (.iaload, 1) := by decide +kernel
theorem dX9_perform_186 : decode cX9_perform 186 = .ok (.aload 6, 2) := by decide +kernel
theorem dX9_perform_188 : decode cX9_perform 188 = .ok (.iload_n 3, 1) := by decide +kernel
theorem dX9_perform_189 : decode cX9_perform 189 = .ok (.iaload, 1) := by decide +kernel
theorem dX9_perform_190 : decode cX9_perform 190 = .ok (.invokevirtual 135, 3) := by decide +kernel
theorem dX9_perform_193 : decode cX9_perform 193 = .ok (.ireturn, 1) := by decide +kernel
theorem dX9_perform_194 : decode cX9_perform 194 = .ok (.aload_n 0, 1) := by decide +kernel
theorem dX9_perform_195 : decode cX9_perform 195 = .ok (.getfield 40, 3) := by decide +kernel
theorem dX9_perform_198 : decode cX9_perform 198 = .ok (.aload 6, 2) := by decide +kernel
theorem dX9_perform_200 : decode cX9_perform 200 = .ok (.iload_n 2, 1) := by decide +kernel
theorem dX9_perform_201 : decode cX9_perform 201 = .ok (.iaload, 1) := by decide +kernel
theorem dX9_perform_202 : decode cX9_perform 202 = .ok (.iload_n 3, 1) := by decide +kernel
theorem dX9_perform_203 : decode cX9_perform 203 = .ok (.aload 6, 2) := by decide +kernel
theorem dX9_perform_205 : decode cX9_perform 205 = .ok (.iload 4, 2) := by decide +kernel
theorem dX9_perform_207 : decode cX9_perform 207 = .ok (.iaload, 1) := by decide +kernel
theorem dX9_perform_208 : decode cX9_perform 208 = .ok (.iconst 0, 1) := by decide +kernel
theorem dX9_perform_209 : decode cX9_perform 209 = .ok (.iload 5, 2) := by decide +kernel
theorem dX9_perform_211 : decode cX9_perform 211 = .ok (.invokevirtual 165, 3) := by decide +kernel
theorem dX9_perform_214 : decode cX9_perform 214 = .ok (.ireturn, 1) := by decide +kernel
theorem dX9_perform_215 : decode cX9_perform 215 = .ok (.aload_n 0, 1) := by decide +kernel
theorem dX9_perform_216 : decode cX9_perform 216 = .ok (.iload_n 2, 1) := by decide +kernel
theorem dX9_perform_217 : decode cX9_perform 217 = .ok (.iconst (-1), 1) := by decide +kernel
theorem dX9_perform_218 : decode cX9_perform 218 = .ok (.invokevirtual 328, 3) := by decide +kernel
theorem dX9_perform_221 : decode cX9_perform 221 = .ok (.ireturn, 1) := by decide +kernel
theorem dX9_perform_222 : decode cX9_perform 222 = .ok (.aload_n 0, 1) := by decide +kernel
theorem dX9_perform_223 : decode cX9_perform 223 = .ok (.iload_n 2, 1) := by decide +kernel
theorem dX9_perform_224 : decode cX9_perform 224 = .ok (.invokevirtual 175, 3) := by decide +kernel
theorem dX9_perform_227 : decode cX9_perform 227 = .ok (.ireturn, 1) := by decide +kernel
theorem dX9_perform_228 : decode cX9_perform 228 = .ok (.iload_n 2, 1) := by decide +kernel
theorem dX9_perform_229 : decode cX9_perform 229 = .ok (.ifCond .ne 8, 3) := by decide +kernel
theorem dX9_perform_232 : decode cX9_perform 232 = .ok (.bipush (-18), 2) := by decide +kernel
theorem dX9_perform_234 : decode cX9_perform 234 = .ok (.goto 5, 3) := by decide +kernel
theorem dX9_perform_237 : decode cX9_perform 237 = .ok (.bipush (-17), 2) := by decide +kernel
theorem dX9_perform_239 : decode cX9_perform 239 = .ok (.ireturn, 1) := by decide +kernel
theorem dX9_perform_240 : decode cX9_perform 240 = .ok (.aload_n 0, 1) := by decide +kernel
theorem dX9_perform_241 : decode cX9_perform 241 = .ok (.getfield 40, 3) := by decide +kernel
theorem dX9_perform_244 : decode cX9_perform 244 = .ok (.aload 6, 2) := by decide +kernel
theorem dX9_perform_246 : decode cX9_perform 246 = .ok (.iload_n 2, 1) := by decide +kernel
theorem dX9_perform_247 : decode cX9_perform 247 = .ok (.iaload, 1) := by decide +kernel
theorem dX9_perform_248 : decode cX9_perform 248 = .ok (.iload_n 3, 1) := by decide +kernel
theorem dX9_perform_249 : decode cX9_perform 249 = .ok (.iload 4, 2) := by decide +kernel
theorem dX9_perform_251 : decode cX9_perform 251 = .ok (.invokevirtual 147, 3) := by decide +kernel
theorem dX9_perform_254 : decode cX9_perform 254 = .ok (.ireturn, 1) := by decide +kernel
theorem dX9_perform_255 : decode cX9_perform 255 = .ok (.aload_n 0, 1) := by decide +kernel
theorem dX9_perform_256 : decode cX9_perform 256 = .ok (.getfield 40, 3) := by decide +kernel
theorem dX9_perform_259 : decode cX9_perform 259 = .ok (.iload_n 2, 1) := by decide +kernel
theorem dX9_perform_260 : decode cX9_perform 260 = .ok (.iload_n 3, 1) := by decide +kernel
theorem dX9_perform_261 : decode cX9_perform 261 = .ok (.aload 6, 2) := by decide +kernel
theorem dX9_perform_263 : decode cX9_perform 263 = .ok (.iload 4, 2) := by decide +kernel
theorem dX9_perform_265 : decode cX9_perform 265 = .ok (.iaload, 1) := by decide +kernel
theorem dX9_perform_266 : decode cX9_perform 266 = .ok (.invokevirtual 169, 3) := by decide +kernel
theorem dX9_perform_269 : decode cX9_perform 269 = .ok (.ireturn, 1) := by decide +kernel
theorem dX9_perform_270 : decode cX9_perform 270 = .ok (.bipush (-17), 2) := by decide +kernel
theorem dX9_perform_272 : decode cX9_perform 272 = .ok (.ireturn, 1) := by decide +kernel
theorem dX9_intoRegister_0 : decode cX9_intoRegister 0 = .ok (.iload_n 2, 1) := by decide +kernel
theorem dX9_intoRegister_1 : decode cX9_intoRegister 1 = .ok (.invokestatic 308, 3) := by decide +kernel
theorem dX9_intoRegister_4 : decode cX9_intoRegister 4 = .ok (.ifCond .ne 16, 3) := by decide +kernel
theorem dX9_intoRegister_7 : decode cX9_intoRegister 7 = .ok (.aload_n 0, 1) := by decide +kernel
theorem dX9_intoRegister_8 : decode cX9_intoRegister 8 = .ok (.getfield 12, 3) := by decide +kernel
theorem dX9_intoRegister_11 : decode cX9_intoRegister 11 = .ok (.getfield 242, 3) := by decide +kernel
theorem dX9_intoRegister_14 : decode cX9_intoRegister 14 = .ok (.getfield 315, 3) := by decide +kernel
theorem dX9_intoRegister_17 : decode cX9_intoRegister 17 = .ok (.iload_n 1, 1) := by decide +kernel
theorem dX9_intoRegister_18 : decode cX9_intoRegister 18 = .ok (.iload_n 2, 1) := by decide +kernel
theorem dX9_intoRegister_19 : decode cX9_intoRegister 19 = .ok (.iastore, 1) := by decide +kernel
theorem dX9_intoRegister_20 : decode cX9_intoRegister 20 = .ok (.iload_n 2, 1) := by decide +kernel
theorem dX9_intoRegister_21 : decode cX9_intoRegister 21 = .ok (.ireturn, 1) := by decide +kernel
theorem dJ7_rangeCheck_23922_0 : decode cJ7_rangeCheck_23922 0 = .ok (.iload_n 1, 1) := by decide +kernel
theorem dJ7_rangeCheck_23922_1 : decode cJ7_rangeCheck_23922 1 = .ok (.iload_n 2, 1) := by decide +kernel
theorem dJ7_rangeCheck_23922_2 : decode cJ7_rangeCheck_23922 2 = .ok (.if_icmp .le 44, 3) := by decide +kernel
theorem dJ7_rangeCheck_23922_5 : decode cJ7_rangeCheck_23922 5 = .ok (.new 43, 3) := by decide +kernel
theorem dJ7_rangeCheck_23922_8 : decode cJ7_rangeCheck_23922 8 = .ok (.dup, 1) := by decide +kernel
theorem dJ7_rangeCheck_23922_9 : decode cJ7_rangeCheck_23922 9 = .ok (.new 45, 3) := by decide +kernel
theorem dJ7_rangeCheck_23922_12 : decode cJ7_rangeCheck_23922 12 = .ok (.dup, 1) := by decide +kernel
theorem dJ7_rangeCheck_23922_13 : decode cJ7_rangeCheck_23922 13 = .ok (.invokespecial 47, 3) := by decide +kernel
theorem dJ7_rangeCheck_23922_16 : decode cJ7_rangeCheck_23922 16 = .ok (.ldc 48, 2) := by decide +kernel
theorem dJ7_rangeCheck_23922_18 : decode cJ7_rangeCheck_23922 18 = .ok (.invokevirtual 50, 3) := by decide +kernel
theorem dJ7_rangeCheck_23922_21 : decode cJ7_rangeCheck_23922 21 = .ok (.iload_n 1, 1) := by decide +kernel
theorem dJ7_rangeCheck_23922_22 : decode cJ7_rangeCheck_23922 22 = .ok (.invokevirtual 54, 3) := by decide +kernel
theorem dJ7_rangeCheck_23922_25 : decode cJ7_rangeCheck_23922 25 = .ok (.ldc 57, 2) := by decide +kernel
theorem dJ7_rangeCheck_23922_27 : decode cJ7_rangeCheck_23922 27 = .ok (.invokevirtual 50, 3) := by decide +kernel
theorem dJ7_rangeCheck_23922_30 : decode cJ7_rangeCheck_23922 30 = .ok (.iload_n 2, 1) := by decide +kernel
theorem dJ7_rangeCheck_23922_31 : decode cJ7_rangeCheck_23922 31 = .ok (.invokevirtual 54, 3) := by decide +kernel
theorem dJ7_rangeCheck_23922_34 : decode cJ7_rangeCheck_23922 34 = .ok (.ldc 59, 2) := by decide +kernel
theorem dJ7_rangeCheck_23922_36 : decode cJ7_rangeCheck_23922 36 = .ok (.invokevirtual 50, 3) := by decide +kernel
theorem dJ7_rangeCheck_23922_39 : decode cJ7_rangeCheck_23922 39 = .ok (.invokevirtual 61, 3) := by decide +kernel
theorem dJ7_rangeCheck_23922_42 : decode cJ7_rangeCheck_23922 42 = .ok (.invokespecial 65, 3) := by decide +kernel
theorem dJ7_rangeCheck_23922_45 : decode cJ7_rangeCheck_23922 45 = .ok (.athrow, 1) := by decide +kernel
theorem dJ7_rangeCheck_23922_46 : decode cJ7_rangeCheck_23922 46 = .ok (.iload_n 1, 1) := by decide +kernel
theorem dJ7_rangeCheck_23922_47 : decode cJ7_rangeCheck_23922 47 = .ok (.ifCond .ge 12, 3) := by decide +kernel
theorem dJ7_rangeCheck_23922_50 : decode cJ7_rangeCheck_23922 50 = .ok (.new 68, 3) := by decide +kernel
theorem dJ7_rangeCheck_23922_53 : decode cJ7_rangeCheck_23922 53 = .ok (.dup, 1) := by decide +kernel
theorem dJ7_rangeCheck_23922_54 : decode cJ7_rangeCheck_23922 54 = .ok (.iload_n 1, 1) := by decide +kernel
theorem dJ7_rangeCheck_23922_55 : decode cJ7_rangeCheck_23922 55 = .ok (.invokespecial 70, 3) := by decide +kernel
theorem dJ7_rangeCheck_23922_58 : decode cJ7_rangeCheck_23922 58 = .ok (.athrow, 1) := by decide +kernel
theorem dJ7_rangeCheck_23922_59 : decode cJ7_rangeCheck_23922 59 = .ok (.iload_n 2, 1) := by decide +kernel
theorem dJ7_rangeCheck_23922_60 : decode cJ7_rangeCheck_23922 60 = .ok (.iload_n 0, 1) := by decide +kernel
theorem dJ7_rangeCheck_23922_61 : decode cJ7_rangeCheck_23922 61 = .ok (.if_icmp .le 12, 3) := by decide +kernel
theorem dJ7_rangeCheck_23922_64 : decode cJ7_rangeCheck_23922 64 = .ok (.new 68, 3) := by decide +kernel
theorem dJ7_rangeCheck_23922_67 : decode cJ7_rangeCheck_23922 67 = .ok (.dup, 1) := by decide +kernel
theorem dJ7_rangeCheck_23922_68 : decode cJ7_rangeCheck_23922 68 = .ok (.iload_n 2, 1) := by decide +kernel
theorem dJ7_rangeCheck_23922_69 : decode cJ7_rangeCheck_23922 69 = .ok (.invokespecial 70, 3) := by decide +kernel
theorem dJ7_rangeCheck_23922_72 : decode cJ7_rangeCheck_23922 72 = .ok (.athrow, 1) := by decide +kernel
theorem dJ7_rangeCheck_23922_73 : decode cJ7_rangeCheck_23922 73 = .ok (.return_, 1) := by decide +kernel
theorem dJ7_fill_53178_0 : decode cJ7_fill_53178 0 = .ok (.iconst 0, 1) := by decide +kernel
theorem dJ7_fill_53178_1 : decode cJ7_fill_53178 1 = .ok (.istore_n 2, 1) := by decide +kernel
theorem dJ7_fill_53178_2 : decode cJ7_fill_53178 2 = .ok (.aload_n 0, 1) := by decide +kernel
theorem dJ7_fill_53178_3 : decode cJ7_fill_53178 3 = .ok (.arraylength, 1) := by decide +kernel
theorem dJ7_fill_53178_4 : decode cJ7_fill_53178 4 = .ok (.istore_n 3, 1) := by decide +kernel
theorem dJ7_fill_53178_5 : decode cJ7_fill_53178 5 = .ok (.iload_n 2, 1) := by decide +kernel
theorem dJ7_fill_53178_6 : decode cJ7_fill_53178 6 = .ok (.iload_n 3, 1) := by decide +kernel
theorem dJ7_fill_53178_7 : decode cJ7_fill_53178 7 = .ok (.if_icmp .ge 13, 3) := by decide +kernel
theorem dJ7_fill_53178_10 : decode cJ7_fill_53178 10 = .ok (.aload_n 0, 1) := by decide +kernel
theorem dJ7_fill_53178_11 : decode cJ7_fill_53178 11 = .ok (.iload_n 2, 1) := by decide +kernel
theorem dJ7_fill_53178_12 : decode cJ7_fill_53178 12 = .ok (.iload_n 1, 1) := by decide +kernel
theorem dJ7_fill_53178_13 : decode cJ7_fill_53178 13 = .ok (.iastore, 1) := by decide +kernel
theorem dJ7_fill_53178_14 : decode cJ7_fill_53178 14 = .ok (.iinc 2 1, 3) := by decide +kernel
theorem dJ7_fill_53178_17 : decode cJ7_fill_53178 17 = .ok (.goto (-12), 3) := by decide +kernel
theorem dJ7_fill_53178_20 : decode cJ7_fill_53178 20 = .ok (.return_, 1) := by decide +kernel
theorem dJ7_fill_fda19_0 : decode cJ7_fill_fda19 0 = .ok (.aload_n 0, 1) := by decide +kernel
theorem dJ7_fill_fda19_1 : decode cJ7_fill_fda19 1 = .ok (.arraylength, 1) := by decide +kernel
theorem dJ7_fill_fda19_2 : decode cJ7_fill_fda19 2 = .ok (.iload_n 1, 1) := by decide +kernel
theorem dJ7_fill_fda19_3 : decode cJ7_fill_fda19 3 = .ok (.iload_n 2, 1) := by decide +kernel
theorem dJ7_fill_fda19_4 : decode cJ7_fill_fda19 4 = .ok (.invokestatic 13, 3) := by decide +kernel
theorem dJ7_fill_fda19_7 : decode cJ7_fill_fda19 7 = .ok (.iload_n 1, 1) := by decide +kernel
theorem dJ7_fill_fda19_8 : decode cJ7_fill_fda19 8 = .ok (.istore 4, 2) := by decide +kernel
theorem dJ7_fill_fda19_10 : decode cJ7_fill_fda19 10 = .ok (.iload 4, 2) := by decide +kernel
theorem dJ7_fill_fda19_12 : decode cJ7_fill_fda19 12 = .ok (.iload_n 2, 1) := by decide +kernel
theorem dJ7_fill_fda19_13 : decode cJ7_fill_fda19 13 = .ok (.if_icmp .ge 14, 3) := by decide +kernel
theorem dJ7_fill_fda19_16 : decode cJ7_fill_fda19 16 = .ok (.aload_n 0, 1) := by decide +kernel
theorem dJ7_fill_fda19_17 : decode cJ7_fill_fda19 17 = .ok (.iload 4, 2) := by decide +kernel
theorem dJ7_fill_fda19_19 : decode cJ7_fill_fda19 19 = .ok (.iload_n 3, 1) := by decide +kernel
theorem dJ7_fill_fda19_20 : decode cJ7_fill_fda19 20 = .ok (.iastore, 1) := by decide +kernel
theorem dJ7_fill_fda19_21 : decode cJ7_fill_fda19 21 = .ok (.iinc 4 1, 3) := by decide +kernel
theorem dJ7_fill_fda19_24 : decode cJ7_fill_fda19 24 = .ok (.goto (-14), 3) := by decide +kernel
theorem dJ7_fill_fda19_27 : decode cJ7_fill_fda19 27 = .ok (.return_, 1) := by decide +kernel
