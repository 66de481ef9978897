theorem dX4_init_0 : decode cX4_init 0 = .ok (.aload_n 0, 1) := by decide +kernel
theorem dX4_init_1 : decode cX4_init 1 = .ok (.invokespecial 1, 3) := by decide +kernel
theorem dX4_init_4 : decode cX4_init 4 = .ok (.aload_n 0, 1) := by decide +kernel
theorem dX4_init_5 : decode cX4_init 5 = .ok (.sipush 676, 3) := by decide +kernel
theorem dX4_init_8 : decode cX4_init 8 = .ok (.newarray .int, 2) := by decide +kernel
theorem dX4_init_10 : decode cX4_init 10 = .ok (.putfield 7, 3) := by decide +kernel
theorem dX4_init_13 : decode cX4_init 13 = .ok (.aload_n 0, 1) := by decide +kernel
theorem dX4_init_14 : decode cX4_init 14 = .ok (.bipush 13, 2) := by decide +kernel
theorem dX4_init_16 : decode cX4_init 16 = .ok (.newarray .boolean, 2) := by decide +kernel
theorem dX4_init_18 : decode cX4_init 18 = .ok (.putfield 13, 3) := by decide +kernel
theorem dX4_init_21 : decode cX4_init 21 = .ok (.aload_n 0, 1) := by decide +kernel
theorem dX4_init_22 : decode cX4_init 22 = .ok (.bipush 52, 2) := by decide +kernel
theorem dX4_init_24 : decode cX4_init 24 = .ok (.newarray .boolean, 2) := by decide +kernel
theorem dX4_init_26 : decode cX4_init 26 = .ok (.putfield 17, 3) := by decide +kernel
theorem dX4_init_29 : decode cX4_init 29 = .ok (.aload_n 0, 1) := by decide +kernel
theorem dX4_init_30 : decode cX4_init 30 = .ok (.iconst 4, 1) := by decide +kernel
theorem dX4_init_31 : decode cX4_init 31 = .ok (.newarray .boolean, 2) := by decide +kernel
theorem dX4_init_33 : decode cX4_init 33 = .ok (.putfield 20, 3) := by decide +kernel
theorem dX4_init_36 : decode cX4_init 36 = .ok (.aload_n 0, 1) := by decide +kernel
theorem dX4_init_37 : decode cX4_init 37 = .ok (.iconst 1, 1) := by decide +kernel
theorem dX4_init_38 : decode cX4_init 38 = .ok (.putfield 23, 3) := by decide +kernel
theorem dX4_init_41 : decode cX4_init 41 = .ok (.aload_n 0, 1) := by decide +kernel
theorem dX4_init_42 : decode cX4_init 42 = .ok (.iconst (-1), 1) := by decide +kernel
theorem dX4_init_43 : decode cX4_init 43 = .ok (.putfield 27, 3) := by decide +kernel
theorem dX4_init_46 : decode cX4_init 46 = .ok (.aload_n 0, 1) := by decide +kernel
theorem dX4_init_47 : decode cX4_init 47 = .ok (.bipush 26, 2) := by decide +kernel
theorem dX4_init_49 : decode cX4_init 49 = .ok (.newarray .int, 2) := by decide +kernel
theorem dX4_init_51 : decode cX4_init 51 = .ok (.putfield 31, 3) := by decide +kernel
theorem dX4_init_54 : decode cX4_init 54 = .ok (.aload_n 0, 1) := by decide +kernel
theorem dX4_init_55 : decode cX4_init 55 = .ok (.bipush 26, 2) := by decide +kernel
theorem dX4_init_57 : decode cX4_init 57 = .ok (.newarray .int, 2) := by decide +kernel
theorem dX4_init_59 : decode cX4_init 59 = .ok (.putfield 34, 3) := by decide +kernel
theorem dX4_init_62 : decode cX4_init 62 = .ok (.aload_n 0, 1) := by decide +kernel
theorem dX4_init_63 : decode cX4_init 63 = .ok (.bipush 26, 2) := by decide +kernel
theorem dX4_init_65 : decode cX4_init 65 = .ok (.newarray .int, 2) := by decide +kernel
theorem dX4_init_67 : decode cX4_init 67 = .ok (.putfield 37, 3) := by decide +kernel
theorem dX4_init_70 : decode cX4_init 70 = .ok (.aload_n 0, 1) := by decide +kernel
theorem dX4_init_71 : decode cX4_init 71 = .ok (.bipush 13, 2) := by decide +kernel
theorem dX4_init_73 : decode cX4_init 73 = .ok (.newarray .int, 2) := by decide +kernel
theorem dX4_init_75 : decode cX4_init 75 = .ok (.putfield 40, 3) := by decide +kernel
theorem dX4_init_78 : decode cX4_init 78 = .ok (.aload_n 0, 1) := by decide +kernel
theorem dX4_init_79 : decode cX4_init 79 = .ok (.iload_n 1, 1) := by decide +kernel
theorem dX4_init_80 : decode cX4_init 80 = .ok (.iconst 5, 1) := by decide +kernel
theorem dX4_init_81 : decode cX4_init 81 = .ok (.if_icmp .gt 7, 3) := by decide +kernel
theorem dX4_init_84 : decode cX4_init 84 = .ok (.iconst 5, 1) := by decide +kernel
theorem dX4_init_85 : decode cX4_init 85 = .ok (.goto 27, 3) := by decide +kernel
theorem dX4_init_88 : decode cX4_init 88 = .ok (.iload_n 1, 1) := by decide +kernel
theorem dX4_init_89 : decode cX4_init 89 = .ok (.bipush 7, 2) := by decide +kernel
theorem dX4_init_91 : decode cX4_init 91 = .ok (.if_icmp .gt 8, 3) := by decide +kernel
theorem dX4_init_94 : decode cX4_init 94 = .ok (.bipush 7, 2) := by decide +kernel
theorem dX4_init_96 : decode cX4_init 96 = .ok (.goto 16, 3) := by decide +kernel
theorem dX4_init_99 : decode cX4_init 99 = .ok (.iload_n 1, 1) := by decide +kernel
theorem dX4_init_100 : decode cX4_init 100 = .ok (.bipush 11, 2) := by decide +kernel
theorem dX4_init_102 : decode cX4_init 102 = .ok (.if_icmp .gt 8, 3) := by decide +kernel
theorem dX4_init_105 : decode cX4_init 105 = .ok (.bipush 11, 2) := by decide +kernel
theorem dX4_init_107 : decode cX4_init 107 = .ok (.goto 5, 3) := by decide +kernel
theorem dX4_init_110 : decode cX4_init 110 = .ok (.bipush 13, 2) := by decide +kernel
theorem dX4_init_112 : decode cX4_init 112 = .ok (.putfield 43, 3) := by decide +kernel
theorem dX4_init_115 : decode cX4_init 115 = .ok (.aload_n 0, 1) := by decide +kernel
theorem dX4_init_116 : decode cX4_init 116 = .ok (.iload_n 2, 1) := by decide +kernel
theorem dX4_init_117 : decode cX4_init 117 = .ok (.iconst 1, 1) := by decide +kernel
theorem dX4_init_118 : decode cX4_init 118 = .ok (.if_icmp .ge 7, 3) := by decide +kernel
theorem dX4_init_121 : decode cX4_init 121 = .ok (.iconst 1, 1) := by decide +kernel
theorem dX4_init_122 : decode cX4_init 122 = .ok (.goto 13, 3) := by decide +kernel
theorem dX4_init_125 : decode cX4_init 125 = .ok (.iload_n 2, 1) := by decide +kernel
theorem dX4_init_126 : decode cX4_init 126 = .ok (.iconst 4, 1) := by decide +kernel
theorem dX4_init_127 : decode cX4_init 127 = .ok (.if_icmp .le 7, 3) := by decide +kernel
theorem dX4_init_130 : decode cX4_init 130 = .ok (.iconst 4, 1) := by decide +kernel
theorem dX4_init_131 : decode cX4_init 131 = .ok (.goto 4, 3) := by decide +kernel
theorem dX4_init_134 : decode cX4_init 134 = .ok (.iload_n 2, 1) := by decide +kernel
theorem dX4_init_135 : decode cX4_init 135 = .ok (.putfield 46, 3) := by decide +kernel
theorem dX4_init_138 : decode cX4_init 138 = .ok (.return_, 1) := by decide +kernel
theorem dX4_thrown_0 : decode cX4_thrown 0 = .ok (.aload_n 0, 1) := by decide +kernel
theorem dX4_thrown_1 : decode cX4_thrown 1 = .ok (.getfield 49, 3) := by decide +kernel
theorem dX4_thrown_4 : decode cX4_thrown 4 = .ok (.ireturn, 1) := by decide +kernel
theorem dX4_isDrive_0 : decode cX4_isDrive 0 = .ok (.iload_n 1, 1) := by decide +kernel
theorem dX4_isDrive_1 : decode cX4_isDrive 1 = .ok (.ifCond .lt 15, 3) := by decide +kernel
theorem dX4_isDrive_4 : decode cX4_isDrive 4 = .ok (.iload_n 1, 1) := by decide +kernel
theorem dX4_isDrive_5 : decode cX4_isDrive 5 = .ok (.aload_n 0, 1) := by decide +kernel
theorem dX4_isDrive_6 : decode cX4_isDrive 6 = .ok (.getfield 43, 3) := by decide +kernel
theorem dX4_isDrive_9 : decode cX4_isDrive 9 = .ok (.if_icmp .ge 7, 3) := by decide +kernel
theorem dX4_isDrive_12 : decode cX4_isDrive 12 = .ok (.iconst 1, 1) := by decide +kernel
theorem dX4_isDrive_13 : decode cX4_isDrive 13 = .ok (.goto 4, 3) := by decide +kernel
theorem dX4_isDrive_16 : decode cX4_isDrive 16 = .ok (.iconst 0, 1) := by decide +kernel
theorem dX4_isDrive_17 : decode cX4_isDrive 17 = .ok (.ireturn, 1) := by decide +kernel
theorem dX4_isStripe_0 : decode cX4_isStripe 0 = .ok (.iload_n 1, 1) := by decide +kernel
theorem dX4_isStripe_1 : decode cX4_isStripe 1 = .ok (.ifCond .lt 15, 3) := by decide +kernel
theorem dX4_isStripe_4 : decode cX4_isStripe 4 = .ok (.iload_n 1, 1) := by decide +kernel
theorem dX4_isStripe_5 : decode cX4_isStripe 5 = .ok (.aload_n 0, 1) := by decide +kernel
theorem dX4_isStripe_6 : decode cX4_isStripe 6 = .ok (.getfield 46, 3) := by decide +kernel
theorem dX4_isStripe_9 : decode cX4_isStripe 9 = .ok (.if_icmp .ge 7, 3) := by decide +kernel
theorem dX4_isStripe_12 : decode cX4_isStripe 12 = .ok (.iconst 1, 1) := by decide +kernel
theorem dX4_isStripe_13 : decode cX4_isStripe 13 = .ok (.goto 4, 3) := by decide +kernel
theorem dX4_isStripe_16 : decode cX4_isStripe 16 = .ok (.iconst 0, 1) := by decide +kernel
theorem dX4_isStripe_17 : decode cX4_isStripe 17 = .ok (.ireturn, 1) := by decide +kernel
theorem dX4_isBlock_0 : decode cX4_isBlock 0 = .ok (.iload_n 1, 1) := by decide +kernel
theorem dX4_isBlock_1 : decode cX4_isBlock 1 = .ok (.ifCond .lt 27, 3) := by decide +kernel
theorem dX4_isBlock_4 : decode cX4_isBlock 4 = .ok (.iload_n 1, 1) := by decide +kernel
theorem dX4_isBlock_5 : decode cX4_isBlock 5 = .ok (.aload_n 0, 1) := by decide +kernel
theorem dX4_isBlock_6 : decode cX4_isBlock 6 = .ok (.getfield 46, 3) := by decide +kernel
theorem dX4_isBlock_9 : decode cX4_isBlock 9 = .ok (.aload_n 0, 1) := by decide +kernel
theorem dX4_isBlock_10 : decode cX4_isBlock 10 = .ok (.getfield 43, 3) := by decide +kernel
theorem dX4_isBlock_13 : decode cX4_isBlock 13 = .ok (.iconst 2, 1) := by decide +kernel
theorem dX4_isBlock_14 : decode cX4_isBlock 14 = .ok (.isub, 1) := by decide +kernel
theorem dX4_isBlock_15 : decode cX4_isBlock 15 = .ok (.imul, 1) := by decide +kernel
theorem dX4_isBlock_16 : decode cX4_isBlock 16 = .ok (.aload_n 0, 1) := by decide +kernel
theorem dX4_isBlock_17 : decode cX4_isBlock 17 = .ok (.getfield 43, 3) := by decide +kernel
theorem dX4_isBlock_20 : decode cX4_isBlock 20 = .ok (.imul, 1) := by decide +kernel
theorem dX4_isBlock_21 : decode cX4_isBlock 21 = .ok (.if_icmp .ge 7, 3) := by decide +kernel
theorem dX4_isBlock_24 : decode cX4_isBlock 24 = .ok (.iconst 1, 1) := by decide +kernel
theorem dX4_isBlock_25 : decode cX4_isBlock 25 = .ok (.goto 4, 3) := by decide +kernel
theorem dX4_isBlock_28 : decode cX4_isBlock 28 = .ok (.iconst 0, 1) := by decide +kernel
theorem dX4_isBlock_29 : decode cX4_isBlock 29 = .ok (.ireturn, 1) := by decide +kernel
theorem dX4_isMissing_0 : decode cX4_isMissing 0 = .ok (.aload_n 0, 1) := by decide +kernel
theorem dX4_isMissing_1 : decode cX4_isMissing 1 = .ok (.getfield 13, 3) := by decide +kernel
theorem dX4_isMissing_4 : decode cX4_isMissing 4 = .ok (.iload_n 1, 1) := by decide +kernel
theorem dX4_isMissing_5 : decode cX4_isMissing 5 = .ok (.baload, 1) := by decide +kernel
theorem dX4_isMissing_6 : decode cX4_isMissing 6 = .ok (.ifCond .ne 16, 3) := by decide +kernel
theorem dX4_isMissing_9 : decode cX4_isMissing 9 = .ok (.aload_n 0, 1) := by decide +kernel
theorem dX4_isMissing_10 : decode cX4_isMissing 10 = .ok (.getfield 17, 3) := by decide +kernel
theorem dX4_isMissing_13 : decode cX4_isMissing 13 = .ok (.iconst 4, 1) := by decide +kernel
theorem dX4_isMissing_14 : decode cX4_isMissing 14 = .ok (.iload_n 1, 1) := by decide +kernel
theorem dX4_isMissing_15 : decode cX4_isMissing 15 = .ok (.imul, 1) := by decide +kernel
theorem dX4_isMissing_16 : decode cX4_isMissing 16 = .ok (.iload_n 2, 1) := by decide +kernel
theorem dX4_isMissing_17 : decode cX4_isMissing 17 = .ok (.iadd, 1) := by decide +kernel
theorem dX4_isMissing_18 : decode cX4_isMissing 18 = .ok (.baload, 1) := by decide +kernel
theorem dX4_isMissing_19 : decode cX4_isMissing 19 = .ok (.ifCond .eq 7, 3) := by decide +kernel
theorem dX4_isMissing_22 : decode cX4_isMissing 22 = .ok (.iconst 1, 1) := by decide +kernel
theorem dX4_isMissing_23 : decode cX4_isMissing 23 = .ok (.goto 4, 3) := by decide +kernel
theorem dX4_isMissing_26 : decode cX4_isMissing 26 = .ok (.iconst 0, 1) := by decide +kernel
theorem dX4_isMissing_27 : decode cX4_isMissing 27 = .ok (.ireturn, 1) := by decide +kernel
theorem dX4_at_0 : decode cX4_at 0 = .ok (.sipush 169, 3) := by decide +kernel
theorem dX4_at_3 : decode cX4_at 3 = .ok (.iload_n 0, 1) := by decide +kernel
theorem dX4_at_4 : decode cX4_at 4 = .ok (.imul, 1) := by decide +kernel
theorem dX4_at_5 : decode cX4_at 5 = .ok (.bipush 13, 2) := by decide +kernel
theorem dX4_at_7 : decode cX4_at 7 = .ok (.iload_n 1, 1) := by decide +kernel
theorem dX4_at_8 : decode cX4_at 8 = .ok (.imul, 1) := by decide +kernel
theorem dX4_at_9 : decode cX4_at 9 = .ok (.iadd, 1) := by decide +kernel
theorem dX4_at_10 : decode cX4_at 10 = .ok (.iload_n 2, 1) := by decide +kernel
theorem dX4_at_11 : decode cX4_at 11 = .ok (.iadd, 1) := by decide +kernel
theorem dX4_at_12 : decode cX4_at 12 = .ok (.ireturn, 1) := by decide +kernel
theorem dX4_missing_0 : decode cX4_missing 0 = .ok (.aload_n 0, 1) := by decide +kernel
theorem dX4_missing_1 : decode cX4_missing 1 = .ok (.iconst 0, 1) := by decide +kernel
theorem dX4_missing_2 : decode cX4_missing 2 = .ok (.putfield 52, 3) := by decide +kernel
theorem dX4_missing_5 : decode cX4_missing 5 = .ok (.iconst 0, 1) := by decide +kernel
theorem dX4_missing_6 : decode cX4_missing 6 = .ok (.istore_n 2, 1) := by decide +kernel
theorem dX4_missing_7 : decode cX4_missing 7 = .ok (.iload_n 2, 1) := by decide +kernel
theorem dX4_missing_8 : decode cX4_missing 8 = .ok (.aload_n 0, 1) := by decide +kernel
theorem dX4_missing_9 : decode cX4_missing 9 = .ok (.getfield 43, 3) := by decide +kernel
theorem dX4_missing_12 : decode cX4_missing 12 = .ok (.if_icmp .ge 38, 3) := by decide +kernel
theorem dX4_missing_15 : decode cX4_missing 15 = .ok (.aload_n 0, 1) := by decide +kernel
theorem dX4_missing_16 : decode cX4_missing 16 = .ok (.iload_n 2, 1) := by decide +kernel
theorem dX4_missing_17 : decode cX4_missing 17 = .ok (.iload_n 1, 1) := by decide +kernel
theorem dX4_missing_18 : decode cX4_missing 18 = .ok (.invokevirtual 55, 3) := by decide +kernel
theorem dX4_missing_21 : decode cX4_missing 21 = .ok (.ifCond .eq 23, 3) := by decide +kernel
theorem dX4_missing_24 : decode cX4_missing 24 = .ok (.aload_n 0, 1) := by decide +kernel
theorem dX4_missing_25 : decode cX4_missing 25 = .ok (.getfield 40, 3) := by decide +kernel
theorem dX4_missing_28 : decode cX4_missing 28 = .ok (.aload_n 0, 1) := by decide +kernel
theorem dX4_missing_29 : decode cX4_missing 29 = .ok (.getfield 52, 3) := by decide +kernel
theorem dX4_missing_32 : decode cX4_missing 32 = .ok (.iload_n 2, 1) := by decide +kernel
theorem dX4_missing_33 : decode cX4_missing 33 = .ok (.iastore, 1) := by decide +kernel
theorem dX4_missing_34 : decode cX4_missing 34 = .ok (.aload_n 0, 1) := by decide +kernel
theorem dX4_missing_35 : decode cX4_missing 35 = .ok (.dup, 1) := by decide +kernel
theorem dX4_missing_36 : decode cX4_missing 36 = .ok (.getfield 52, 3) := by decide +kernel
theorem dX4_missing_39 : decode cX4_missing 39 = .ok (.iconst 1, 1) := by decide +kernel
theorem dX4_missing_40 : decode cX4_missing 40 = .ok (.iadd, 1) := by decide +kernel
theorem dX4_missing_41 : decode cX4_missing 41 = .ok (.putfield 52, 3) := by decide +kernel
theorem dX4_missing_44 : decode cX4_missing 44 = .ok (.iinc 2  1, 3) := by decide +kernel
theorem dX4_missing_47 : decode cX4_missing 47 = .ok (.goto (-40), 3) := by decide +kernel
theorem dX4_missing_50 : decode cX4_missing 50 = .ok (.aload_n 0, 1) := by decide +kernel
theorem dX4_missing_51 : decode cX4_missing 51 = .ok (.getfield 52, 3) := by decide +kernel
theorem dX4_missing_54 : decode cX4_missing 54 = .ok (.ireturn, 1) := by decide +kernel
theorem dX4_partner_0 : decode cX4_partner 0 = .ok (.iload_n 3, 1) := by decide +kernel
theorem dX4_partner_1 : decode cX4_partner 1 = .ok (.ifCond .eq 23, 3) := by decide +kernel
theorem dX4_partner_4 : decode cX4_partner 4 = .ok (.iload_n 1, 1) := by decide +kernel
theorem dX4_partner_5 : decode cX4_partner 5 = .ok (.iload_n 2, 1) := by decide +kernel
theorem dX4_partner_6 : decode cX4_partner 6 = .ok (.isub, 1) := by decide +kernel
theorem dX4_partner_7 : decode cX4_partner 7 = .ok (.iconst 2, 1) := by decide +kernel
theorem dX4_partner_8 : decode cX4_partner 8 = .ok (.isub, 1) := by decide +kernel
theorem dX4_partner_9 : decode cX4_partner 9 = .ok (.iconst 2, 1) := by decide +kernel
theorem dX4_partner_10 : decode cX4_partner 10 = .ok (.aload_n 0, 1) := by decide +kernel
theorem dX4_partner_11 : decode cX4_partner 11 = .ok (.getfield 43, 3) := by decide +kernel
theorem dX4_partner_14 : decode cX4_partner 14 = .ok (.imul, 1) := by decide +kernel
theorem dX4_partner_15 : decode cX4_partner 15 = .ok (.iadd, 1) := by decide +kernel
theorem dX4_partner_16 : decode cX4_partner 16 = .ok (.aload_n 0, 1) := by decide +kernel
theorem dX4_partner_17 : decode cX4_partner 17 = .ok (.getfield 43, 3) := by decide +kernel
theorem dX4_partner_20 : decode cX4_partner 20 = .ok (.irem, 1) := by decide +kernel
theorem dX4_partner_21 : decode cX4_partner 21 = .ok (.goto 13, 3) := by decide +kernel
theorem dX4_partner_24 : decode cX4_partner 24 = .ok (.iload_n 1, 1) := by decide +kernel
theorem dX4_partner_25 : decode cX4_partner 25 = .ok (.iload_n 2, 1) := by decide +kernel
theorem dX4_partner_26 : decode cX4_partner 26 = .ok (.iadd, 1) := by decide +kernel
theorem dX4_partner_27 : decode cX4_partner 27 = .ok (.iconst 2, 1) := by decide +kernel
theorem dX4_partner_28 : decode cX4_partner 28 = .ok (.iadd, 1) := by decide +kernel
theorem dX4_partner_29 : decode cX4_partner 29 = .ok (.aload_n 0, 1) := by decide +kernel
theorem dX4_partner_30 : decode cX4_partner 30 = .ok (.getfield 43, 3) := by decide +kernel
theorem dX4_partner_33 : decode cX4_partner 33 = .ok (.irem, 1) := by decide +kernel
theorem dX4_partner_34 : decode cX4_partner 34 = .ok (.ireturn, 1) := by decide +kernel
theorem dX4_joins_0 : decode cX4_joins 0 = .ok (.iconst 0, 1) := by decide +kernel
theorem dX4_joins_1 : decode cX4_joins 1 = .ok (.istore 5, 2) := by decide +kernel
theorem dX4_joins_3 : decode cX4_joins 3 = .ok (.iload 5, 2) := by decide +kernel
theorem dX4_joins_5 : decode cX4_joins 5 = .ok (.aload_n 0, 1) := by decide +kernel
theorem dX4_joins_6 : decode cX4_joins 6 = .ok (.getfield 52, 3) := by decide +kernel
theorem dX4_joins_9 : decode cX4_joins 9 = .ok (.if_icmp .ge 46, 3) := by decide +kernel
theorem dX4_joins_12 : decode cX4_joins 12 = .ok (.aload_n 0, 1) := by decide +kernel
theorem dX4_joins_13 : decode cX4_joins 13 = .ok (.getfield 40, 3) := by decide +kernel
theorem dX4_joins_16 : decode cX4_joins 16 = .ok (.iload 5, 2) := by decide +kernel
theorem dX4_joins_18 : decode cX4_joins 18 = .ok (.iaload, 1) := by decide +kernel
theorem dX4_joins_19 : decode cX4_joins 19 = .ok (.iload_n 3, 1) := by decide +kernel
theorem dX4_joins_20 : decode cX4_joins 20 = .ok (.if_icmp .ne 29, 3) := by decide +kernel
theorem dX4_joins_23 : decode cX4_joins 23 = .ok (.aload_n 0, 1) := by decide +kernel
theorem dX4_joins_24 : decode cX4_joins 24 = .ok (.getfield 31, 3) := by decide +kernel
theorem dX4_joins_27 : decode cX4_joins 27 = .ok (.iload_n 1, 1) := by decide +kernel
theorem dX4_joins_28 : decode cX4_joins 28 = .ok (.aload_n 0, 1) := by decide +kernel
theorem dX4_joins_29 : decode cX4_joins 29 = .ok (.getfield 31, 3) := by decide +kernel
theorem dX4_joins_32 : decode cX4_joins 32 = .ok (.iload_n 1, 1) := by decide +kernel
theorem dX4_joins_33 : decode cX4_joins 33 = .ok (.iaload, 1) := by decide +kernel
theorem dX4_joins_34 : decode cX4_joins 34 = .ok (.iconst 1, 1) := by decide +kernel
theorem dX4_joins_35 : decode cX4_joins 35 = .ok (.aload_n 0, 1) := by decide +kernel
theorem dX4_joins_36 : decode cX4_joins 36 = .ok (.getfield 43, 3) := by decide +kernel
theorem dX4_joins_39 : decode cX4_joins 39 = .ok (.iload 5, 2) := by decide +kernel
theorem dX4_joins_41 : decode cX4_joins 41 = .ok (.imul, 1) := by decide +kernel
theorem dX4_joins_42 : decode cX4_joins 42 = .ok (.iload 4, 2) := by decide +kernel
theorem dX4_joins_44 : decode cX4_joins 44 = .ok (.iadd, 1) := by decide +kernel
theorem dX4_joins_45 : decode cX4_joins 45 = .ok (.ishl, 1) := by decide +kernel
theorem dX4_joins_46 : decode cX4_joins 46 = .ok (.ixor, 1) := by decide +kernel
theorem dX4_joins_47 : decode cX4_joins 47 = .ok (.iastore, 1) := by decide +kernel
theorem dX4_joins_48 : decode cX4_joins 48 = .ok (.return_, 1) := by decide +kernel
theorem dX4_joins_49 : decode cX4_joins 49 = .ok (.iinc 5  1, 3) := by decide +kernel
theorem dX4_joins_52 : decode cX4_joins 52 = .ok (.goto (-49), 3) := by decide +kernel
theorem dX4_joins_55 : decode cX4_joins 55 = .ok (.aload_n 0, 1) := by decide +kernel
theorem dX4_joins_56 : decode cX4_joins 56 = .ok (.getfield 34, 3) := by decide +kernel
theorem dX4_joins_59 : decode cX4_joins 59 = .ok (.iload_n 1, 1) := by decide +kernel
theorem dX4_joins_60 : decode cX4_joins 60 = .ok (.aload_n 0, 1) := by decide +kernel
theorem dX4_joins_61 : decode cX4_joins 61 = .ok (.getfield 34, 3) := by decide +kernel
theorem dX4_joins_64 : decode cX4_joins 64 = .ok (.iload_n 1, 1) := by decide +kernel
theorem dX4_joins_65 : decode cX4_joins 65 = .ok (.iaload, 1) := by decide +kernel
theorem dX4_joins_66 : decode cX4_joins 66 = .ok (.aload_n 0, 1) := by decide +kernel
theorem dX4_joins_67 : decode cX4_joins 67 = .ok (.getfield 7, 3) := by decide +kernel
theorem dX4_joins_70 : decode cX4_joins 70 = .ok (.iload_n 2, 1) := by decide +kernel
theorem dX4_joins_71 : decode cX4_joins 71 = .ok (.iload_n 3, 1) := by decide +kernel
theorem dX4_joins_72 : decode cX4_joins 72 = .ok (.iload 4, 2) := by decide +kernel
theorem dX4_joins_74 : decode cX4_joins 74 = .ok (.invokestatic 59, 3) := by decide +kernel
theorem dX4_joins_77 : decode cX4_joins 77 = .ok (.iaload, 1) := by decide +kernel
theorem dX4_joins_78 : decode cX4_joins 78 = .ok (.ixor, 1) := by decide +kernel
theorem dX4_joins_79 : decode cX4_joins 79 = .ok (.iastore, 1) := by decide +kernel
theorem dX4_joins_80 : decode cX4_joins 80 = .ok (.return_, 1) := by decide +kernel
theorem dX4_told_0 : decode cX4_told 0 = .ok (.iconst 0, 1) := by decide +kernel
theorem dX4_told_1 : decode cX4_told 1 = .ok (.istore_n 3, 1) := by decide +kernel
theorem dX4_told_2 : decode cX4_told 2 = .ok (.aload_n 0, 1) := by decide +kernel
theorem dX4_told_3 : decode cX4_told 3 = .ok (.getfield 40, 3) := by decide +kernel
theorem dX4_told_6 : decode cX4_told 6 = .ok (.iload_n 3, 1) := by decide +kernel
theorem dX4_told_7 : decode cX4_told 7 = .ok (.iaload, 1) := by decide +kernel
theorem dX4_told_8 : decode cX4_told 8 = .ok (.iload_n 1, 1) := by decide +kernel
theorem dX4_told_9 : decode cX4_told 9 = .ok (.if_icmp .eq 9, 3) := by decide +kernel
theorem dX4_told_12 : decode cX4_told 12 = .ok (.iinc 3  1, 3) := by decide +kernel
theorem dX4_told_15 : decode cX4_told 15 = .ok (.goto (-13), 3) := by decide +kernel
theorem dX4_told_18 : decode cX4_told 18 = .ok (.aload_n 0, 1) := by decide +kernel
theorem dX4_told_19 : decode cX4_told 19 = .ok (.getfield 37, 3) := by decide +kernel
theorem dX4_told_22 : decode cX4_told 22 = .ok (.aload_n 0, 1) := by decide +kernel
theorem dX4_told_23 : decode cX4_told 23 = .ok (.getfield 43, 3) := by decide +kernel
theorem dX4_told_26 : decode cX4_told 26 = .ok (.iload_n 3, 1) := by decide +kernel
theorem dX4_told_27 : decode cX4_told 27 = .ok (.imul, 1) := by decide +kernel
theorem dX4_told_28 : decode cX4_told 28 = .ok (.iload_n 2, 1) := by decide +kernel
theorem dX4_told_29 : decode cX4_told 29 = .ok (.iadd, 1) := by decide +kernel
theorem dX4_told_30 : decode cX4_told 30 = .ok (.iaload, 1) := by decide +kernel
theorem dX4_told_31 : decode cX4_told 31 = .ok (.ireturn, 1) := by decide +kernel
theorem dX4_puts_0 : decode cX4_puts 0 = .ok (.aload_n 0, 1) := by decide +kernel
theorem dX4_puts_1 : decode cX4_puts 1 = .ok (.getfield 27, 3) := by decide +kernel
theorem dX4_puts_4 : decode cX4_puts 4 = .ok (.ifCond .ne 13, 3) := by decide +kernel
theorem dX4_puts_7 : decode cX4_puts 7 = .ok (.aload_n 0, 1) := by decide +kernel
theorem dX4_puts_8 : decode cX4_puts 8 = .ok (.iconst 0, 1) := by decide +kernel
theorem dX4_puts_9 : decode cX4_puts 9 = .ok (.putfield 23, 3) := by decide +kernel
theorem dX4_puts_12 : decode cX4_puts 12 = .ok (.aload_n 0, 1) := by decide +kernel
theorem dX4_puts_13 : decode cX4_puts 13 = .ok (.iconst (-1), 1) := by decide +kernel
theorem dX4_puts_14 : decode cX4_puts 14 = .ok (.putfield 27, 3) := by decide +kernel
theorem dX4_puts_17 : decode cX4_puts 17 = .ok (.aload_n 0, 1) := by decide +kernel
theorem dX4_puts_18 : decode cX4_puts 18 = .ok (.getfield 23, 3) := by decide +kernel
theorem dX4_puts_21 : decode cX4_puts 21 = .ok (.ifCond .ne 5, 3) := by decide +kernel
theorem dX4_puts_24 : decode cX4_puts 24 = .ok (.iconst 0, 1) := by decide +kernel
theorem dX4_puts_25 : decode cX4_puts 25 = .ok (.ireturn, 1) := by decide +kernel
theorem dX4_puts_26 : decode cX4_puts 26 = .ok (.aload_n 0, 1) := by decide +kernel
theorem dX4_puts_27 : decode cX4_puts 27 = .ok (.dup, 1) := by decide +kernel
theorem dX4_puts_28 : decode cX4_puts 28 = .ok (.getfield 27, 3) := by decide +kernel
theorem dX4_puts_31 : decode cX4_puts 31 = .ok (.aload_n 0, 1) := by decide +kernel
theorem dX4_puts_32 : decode cX4_puts 32 = .ok (.getfield 27, 3) := by decide +kernel
theorem dX4_puts_35 : decode cX4_puts 35 = .ok (.ifCond .le 7, 3) := by decide +kernel
theorem dX4_puts_38 : decode cX4_puts 38 = .ok (.iconst 1, 1) := by decide +kernel
theorem dX4_puts_39 : decode cX4_puts 39 = .ok (.goto 4, 3) := by decide +kernel
theorem dX4_puts_42 : decode cX4_puts 42 = .ok (.iconst 0, 1) := by decide +kernel
theorem dX4_puts_43 : decode cX4_puts 43 = .ok (.isub, 1) := by decide +kernel
theorem dX4_puts_44 : decode cX4_puts 44 = .ok (.putfield 27, 3) := by decide +kernel
theorem dX4_puts_47 : decode cX4_puts 47 = .ok (.aload_n 0, 1) := by decide +kernel
theorem dX4_puts_48 : decode cX4_puts 48 = .ok (.getfield 7, 3) := by decide +kernel
theorem dX4_puts_51 : decode cX4_puts 51 = .ok (.iload_n 1, 1) := by decide +kernel
theorem dX4_puts_52 : decode cX4_puts 52 = .ok (.iload_n 2, 1) := by decide +kernel
theorem dX4_puts_53 : decode cX4_puts 53 = .ok (.iload_n 3, 1) := by decide +kernel
theorem dX4_puts_54 : decode cX4_puts 54 = .ok (.invokestatic 59, 3) := by decide +kernel
theorem dX4_puts_57 : decode cX4_puts 57 = .ok (.iload 4, 2) := by decide +kernel
theorem dX4_puts_59 : decode cX4_puts 59 = .ok (.iastore, 1) := by decide +kernel
theorem dX4_puts_60 : decode cX4_puts 60 = .ok (.iconst 1, 1) := by decide +kernel
theorem dX4_puts_61 : decode cX4_puts 61 = .ok (.ireturn, 1) := by decide +kernel
theorem dX4_cut_0 : decode cX4_cut 0 = .ok (.aload_n 0, 1) := by decide +kernel
theorem dX4_cut_1 : decode cX4_cut 1 = .ok (.iconst 0, 1) := by decide +kernel
theorem dX4_cut_2 : decode cX4_cut 2 = .ok (.putfield 49, 3) := by decide +kernel
theorem dX4_cut_5 : decode cX4_cut 5 = .ok (.aload_n 0, 1) := by decide +kernel
theorem dX4_cut_6 : decode cX4_cut 6 = .ok (.getfield 23, 3) := by decide +kernel
theorem dX4_cut_9 : decode cX4_cut 9 = .ok (.ifCond .eq 7, 3) := by decide +kernel
theorem dX4_cut_12 : decode cX4_cut 12 = .ok (.iload_n 1, 1) := by decide +kernel
theorem dX4_cut_13 : decode cX4_cut 13 = .ok (.ifCond .ge 5, 3) := by decide +kernel
theorem dX4_cut_16 : decode cX4_cut 16 = .ok (.iconst 0, 1) := by decide +kernel
theorem dX4_cut_17 : decode cX4_cut 17 = .ok (.ireturn, 1) := by decide +kernel
theorem dX4_cut_18 : decode cX4_cut 18 = .ok (.aload_n 0, 1) := by decide +kernel
theorem dX4_cut_19 : decode cX4_cut 19 = .ok (.iload_n 1, 1) := by decide +kernel
theorem dX4_cut_20 : decode cX4_cut 20 = .ok (.putfield 27, 3) := by decide +kernel
theorem dX4_cut_23 : decode cX4_cut 23 = .ok (.iconst 1, 1) := by decide +kernel
theorem dX4_cut_24 : decode cX4_cut 24 = .ok (.ireturn, 1) := by decide +kernel
theorem dX4_start_0 : decode cX4_start 0 = .ok (.aload_n 0, 1) := by decide +kernel
theorem dX4_start_1 : decode cX4_start 1 = .ok (.iconst 0, 1) := by decide +kernel
theorem dX4_start_2 : decode cX4_start 2 = .ok (.putfield 49, 3) := by decide +kernel
theorem dX4_start_5 : decode cX4_start 5 = .ok (.aload_n 0, 1) := by decide +kernel
theorem dX4_start_6 : decode cX4_start 6 = .ok (.getfield 23, 3) := by decide +kernel
theorem dX4_start_9 : decode cX4_start 9 = .ok (.ifCond .eq 5, 3) := by decide +kernel
theorem dX4_start_12 : decode cX4_start 12 = .ok (.iconst (-1), 1) := by decide +kernel
theorem dX4_start_13 : decode cX4_start 13 = .ok (.ireturn, 1) := by decide +kernel
theorem dX4_start_14 : decode cX4_start 14 = .ok (.aload_n 0, 1) := by decide +kernel
theorem dX4_start_15 : decode cX4_start 15 = .ok (.iconst 1, 1) := by decide +kernel
theorem dX4_start_16 : decode cX4_start 16 = .ok (.putfield 23, 3) := by decide +kernel
theorem dX4_start_19 : decode cX4_start 19 = .ok (.aload_n 0, 1) := by decide +kernel
theorem dX4_start_20 : decode cX4_start 20 = .ok (.iconst (-1), 1) := by decide +kernel
theorem dX4_start_21 : decode cX4_start 21 = .ok (.putfield 27, 3) := by decide +kernel
theorem dX4_start_24 : decode cX4_start 24 = .ok (.iconst 0, 1) := by decide +kernel
theorem dX4_start_25 : decode cX4_start 25 = .ok (.istore_n 1, 1) := by decide +kernel
theorem dX4_start_26 : decode cX4_start 26 = .ok (.iconst 0, 1) := by decide +kernel
theorem dX4_start_27 : decode cX4_start 27 = .ok (.istore_n 2, 1) := by decide +kernel
theorem dX4_start_28 : decode cX4_start 28 = .ok (.iload_n 2, 1) := by decide +kernel
theorem dX4_start_29 : decode cX4_start 29 = .ok (.aload_n 0, 1) := by decide +kernel
theorem dX4_start_30 : decode cX4_start 30 = .ok (.getfield 46, 3) := by decide +kernel
theorem dX4_start_33 : decode cX4_start 33 = .ok (.if_icmp .ge 98, 3) := by decide +kernel
theorem dX4_start_36 : decode cX4_start 36 = .ok (.aload_n 0, 1) := by decide +kernel
theorem dX4_start_37 : decode cX4_start 37 = .ok (.getfield 20, 3) := by decide +kernel
theorem dX4_start_40 : decode cX4_start 40 = .ok (.iload_n 2, 1) := by decide +kernel
theorem dX4_start_41 : decode cX4_start 41 = .ok (.baload, 1) := by decide +kernel
theorem dX4_start_42 : decode cX4_start 42 = .ok (.ifCond .eq 83, 3) := by decide +kernel
theorem dX4_start_45 : decode cX4_start 45 = .ok (.aload_n 0, 1) := by decide +kernel
theorem dX4_start_46 : decode cX4_start 46 = .ok (.iload_n 2, 1) := by decide +kernel
theorem dX4_start_47 : decode cX4_start 47 = .ok (.invokevirtual 63, 3) := by decide +kernel
theorem dX4_start_50 : decode cX4_start 50 = .ok (.ifCond .ne 75, 3) := by decide +kernel
theorem dX4_start_53 : decode cX4_start 53 = .ok (.iconst 0, 1) := by decide +kernel
theorem dX4_start_54 : decode cX4_start 54 = .ok (.istore_n 3, 1) := by decide +kernel
theorem dX4_start_55 : decode cX4_start 55 = .ok (.iload_n 3, 1) := by decide +kernel
theorem dX4_start_56 : decode cX4_start 56 = .ok (.aload_n 0, 1) := by decide +kernel
theorem dX4_start_57 : decode cX4_start 57 = .ok (.getfield 43, 3) := by decide +kernel
theorem dX4_start_60 : decode cX4_start 60 = .ok (.if_icmp .ge 55, 3) := by decide +kernel
theorem dX4_start_63 : decode cX4_start 63 = .ok (.aload_n 0, 1) := by decide +kernel
theorem dX4_start_64 : decode cX4_start 64 = .ok (.getfield 7, 3) := by decide +kernel
theorem dX4_start_67 : decode cX4_start 67 = .ok (.iload_n 2, 1) := by decide +kernel
theorem dX4_start_68 : decode cX4_start 68 = .ok (.iload_n 3, 1) := by decide +kernel
theorem dX4_start_69 : decode cX4_start 69 = .ok (.aload_n 0, 1) := by decide +kernel
theorem dX4_start_70 : decode cX4_start 70 = .ok (.getfield 43, 3) := by decide +kernel
theorem dX4_start_73 : decode cX4_start 73 = .ok (.iconst 2, 1) := by decide +kernel
theorem dX4_start_74 : decode cX4_start 74 = .ok (.isub, 1) := by decide +kernel
theorem dX4_start_75 : decode cX4_start 75 = .ok (.invokestatic 59, 3) := by decide +kernel
theorem dX4_start_78 : decode cX4_start 78 = .ok (.aload_n 0, 1) := by decide +kernel
theorem dX4_start_79 : decode cX4_start 79 = .ok (.iload_n 2, 1) := by decide +kernel
theorem dX4_start_80 : decode cX4_start 80 = .ok (.iload_n 3, 1) := by decide +kernel
theorem dX4_start_81 : decode cX4_start 81 = .ok (.iconst 0, 1) := by decide +kernel
theorem dX4_start_82 : decode cX4_start 82 = .ok (.invokevirtual 74, 3) := by decide +kernel
theorem dX4_start_85 : decode cX4_start 85 = .ok (.iastore, 1) := by decide +kernel
theorem dX4_start_86 : decode cX4_start 86 = .ok (.aload_n 0, 1) := by decide +kernel
theorem dX4_start_87 : decode cX4_start 87 = .ok (.getfield 7, 3) := by decide +kernel
theorem dX4_start_90 : decode cX4_start 90 = .ok (.iload_n 2, 1) := by decide +kernel
theorem dX4_start_91 : decode cX4_start 91 = .ok (.iload_n 3, 1) := by decide +kernel
theorem dX4_start_92 : decode cX4_start 92 = .ok (.aload_n 0, 1) := by decide +kernel
theorem dX4_start_93 : decode cX4_start 93 = .ok (.getfield 43, 3) := by decide +kernel
theorem dX4_start_96 : decode cX4_start 96 = .ok (.iconst 1, 1) := by decide +kernel
theorem dX4_start_97 : decode cX4_start 97 = .ok (.isub, 1) := by decide +kernel
theorem dX4_start_98 : decode cX4_start 98 = .ok (.invokestatic 59, 3) := by decide +kernel
theorem dX4_start_101 : decode cX4_start 101 = .ok (.aload_n 0, 1) := by decide +kernel
theorem dX4_start_102 : decode cX4_start 102 = .ok (.iload_n 2, 1) := by decide +kernel
theorem dX4_start_103 : decode cX4_start 103 = .ok (.iload_n 3, 1) := by decide +kernel
theorem dX4_start_104 : decode cX4_start 104 = .ok (.iconst 1, 1) := by decide +kernel
theorem dX4_start_105 : decode cX4_start 105 = .ok (.invokevirtual 74, 3) := by decide +kernel
theorem dX4_start_108 : decode cX4_start 108 = .ok (.iastore, 1) := by decide +kernel
theorem dX4_start_109 : decode cX4_start 109 = .ok (.iinc 3  1, 3) := by decide +kernel
theorem dX4_start_112 : decode cX4_start 112 = .ok (.goto (-57), 3) := by decide +kernel
theorem dX4_start_115 : decode cX4_start 115 = .ok (.aload_n 0, 1) := by decide +kernel
theorem dX4_start_116 : decode cX4_start 116 = .ok (.getfield 20, 3) := by decide +kernel
theorem dX4_start_119 : decode cX4_start 119 = .ok (.iload_n 2, 1) := by decide +kernel
theorem dX4_start_120 : decode cX4_start 120 = .ok (.iconst 0, 1) := by decide +kernel
theorem dX4_start_121 : decode cX4_start 121 = .ok (.bastore, 1) := by decide +kernel
theorem dX4_start_122 : decode cX4_start 122 = .ok (.iinc 1  1, 3) := by decide +kernel
theorem dX4_start_125 : decode cX4_start 125 = .ok (.iinc 2  1, 3) := by decide +kernel
theorem dX4_start_128 : decode cX4_start 128 = .ok (.goto (-100), 3) := by decide +kernel
theorem dX4_start_131 : decode cX4_start 131 = .ok (.iload_n 1, 1) := by decide +kernel
theorem dX4_start_132 : decode cX4_start 132 = .ok (.ireturn, 1) := by decide +kernel
theorem dX4_on_0 : decode cX4_on 0 = .ok (.aload_n 0, 1) := by decide +kernel
theorem dX4_on_1 : decode cX4_on 1 = .ok (.iconst 0, 1) := by decide +kernel
theorem dX4_on_2 : decode cX4_on 2 = .ok (.putfield 49, 3) := by decide +kernel
theorem dX4_on_5 : decode cX4_on 5 = .ok (.aload_n 0, 1) := by decide +kernel
theorem dX4_on_6 : decode cX4_on 6 = .ok (.getfield 23, 3) := by decide +kernel
theorem dX4_on_9 : decode cX4_on 9 = .ok (.ireturn, 1) := by decide +kernel
theorem dX4_parity_0 : decode cX4_parity 0 = .ok (.iconst 0, 1) := by decide +kernel
theorem dX4_parity_1 : decode cX4_parity 1 = .ok (.istore 4, 2) := by decide +kernel
theorem dX4_parity_3 : decode cX4_parity 3 = .ok (.iconst 0, 1) := by decide +kernel
theorem dX4_parity_4 : decode cX4_parity 4 = .ok (.istore 5, 2) := by decide +kernel
theorem dX4_parity_6 : decode cX4_parity 6 = .ok (.iload 5, 2) := by decide +kernel
theorem dX4_parity_8 : decode cX4_parity 8 = .ok (.aload_n 0, 1) := by decide +kernel
theorem dX4_parity_9 : decode cX4_parity 9 = .ok (.getfield 43, 3) := by decide +kernel
theorem dX4_parity_12 : decode cX4_parity 12 = .ok (.iconst 2, 1) := by decide +kernel
theorem dX4_parity_13 : decode cX4_parity 13 = .ok (.isub, 1) := by decide +kernel
theorem dX4_parity_14 : decode cX4_parity 14 = .ok (.if_icmp .ge 33, 3) := by decide +kernel
theorem dX4_parity_17 : decode cX4_parity 17 = .ok (.iload 4, 2) := by decide +kernel
theorem dX4_parity_19 : decode cX4_parity 19 = .ok (.aload_n 0, 1) := by decide +kernel
theorem dX4_parity_20 : decode cX4_parity 20 = .ok (.getfield 7, 3) := by decide +kernel
theorem dX4_parity_23 : decode cX4_parity 23 = .ok (.iload_n 1, 1) := by decide +kernel
theorem dX4_parity_24 : decode cX4_parity 24 = .ok (.aload_n 0, 1) := by decide +kernel
theorem dX4_parity_25 : decode cX4_parity 25 = .ok (.iload_n 2, 1) := by decide +kernel
theorem dX4_parity_26 : decode cX4_parity 26 = .ok (.iload 5, 2) := by decide +kernel
theorem dX4_parity_28 : decode cX4_parity 28 = .ok (.iload_n 3, 1) := by decide +kernel
theorem dX4_parity_29 : decode cX4_parity 29 = .ok (.invokevirtual 70, 3) := by decide +kernel
theorem dX4_parity_32 : decode cX4_parity 32 = .ok (.iload 5, 2) := by decide +kernel
theorem dX4_parity_34 : decode cX4_parity 34 = .ok (.invokestatic 59, 3) := by decide +kernel
theorem dX4_parity_37 : decode cX4_parity 37 = .ok (.iaload, 1) := by decide +kernel
theorem dX4_parity_38 : decode cX4_parity 38 = .ok (.ixor, 1) := by decide +kernel
theorem dX4_parity_39 : decode cX4_parity 39 = .ok (.istore 4, 2) := by decide +kernel
theorem dX4_parity_41 : decode cX4_parity 41 = .ok (.iinc 5  1, 3) := by decide +kernel
theorem dX4_parity_44 : decode cX4_parity 44 = .ok (.goto (-38), 3) := by decide +kernel
theorem dX4_parity_47 : decode cX4_parity 47 = .ok (.iload 4, 2) := by decide +kernel
theorem dX4_parity_49 : decode cX4_parity 49 = .ok (.ireturn, 1) := by decide +kernel
theorem dX4_lose_0 : decode cX4_lose 0 = .ok (.aload_n 0, 1) := by decide +kernel
theorem dX4_lose_1 : decode cX4_lose 1 = .ok (.iconst 0, 1) := by decide +kernel
theorem dX4_lose_2 : decode cX4_lose 2 = .ok (.putfield 49, 3) := by decide +kernel
theorem dX4_lose_5 : decode cX4_lose 5 = .ok (.aload_n 0, 1) := by decide +kernel
theorem dX4_lose_6 : decode cX4_lose 6 = .ok (.iload_n 1, 1) := by decide +kernel
theorem dX4_lose_7 : decode cX4_lose 7 = .ok (.invokevirtual 93, 3) := by decide +kernel
theorem dX4_lose_10 : decode cX4_lose 10 = .ok (.ifCond .eq 12, 3) := by decide +kernel
theorem dX4_lose_13 : decode cX4_lose 13 = .ok (.aload_n 0, 1) := by decide +kernel
theorem dX4_lose_14 : decode cX4_lose 14 = .ok (.getfield 13, 3) := by decide +kernel
theorem dX4_lose_17 : decode cX4_lose 17 = .ok (.iload_n 1, 1) := by decide +kernel
theorem dX4_lose_18 : decode cX4_lose 18 = .ok (.baload, 1) := by decide +kernel
theorem dX4_lose_19 : decode cX4_lose 19 = .ok (.ifCond .eq 5, 3) := by decide +kernel
theorem dX4_lose_22 : decode cX4_lose 22 = .ok (.iconst 0, 1) := by decide +kernel
theorem dX4_lose_23 : decode cX4_lose 23 = .ok (.ireturn, 1) := by decide +kernel
theorem dX4_lose_24 : decode cX4_lose 24 = .ok (.aload_n 0, 1) := by decide +kernel
theorem dX4_lose_25 : decode cX4_lose 25 = .ok (.getfield 13, 3) := by decide +kernel
theorem dX4_lose_28 : decode cX4_lose 28 = .ok (.iload_n 1, 1) := by decide +kernel
theorem dX4_lose_29 : decode cX4_lose 29 = .ok (.iconst 1, 1) := by decide +kernel
theorem dX4_lose_30 : decode cX4_lose 30 = .ok (.bastore, 1) := by decide +kernel
theorem dX4_lose_31 : decode cX4_lose 31 = .ok (.iconst 0, 1) := by decide +kernel
theorem dX4_lose_32 : decode cX4_lose 32 = .ok (.istore_n 2, 1) := by decide +kernel
theorem dX4_lose_33 : decode cX4_lose 33 = .ok (.iload_n 2, 1) := by decide +kernel
theorem dX4_lose_34 : decode cX4_lose 34 = .ok (.aload_n 0, 1) := by decide +kernel
theorem dX4_lose_35 : decode cX4_lose 35 = .ok (.getfield 46, 3) := by decide +kernel
theorem dX4_lose_38 : decode cX4_lose 38 = .ok (.if_icmp .ge 48, 3) := by decide +kernel
theorem dX4_lose_41 : decode cX4_lose 41 = .ok (.aload_n 0, 1) := by decide +kernel
theorem dX4_lose_42 : decode cX4_lose 42 = .ok (.getfield 17, 3) := by decide +kernel
theorem dX4_lose_45 : decode cX4_lose 45 = .ok (.iconst 4, 1) := by decide +kernel
theorem dX4_lose_46 : decode cX4_lose 46 = .ok (.iload_n 1, 1) := by decide +kernel
theorem dX4_lose_47 : decode cX4_lose 47 = .ok (.imul, 1) := by decide +kernel
theorem dX4_lose_48 : decode cX4_lose 48 = .ok (.iload_n 2, 1) := by decide +kernel
theorem dX4_lose_49 : decode cX4_lose 49 = .ok (.iadd, 1) := by decide +kernel
theorem dX4_lose_50 : decode cX4_lose 50 = .ok (.iconst 0, 1) := by decide +kernel
theorem dX4_lose_51 : decode cX4_lose 51 = .ok (.bastore, 1) := by decide +kernel
theorem dX4_lose_52 : decode cX4_lose 52 = .ok (.iconst 0, 1) := by decide +kernel
theorem dX4_lose_53 : decode cX4_lose 53 = .ok (.istore_n 3, 1) := by decide +kernel
theorem dX4_lose_54 : decode cX4_lose 54 = .ok (.iload_n 3, 1) := by decide +kernel
theorem dX4_lose_55 : decode cX4_lose 55 = .ok (.aload_n 0, 1) := by decide +kernel
theorem dX4_lose_56 : decode cX4_lose 56 = .ok (.getfield 43, 3) := by decide +kernel
theorem dX4_lose_59 : decode cX4_lose 59 = .ok (.if_icmp .ge 21, 3) := by decide +kernel
theorem dX4_lose_62 : decode cX4_lose 62 = .ok (.aload_n 0, 1) := by decide +kernel
theorem dX4_lose_63 : decode cX4_lose 63 = .ok (.getfield 7, 3) := by decide +kernel
theorem dX4_lose_66 : decode cX4_lose 66 = .ok (.iload_n 2, 1) := by decide +kernel
theorem dX4_lose_67 : decode cX4_lose 67 = .ok (.iload_n 1, 1) := by decide +kernel
theorem dX4_lose_68 : decode cX4_lose 68 = .ok (.iload_n 3, 1) := by decide +kernel
theorem dX4_lose_69 : decode cX4_lose 69 = .ok (.invokestatic 59, 3) := by decide +kernel
theorem dX4_lose_72 : decode cX4_lose 72 = .ok (.iconst 0, 1) := by decide +kernel
theorem dX4_lose_73 : decode cX4_lose 73 = .ok (.iastore, 1) := by decide +kernel
theorem dX4_lose_74 : decode cX4_lose 74 = .ok (.iinc 3  1, 3) := by decide +kernel
theorem dX4_lose_77 : decode cX4_lose 77 = .ok (.goto (-23), 3) := by decide +kernel
theorem dX4_lose_80 : decode cX4_lose 80 = .ok (.iinc 2  1, 3) := by decide +kernel
theorem dX4_lose_83 : decode cX4_lose 83 = .ok (.goto (-50), 3) := by decide +kernel
theorem dX4_lose_86 : decode cX4_lose 86 = .ok (.iconst 1, 1) := by decide +kernel
theorem dX4_lose_87 : decode cX4_lose 87 = .ok (.ireturn, 1) := by decide +kernel
theorem dX4_replace_0 : decode cX4_replace 0 = .ok (.aload_n 0, 1) := by decide +kernel
theorem dX4_replace_1 : decode cX4_replace 1 = .ok (.iconst 0, 1) := by decide +kernel
theorem dX4_replace_2 : decode cX4_replace 2 = .ok (.putfield 49, 3) := by decide +kernel
theorem dX4_replace_5 : decode cX4_replace 5 = .ok (.aload_n 0, 1) := by decide +kernel
theorem dX4_replace_6 : decode cX4_replace 6 = .ok (.getfield 23, 3) := by decide +kernel
theorem dX4_replace_9 : decode cX4_replace 9 = .ok (.ifCond .eq 20, 3) := by decide +kernel
theorem dX4_replace_12 : decode cX4_replace 12 = .ok (.aload_n 0, 1) := by decide +kernel
theorem dX4_replace_13 : decode cX4_replace 13 = .ok (.iload_n 1, 1) := by decide +kernel
theorem dX4_replace_14 : decode cX4_replace 14 = .ok (.invokevirtual 93, 3) := by decide +kernel
theorem dX4_replace_17 : decode cX4_replace 17 = .ok (.ifCond .eq 12, 3) := by decide +kernel
theorem dX4_replace_20 : decode cX4_replace 20 = .ok (.aload_n 0, 1) := by decide +kernel
theorem dX4_replace_21 : decode cX4_replace 21 = .ok (.getfield 13, 3) := by decide +kernel
theorem dX4_replace_24 : decode cX4_replace 24 = .ok (.iload_n 1, 1) := by decide +kernel
theorem dX4_replace_25 : decode cX4_replace 25 = .ok (.baload, 1) := by decide +kernel
theorem dX4_replace_26 : decode cX4_replace 26 = .ok (.ifCond .ne 5, 3) := by decide +kernel
theorem dX4_replace_29 : decode cX4_replace 29 = .ok (.iconst 0, 1) := by decide +kernel
theorem dX4_replace_30 : decode cX4_replace 30 = .ok (.ireturn, 1) := by decide +kernel
theorem dX4_replace_31 : decode cX4_replace 31 = .ok (.aload_n 0, 1) := by decide +kernel
theorem dX4_replace_32 : decode cX4_replace 32 = .ok (.getfield 13, 3) := by decide +kernel
theorem dX4_replace_35 : decode cX4_replace 35 = .ok (.iload_n 1, 1) := by decide +kernel
theorem dX4_replace_36 : decode cX4_replace 36 = .ok (.iconst 0, 1) := by decide +kernel
theorem dX4_replace_37 : decode cX4_replace 37 = .ok (.bastore, 1) := by decide +kernel
theorem dX4_replace_38 : decode cX4_replace 38 = .ok (.iconst 0, 1) := by decide +kernel
theorem dX4_replace_39 : decode cX4_replace 39 = .ok (.istore_n 2, 1) := by decide +kernel
theorem dX4_replace_40 : decode cX4_replace 40 = .ok (.iload_n 2, 1) := by decide +kernel
theorem dX4_replace_41 : decode cX4_replace 41 = .ok (.aload_n 0, 1) := by decide +kernel
theorem dX4_replace_42 : decode cX4_replace 42 = .ok (.getfield 46, 3) := by decide +kernel
theorem dX4_replace_45 : decode cX4_replace 45 = .ok (.if_icmp .ge 20, 3) := by decide +kernel
theorem dX4_replace_48 : decode cX4_replace 48 = .ok (.aload_n 0, 1) := by decide +kernel
theorem dX4_replace_49 : decode cX4_replace 49 = .ok (.getfield 17, 3) := by decide +kernel
theorem dX4_replace_52 : decode cX4_replace 52 = .ok (.iconst 4, 1) := by decide +kernel
theorem dX4_replace_53 : decode cX4_replace 53 = .ok (.iload_n 1, 1) := by decide +kernel
theorem dX4_replace_54 : decode cX4_replace 54 = .ok (.imul, 1) := by decide +kernel
theorem dX4_replace_55 : decode cX4_replace 55 = .ok (.iload_n 2, 1) := by decide +kernel
theorem dX4_replace_56 : decode cX4_replace 56 = .ok (.iadd, 1) := by decide +kernel
theorem dX4_replace_57 : decode cX4_replace 57 = .ok (.iconst 1, 1) := by decide +kernel
theorem dX4_replace_58 : decode cX4_replace 58 = .ok (.bastore, 1) := by decide +kernel
theorem dX4_replace_59 : decode cX4_replace 59 = .ok (.iinc 2  1, 3) := by decide +kernel
theorem dX4_replace_62 : decode cX4_replace 62 = .ok (.goto (-22), 3) := by decide +kernel
theorem dX4_replace_65 : decode cX4_replace 65 = .ok (.iconst 1, 1) := by decide +kernel
theorem dX4_replace_66 : decode cX4_replace 66 = .ok (.ireturn, 1) := by decide +kernel
theorem dX4_isNew_0 : decode cX4_isNew 0 = .ok (.iconst 0, 1) := by decide +kernel
theorem dX4_isNew_1 : decode cX4_isNew 1 = .ok (.istore_n 2, 1) := by decide +kernel
theorem dX4_isNew_2 : decode cX4_isNew 2 = .ok (.iconst 0, 1) := by decide +kernel
theorem dX4_isNew_3 : decode cX4_isNew 3 = .ok (.istore_n 3, 1) := by decide +kernel
theorem dX4_isNew_4 : decode cX4_isNew 4 = .ok (.iload_n 3, 1) := by decide +kernel
theorem dX4_isNew_5 : decode cX4_isNew 5 = .ok (.aload_n 0, 1) := by decide +kernel
theorem dX4_isNew_6 : decode cX4_isNew 6 = .ok (.getfield 43, 3) := by decide +kernel
theorem dX4_isNew_9 : decode cX4_isNew 9 = .ok (.if_icmp .ge 32, 3) := by decide +kernel
theorem dX4_isNew_12 : decode cX4_isNew 12 = .ok (.iload_n 2, 1) := by decide +kernel
theorem dX4_isNew_13 : decode cX4_isNew 13 = .ok (.ifCond .ne 16, 3) := by decide +kernel
theorem dX4_isNew_16 : decode cX4_isNew 16 = .ok (.aload_n 0, 1) := by decide +kernel
theorem dX4_isNew_17 : decode cX4_isNew 17 = .ok (.getfield 17, 3) := by decide +kernel
theorem dX4_isNew_20 : decode cX4_isNew 20 = .ok (.iconst 4, 1) := by decide +kernel
theorem dX4_isNew_21 : decode cX4_isNew 21 = .ok (.iload_n 3, 1) := by decide +kernel
theorem dX4_isNew_22 : decode cX4_isNew 22 = .ok (.imul, 1) := by decide +kernel
theorem dX4_isNew_23 : decode cX4_isNew 23 = .ok (.iload_n 1, 1) := by decide +kernel
theorem dX4_isNew_24 : decode cX4_isNew 24 = .ok (.iadd, 1) := by decide +kernel
theorem dX4_isNew_25 : decode cX4_isNew 25 = .ok (.baload, 1) := by decide +kernel
theorem dX4_isNew_26 : decode cX4_isNew 26 = .ok (.ifCond .eq 7, 3) := by decide +kernel
theorem dX4_isNew_29 : decode cX4_isNew 29 = .ok (.iconst 1, 1) := by decide +kernel
theorem dX4_isNew_30 : decode cX4_isNew 30 = .ok (.goto 4, 3) := by decide +kernel
theorem dX4_isNew_33 : decode cX4_isNew 33 = .ok (.iconst 0, 1) := by decide +kernel
theorem dX4_isNew_34 : decode cX4_isNew 34 = .ok (.istore_n 2, 1) := by decide +kernel
theorem dX4_isNew_35 : decode cX4_isNew 35 = .ok (.iinc 3  1, 3) := by decide +kernel
theorem dX4_isNew_38 : decode cX4_isNew 38 = .ok (.goto (-34), 3) := by decide +kernel
theorem dX4_isNew_41 : decode cX4_isNew 41 = .ok (.iload_n 2, 1) := by decide +kernel
theorem dX4_isNew_42 : decode cX4_isNew 42 = .ok (.ireturn, 1) := by decide +kernel
theorem dX4_stripe_0 : decode cX4_stripe 0 = .ok (.aload_n 0, 1) := by decide +kernel
theorem dX4_stripe_1 : decode cX4_stripe 1 = .ok (.iconst 0, 1) := by decide +kernel
theorem dX4_stripe_2 : decode cX4_stripe 2 = .ok (.putfield 49, 3) := by decide +kernel
theorem dX4_stripe_5 : decode cX4_stripe 5 = .ok (.aload_n 0, 1) := by decide +kernel
theorem dX4_stripe_6 : decode cX4_stripe 6 = .ok (.iload_n 1, 1) := by decide +kernel
theorem dX4_stripe_7 : decode cX4_stripe 7 = .ok (.invokevirtual 102, 3) := by decide +kernel
theorem dX4_stripe_10 : decode cX4_stripe 10 = .ok (.ifCond .ne 7, 3) := by decide +kernel
theorem dX4_stripe_13 : decode cX4_stripe 13 = .ok (.iconst (-1), 1) := by decide +kernel
theorem dX4_stripe_14 : decode cX4_stripe 14 = .ok (.goto 29, 3) := by decide +kernel
theorem dX4_stripe_17 : decode cX4_stripe 17 = .ok (.aload_n 0, 1) := by decide +kernel
theorem dX4_stripe_18 : decode cX4_stripe 18 = .ok (.getfield 20, 3) := by decide +kernel
theorem dX4_stripe_21 : decode cX4_stripe 21 = .ok (.iload_n 1, 1) := by decide +kernel
theorem dX4_stripe_22 : decode cX4_stripe 22 = .ok (.baload, 1) := by decide +kernel
theorem dX4_stripe_23 : decode cX4_stripe 23 = .ok (.ifCond .ne 7, 3) := by decide +kernel
theorem dX4_stripe_26 : decode cX4_stripe 26 = .ok (.iconst 0, 1) := by decide +kernel
theorem dX4_stripe_27 : decode cX4_stripe 27 = .ok (.goto 16, 3) := by decide +kernel
theorem dX4_stripe_30 : decode cX4_stripe 30 = .ok (.aload_n 0, 1) := by decide +kernel
theorem dX4_stripe_31 : decode cX4_stripe 31 = .ok (.iload_n 1, 1) := by decide +kernel
theorem dX4_stripe_32 : decode cX4_stripe 32 = .ok (.invokevirtual 63, 3) := by decide +kernel
theorem dX4_stripe_35 : decode cX4_stripe 35 = .ok (.ifCond .le 7, 3) := by decide +kernel
theorem dX4_stripe_38 : decode cX4_stripe 38 = .ok (.iconst 2, 1) := by decide +kernel
theorem dX4_stripe_39 : decode cX4_stripe 39 = .ok (.goto 4, 3) := by decide +kernel
theorem dX4_stripe_42 : decode cX4_stripe 42 = .ok (.iconst 1, 1) := by decide +kernel
theorem dX4_stripe_43 : decode cX4_stripe 43 = .ok (.ireturn, 1) := by decide +kernel
theorem dX4_word_0 : decode cX4_word 0 = .ok (.aload_n 0, 1) := by decide +kernel
theorem dX4_word_1 : decode cX4_word 1 = .ok (.iconst 0, 1) := by decide +kernel
theorem dX4_word_2 : decode cX4_word 2 = .ok (.putfield 49, 3) := by decide +kernel
theorem dX4_word_5 : decode cX4_word 5 = .ok (.aload_n 0, 1) := by decide +kernel
theorem dX4_word_6 : decode cX4_word 6 = .ok (.iload_n 1, 1) := by decide +kernel
theorem dX4_word_7 : decode cX4_word 7 = .ok (.invokevirtual 93, 3) := by decide +kernel
theorem dX4_word_10 : decode cX4_word 10 = .ok (.ifCond .eq 37, 3) := by decide +kernel
theorem dX4_word_13 : decode cX4_word 13 = .ok (.aload_n 0, 1) := by decide +kernel
theorem dX4_word_14 : decode cX4_word 14 = .ok (.iload_n 2, 1) := by decide +kernel
theorem dX4_word_15 : decode cX4_word 15 = .ok (.invokevirtual 102, 3) := by decide +kernel
theorem dX4_word_18 : decode cX4_word 18 = .ok (.ifCond .eq 29, 3) := by decide +kernel
theorem dX4_word_21 : decode cX4_word 21 = .ok (.iload_n 3, 1) := by decide +kernel
theorem dX4_word_22 : decode cX4_word 22 = .ok (.ifCond .lt 25, 3) := by decide +kernel
theorem dX4_word_25 : decode cX4_word 25 = .ok (.iload_n 3, 1) := by decide +kernel
theorem dX4_word_26 : decode cX4_word 26 = .ok (.aload_n 0, 1) := by decide +kernel
theorem dX4_word_27 : decode cX4_word 27 = .ok (.getfield 43, 3) := by decide +kernel
theorem dX4_word_30 : decode cX4_word 30 = .ok (.if_icmp .ge 17, 3) := by decide +kernel
theorem dX4_word_33 : decode cX4_word 33 = .ok (.aload_n 0, 1) := by decide +kernel
theorem dX4_word_34 : decode cX4_word 34 = .ok (.getfield 7, 3) := by decide +kernel
theorem dX4_word_37 : decode cX4_word 37 = .ok (.iload_n 2, 1) := by decide +kernel
theorem dX4_word_38 : decode cX4_word 38 = .ok (.iload_n 1, 1) := by decide +kernel
theorem dX4_word_39 : decode cX4_word 39 = .ok (.iload_n 3, 1) := by decide +kernel
theorem dX4_word_40 : decode cX4_word 40 = .ok (.invokestatic 59, 3) := by decide +kernel
theorem dX4_word_43 : decode cX4_word 43 = .ok (.iaload, 1) := by decide +kernel
theorem dX4_word_44 : decode cX4_word 44 = .ok (.goto 4, 3) := by decide +kernel
theorem dX4_word_47 : decode cX4_word 47 = .ok (.iconst 0, 1) := by decide +kernel
theorem dX4_word_48 : decode cX4_word 48 = .ok (.ireturn, 1) := by decide +kernel
