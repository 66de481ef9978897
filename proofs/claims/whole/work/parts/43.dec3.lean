theorem dX3_init_0 : decode cX3_init 0 = .ok (.aload_n 0, 1) := by decide +kernel
theorem dX3_init_1 : decode cX3_init 1 = .ok (.invokespecial 1, 3) := by decide +kernel
theorem dX3_init_4 : decode cX3_init 4 = .ok (.new 7, 3) := by decide +kernel
theorem dX3_init_7 : decode cX3_init 7 = .ok (.dup, 1) := by decide +kernel
theorem dX3_init_8 : decode cX3_init 8 = .ok (.iload_n 1, 1) := by decide +kernel
theorem dX3_init_9 : decode cX3_init 9 = .ok (.invokestatic 9, 3) := by decide +kernel
theorem dX3_init_12 : decode cX3_init 12 = .ok (.invokespecial 15, 3) := by decide +kernel
theorem dX3_init_15 : decode cX3_init 15 = .ok (.astore_n 3, 1) := by decide +kernel
theorem dX3_init_16 : decode cX3_init 16 = .ok (.iconst 1, 1) := by decide +kernel
theorem dX3_init_17 : decode cX3_init 17 = .ok (.iload_n 2, 1) := by decide +kernel
theorem dX3_init_18 : decode cX3_init 18 = .ok (.iconst 4, 1) := by decide +kernel
theorem dX3_init_19 : decode cX3_init 19 = .ok (.invokestatic 18, 3) := by decide +kernel
theorem dX3_init_22 : decode cX3_init 22 = .ok (.invokestatic 24, 3) := by decide +kernel
theorem dX3_init_25 : decode cX3_init 25 = .ok (.anewarray 27, 3) := by decide +kernel
theorem dX3_init_28 : decode cX3_init 28 = .ok (.astore 4, 2) := by decide +kernel
theorem dX3_init_30 : decode cX3_init 30 = .ok (.iconst 0, 1) := by decide +kernel
theorem dX3_init_31 : decode cX3_init 31 = .ok (.istore 5, 2) := by decide +kernel
theorem dX3_init_33 : decode cX3_init 33 = .ok (.iload 5, 2) := by decide +kernel
theorem dX3_init_35 : decode cX3_init 35 = .ok (.aload 4, 2) := by decide +kernel
theorem dX3_init_37 : decode cX3_init 37 = .ok (.arraylength, 1) := by decide +kernel
theorem dX3_init_38 : decode cX3_init 38 = .ok (.if_icmp .ge 22, 3) := by decide +kernel
theorem dX3_init_41 : decode cX3_init 41 = .ok (.aload 4, 2) := by decide +kernel
theorem dX3_init_43 : decode cX3_init 43 = .ok (.iload 5, 2) := by decide +kernel
theorem dX3_init_45 : decode cX3_init 45 = .ok (.new 27, 3) := by decide +kernel
theorem dX3_init_48 : decode cX3_init 48 = .ok (.dup, 1) := by decide +kernel
theorem dX3_init_49 : decode cX3_init 49 = .ok (.aload_n 3, 1) := by decide +kernel
theorem dX3_init_50 : decode cX3_init 50 = .ok (.invokespecial 29, 3) := by decide +kernel
theorem dX3_init_53 : decode cX3_init 53 = .ok (.aastore, 1) := by decide +kernel
theorem dX3_init_54 : decode cX3_init 54 = .ok (.iinc 5  1, 3) := by decide +kernel
theorem dX3_init_57 : decode cX3_init 57 = .ok (.goto (-24), 3) := by decide +kernel
theorem dX3_init_60 : decode cX3_init 60 = .ok (.aload_n 0, 1) := by decide +kernel
theorem dX3_init_61 : decode cX3_init 61 = .ok (.aload_n 3, 1) := by decide +kernel
theorem dX3_init_62 : decode cX3_init 62 = .ok (.putfield 32, 3) := by decide +kernel
theorem dX3_init_65 : decode cX3_init 65 = .ok (.aload_n 0, 1) := by decide +kernel
theorem dX3_init_66 : decode cX3_init 66 = .ok (.aload 4, 2) := by decide +kernel
theorem dX3_init_68 : decode cX3_init 68 = .ok (.putfield 36, 3) := by decide +kernel
theorem dX3_init_71 : decode cX3_init 71 = .ok (.aload_n 0, 1) := by decide +kernel
theorem dX3_init_72 : decode cX3_init 72 = .ok (.aload_n 3, 1) := by decide +kernel
theorem dX3_init_73 : decode cX3_init 73 = .ok (.getfield 40, 3) := by decide +kernel
theorem dX3_init_76 : decode cX3_init 76 = .ok (.newarray .boolean, 2) := by decide +kernel
theorem dX3_init_78 : decode cX3_init 78 = .ok (.putfield 44, 3) := by decide +kernel
theorem dX3_init_81 : decode cX3_init 81 = .ok (.aload_n 0, 1) := by decide +kernel
theorem dX3_init_82 : decode cX3_init 82 = .ok (.new 48, 3) := by decide +kernel
theorem dX3_init_85 : decode cX3_init 85 = .ok (.dup, 1) := by decide +kernel
theorem dX3_init_86 : decode cX3_init 86 = .ok (.aload_n 3, 1) := by decide +kernel
theorem dX3_init_87 : decode cX3_init 87 = .ok (.invokespecial 50, 3) := by decide +kernel
theorem dX3_init_90 : decode cX3_init 90 = .ok (.putfield 51, 3) := by decide +kernel
theorem dX3_init_93 : decode cX3_init 93 = .ok (.aload_n 0, 1) := by decide +kernel
theorem dX3_init_94 : decode cX3_init 94 = .ok (.iconst 1, 1) := by decide +kernel
theorem dX3_init_95 : decode cX3_init 95 = .ok (.putfield 55, 3) := by decide +kernel
theorem dX3_init_98 : decode cX3_init 98 = .ok (.aload_n 0, 1) := by decide +kernel
theorem dX3_init_99 : decode cX3_init 99 = .ok (.iconst (-1), 1) := by decide +kernel
theorem dX3_init_100 : decode cX3_init 100 = .ok (.putfield 59, 3) := by decide +kernel
theorem dX3_init_103 : decode cX3_init 103 = .ok (.return_, 1) := by decide +kernel
theorem dX3_count_0 : decode cX3_count 0 = .ok (.iload_n 1, 1) := by decide +kernel
theorem dX3_count_1 : decode cX3_count 1 = .ok (.tableswitch 73 0 4 #[35, 43, 49, 63, 68], 35) := by decide +kernel
theorem dX3_count_36 : decode cX3_count 36 = .ok (.aload_n 0, 1) := by decide +kernel
theorem dX3_count_37 : decode cX3_count 37 = .ok (.getfield 32, 3) := by decide +kernel
theorem dX3_count_40 : decode cX3_count 40 = .ok (.getfield 40, 3) := by decide +kernel
theorem dX3_count_43 : decode cX3_count 43 = .ok (.ireturn, 1) := by decide +kernel
theorem dX3_count_44 : decode cX3_count 44 = .ok (.aload_n 0, 1) := by decide +kernel
theorem dX3_count_45 : decode cX3_count 45 = .ok (.getfield 36, 3) := by decide +kernel
theorem dX3_count_48 : decode cX3_count 48 = .ok (.arraylength, 1) := by decide +kernel
theorem dX3_count_49 : decode cX3_count 49 = .ok (.ireturn, 1) := by decide +kernel
theorem dX3_count_50 : decode cX3_count 50 = .ok (.aload_n 0, 1) := by decide +kernel
theorem dX3_count_51 : decode cX3_count 51 = .ok (.getfield 36, 3) := by decide +kernel
theorem dX3_count_54 : decode cX3_count 54 = .ok (.arraylength, 1) := by decide +kernel
theorem dX3_count_55 : decode cX3_count 55 = .ok (.aload_n 0, 1) := by decide +kernel
theorem dX3_count_56 : decode cX3_count 56 = .ok (.getfield 32, 3) := by decide +kernel
theorem dX3_count_59 : decode cX3_count 59 = .ok (.getfield 62, 3) := by decide +kernel
theorem dX3_count_62 : decode cX3_count 62 = .ok (.imul, 1) := by decide +kernel
theorem dX3_count_63 : decode cX3_count 63 = .ok (.ireturn, 1) := by decide +kernel
theorem dX3_count_64 : decode cX3_count 64 = .ok (.aload_n 0, 1) := by decide +kernel
theorem dX3_count_65 : decode cX3_count 65 = .ok (.invokevirtual 65, 3) := by decide +kernel
theorem dX3_count_68 : decode cX3_count 68 = .ok (.ireturn, 1) := by decide +kernel
theorem dX3_count_69 : decode cX3_count 69 = .ok (.aload_n 0, 1) := by decide +kernel
theorem dX3_count_70 : decode cX3_count 70 = .ok (.invokevirtual 69, 3) := by decide +kernel
theorem dX3_count_73 : decode cX3_count 73 = .ok (.ireturn, 1) := by decide +kernel
theorem dX3_count_74 : decode cX3_count 74 = .ok (.iconst (-1), 1) := by decide +kernel
theorem dX3_count_75 : decode cX3_count 75 = .ok (.ireturn, 1) := by decide +kernel
theorem dX3_write_0 : decode cX3_write 0 = .ok (.aload_n 0, 1) := by decide +kernel
theorem dX3_write_1 : decode cX3_write 1 = .ok (.getfield 55, 3) := by decide +kernel
theorem dX3_write_4 : decode cX3_write 4 = .ok (.ifCond .eq 11, 3) := by decide +kernel
theorem dX3_write_7 : decode cX3_write 7 = .ok (.aload_n 0, 1) := by decide +kernel
theorem dX3_write_8 : decode cX3_write 8 = .ok (.iload_n 1, 1) := by decide +kernel
theorem dX3_write_9 : decode cX3_write 9 = .ok (.invokevirtual 72, 3) := by decide +kernel
theorem dX3_write_12 : decode cX3_write 12 = .ok (.ifCond .ne 5, 3) := by decide +kernel
theorem dX3_write_15 : decode cX3_write 15 = .ok (.iconst (-1), 1) := by decide +kernel
theorem dX3_write_16 : decode cX3_write 16 = .ok (.ireturn, 1) := by decide +kernel
theorem dX3_write_17 : decode cX3_write 17 = .ok (.aload_n 0, 1) := by decide +kernel
theorem dX3_write_18 : decode cX3_write 18 = .ok (.getfield 36, 3) := by decide +kernel
theorem dX3_write_21 : decode cX3_write 21 = .ok (.iload_n 1, 1) := by decide +kernel
theorem dX3_write_22 : decode cX3_write 22 = .ok (.aload_n 0, 1) := by decide +kernel
theorem dX3_write_23 : decode cX3_write 23 = .ok (.getfield 32, 3) := by decide +kernel
theorem dX3_write_26 : decode cX3_write 26 = .ok (.getfield 62, 3) := by decide +kernel
theorem dX3_write_29 : decode cX3_write 29 = .ok (.idiv, 1) := by decide +kernel
theorem dX3_write_30 : decode cX3_write 30 = .ok (.aaload, 1) := by decide +kernel
theorem dX3_write_31 : decode cX3_write 31 = .ok (.astore_n 3, 1) := by decide +kernel
theorem dX3_write_32 : decode cX3_write 32 = .ok (.aload_n 3, 1) := by decide +kernel
theorem dX3_write_33 : decode cX3_write 33 = .ok (.invokevirtual 76, 3) := by decide +kernel
theorem dX3_write_36 : decode cX3_write 36 = .ok (.ifCond .ne 11, 3) := by decide +kernel
theorem dX3_write_39 : decode cX3_write 39 = .ok (.aload_n 3, 1) := by decide +kernel
theorem dX3_write_40 : decode cX3_write 40 = .ok (.invokevirtual 80, 3) := by decide +kernel
theorem dX3_write_43 : decode cX3_write 43 = .ok (.iconst 2, 1) := by decide +kernel
theorem dX3_write_44 : decode cX3_write 44 = .ok (.if_icmp .le 5, 3) := by decide +kernel
theorem dX3_write_47 : decode cX3_write 47 = .ok (.iconst (-1), 1) := by decide +kernel
theorem dX3_write_48 : decode cX3_write 48 = .ok (.ireturn, 1) := by decide +kernel
theorem dX3_write_49 : decode cX3_write 49 = .ok (.aload_n 0, 1) := by decide +kernel
theorem dX3_write_50 : decode cX3_write 50 = .ok (.getfield 32, 3) := by decide +kernel
theorem dX3_write_53 : decode cX3_write 53 = .ok (.iload_n 1, 1) := by decide +kernel
theorem dX3_write_54 : decode cX3_write 54 = .ok (.invokevirtual 83, 3) := by decide +kernel
theorem dX3_write_57 : decode cX3_write 57 = .ok (.istore 4, 2) := by decide +kernel
theorem dX3_write_59 : decode cX3_write 59 = .ok (.aload_n 0, 1) := by decide +kernel
theorem dX3_write_60 : decode cX3_write 60 = .ok (.getfield 32, 3) := by decide +kernel
theorem dX3_write_63 : decode cX3_write 63 = .ok (.iload_n 1, 1) := by decide +kernel
theorem dX3_write_64 : decode cX3_write 64 = .ok (.invokevirtual 86, 3) := by decide +kernel
theorem dX3_write_67 : decode cX3_write 67 = .ok (.istore 5, 2) := by decide +kernel
theorem dX3_write_69 : decode cX3_write 69 = .ok (.aload_n 0, 1) := by decide +kernel
theorem dX3_write_70 : decode cX3_write 70 = .ok (.aload_n 3, 1) := by decide +kernel
theorem dX3_write_71 : decode cX3_write 71 = .ok (.iload 5, 2) := by decide +kernel
theorem dX3_write_73 : decode cX3_write 73 = .ok (.iload 4, 2) := by decide +kernel
theorem dX3_write_75 : decode cX3_write 75 = .ok (.invokevirtual 89, 3) := by decide +kernel
theorem dX3_write_78 : decode cX3_write 78 = .ok (.iload_n 2, 1) := by decide +kernel
theorem dX3_write_79 : decode cX3_write 79 = .ok (.ixor, 1) := by decide +kernel
theorem dX3_write_80 : decode cX3_write 80 = .ok (.istore 6, 2) := by decide +kernel
theorem dX3_write_82 : decode cX3_write 82 = .ok (.aload_n 3, 1) := by decide +kernel
theorem dX3_write_83 : decode cX3_write 83 = .ok (.iconst 1, 1) := by decide +kernel
theorem dX3_write_84 : decode cX3_write 84 = .ok (.putfield 93, 3) := by decide +kernel
theorem dX3_write_87 : decode cX3_write 87 = .ok (.aload_n 0, 1) := by decide +kernel
theorem dX3_write_88 : decode cX3_write 88 = .ok (.aload_n 3, 1) := by decide +kernel
theorem dX3_write_89 : decode cX3_write 89 = .ok (.iload 5, 2) := by decide +kernel
theorem dX3_write_91 : decode cX3_write 91 = .ok (.iload 4, 2) := by decide +kernel
theorem dX3_write_93 : decode cX3_write 93 = .ok (.iload_n 2, 1) := by decide +kernel
theorem dX3_write_94 : decode cX3_write 94 = .ok (.invokevirtual 96, 3) := by decide +kernel
theorem dX3_write_97 : decode cX3_write 97 = .ok (.ifCond .eq 49, 3) := by decide +kernel
theorem dX3_write_100 : decode cX3_write 100 = .ok (.aload_n 0, 1) := by decide +kernel
theorem dX3_write_101 : decode cX3_write 101 = .ok (.aload_n 3, 1) := by decide +kernel
theorem dX3_write_102 : decode cX3_write 102 = .ok (.iload 5, 2) := by decide +kernel
theorem dX3_write_104 : decode cX3_write 104 = .ok (.iload 4, 2) := by decide +kernel
theorem dX3_write_106 : decode cX3_write 106 = .ok (.aload_n 0, 1) := by decide +kernel
theorem dX3_write_107 : decode cX3_write 107 = .ok (.getfield 32, 3) := by decide +kernel
theorem dX3_write_110 : decode cX3_write 110 = .ok (.getfield 100, 3) := by decide +kernel
theorem dX3_write_113 : decode cX3_write 113 = .ok (.iload 6, 2) := by decide +kernel
theorem dX3_write_115 : decode cX3_write 115 = .ok (.invokevirtual 103, 3) := by decide +kernel
theorem dX3_write_118 : decode cX3_write 118 = .ok (.ifCond .eq 28, 3) := by decide +kernel
theorem dX3_write_121 : decode cX3_write 121 = .ok (.aload_n 0, 1) := by decide +kernel
theorem dX3_write_122 : decode cX3_write 122 = .ok (.aload_n 3, 1) := by decide +kernel
theorem dX3_write_123 : decode cX3_write 123 = .ok (.iload 5, 2) := by decide +kernel
theorem dX3_write_125 : decode cX3_write 125 = .ok (.iload 4, 2) := by decide +kernel
theorem dX3_write_127 : decode cX3_write 127 = .ok (.aload_n 0, 1) := by decide +kernel
theorem dX3_write_128 : decode cX3_write 128 = .ok (.getfield 32, 3) := by decide +kernel
theorem dX3_write_131 : decode cX3_write 131 = .ok (.getfield 107, 3) := by decide +kernel
theorem dX3_write_134 : decode cX3_write 134 = .ok (.iload 6, 2) := by decide +kernel
theorem dX3_write_136 : decode cX3_write 136 = .ok (.invokevirtual 103, 3) := by decide +kernel
theorem dX3_write_139 : decode cX3_write 139 = .ok (.ifCond .eq 7, 3) := by decide +kernel
theorem dX3_write_142 : decode cX3_write 142 = .ok (.iconst 1, 1) := by decide +kernel
theorem dX3_write_143 : decode cX3_write 143 = .ok (.goto 4, 3) := by decide +kernel
theorem dX3_write_146 : decode cX3_write 146 = .ok (.iconst 0, 1) := by decide +kernel
theorem dX3_write_147 : decode cX3_write 147 = .ok (.istore 7, 2) := by decide +kernel
theorem dX3_write_149 : decode cX3_write 149 = .ok (.iload 7, 2) := by decide +kernel
theorem dX3_write_151 : decode cX3_write 151 = .ok (.ifCond .ne 5, 3) := by decide +kernel
theorem dX3_write_154 : decode cX3_write 154 = .ok (.iconst 0, 1) := by decide +kernel
theorem dX3_write_155 : decode cX3_write 155 = .ok (.ireturn, 1) := by decide +kernel
theorem dX3_write_156 : decode cX3_write 156 = .ok (.aload_n 3, 1) := by decide +kernel
theorem dX3_write_157 : decode cX3_write 157 = .ok (.iconst 0, 1) := by decide +kernel
theorem dX3_write_158 : decode cX3_write 158 = .ok (.putfield 93, 3) := by decide +kernel
theorem dX3_write_161 : decode cX3_write 161 = .ok (.iconst 1, 1) := by decide +kernel
theorem dX3_write_162 : decode cX3_write 162 = .ok (.ireturn, 1) := by decide +kernel
theorem dX3_read_0 : decode cX3_read 0 = .ok (.aload_n 0, 1) := by decide +kernel
theorem dX3_read_1 : decode cX3_read 1 = .ok (.iload_n 1, 1) := by decide +kernel
theorem dX3_read_2 : decode cX3_read 2 = .ok (.invokevirtual 72, 3) := by decide +kernel
theorem dX3_read_5 : decode cX3_read 5 = .ok (.ifCond .ne 13, 3) := by decide +kernel
theorem dX3_read_8 : decode cX3_read 8 = .ok (.new 110, 3) := by decide +kernel
theorem dX3_read_11 : decode cX3_read 11 = .ok (.dup, 1) := by decide +kernel
theorem dX3_read_12 : decode cX3_read 12 = .ok (.ldc 112, 2) := by decide +kernel
theorem dX3_read_14 : decode cX3_read 14 = .ok (.invokespecial 114, 3) := by decide +kernel
theorem dX3_read_17 : decode cX3_read 17 = .ok (.athrow, 1) := by decide +kernel
theorem dX3_read_18 : decode cX3_read 18 = .ok (.aload_n 0, 1) := by decide +kernel
theorem dX3_read_19 : decode cX3_read 19 = .ok (.getfield 55, 3) := by decide +kernel
theorem dX3_read_22 : decode cX3_read 22 = .ok (.ifCond .ne 13, 3) := by decide +kernel
theorem dX3_read_25 : decode cX3_read 25 = .ok (.new 117, 3) := by decide +kernel
theorem dX3_read_28 : decode cX3_read 28 = .ok (.dup, 1) := by decide +kernel
theorem dX3_read_29 : decode cX3_read 29 = .ok (.ldc 119, 2) := by decide +kernel
theorem dX3_read_31 : decode cX3_read 31 = .ok (.invokespecial 121, 3) := by decide +kernel
theorem dX3_read_34 : decode cX3_read 34 = .ok (.athrow, 1) := by decide +kernel
theorem dX3_read_35 : decode cX3_read 35 = .ok (.aload_n 0, 1) := by decide +kernel
theorem dX3_read_36 : decode cX3_read 36 = .ok (.getfield 36, 3) := by decide +kernel
theorem dX3_read_39 : decode cX3_read 39 = .ok (.iload_n 1, 1) := by decide +kernel
theorem dX3_read_40 : decode cX3_read 40 = .ok (.aload_n 0, 1) := by decide +kernel
theorem dX3_read_41 : decode cX3_read 41 = .ok (.getfield 32, 3) := by decide +kernel
theorem dX3_read_44 : decode cX3_read 44 = .ok (.getfield 62, 3) := by decide +kernel
theorem dX3_read_47 : decode cX3_read 47 = .ok (.idiv, 1) := by decide +kernel
theorem dX3_read_48 : decode cX3_read 48 = .ok (.aaload, 1) := by decide +kernel
theorem dX3_read_49 : decode cX3_read 49 = .ok (.astore_n 2, 1) := by decide +kernel
theorem dX3_read_50 : decode cX3_read 50 = .ok (.aload_n 0, 1) := by decide +kernel
theorem dX3_read_51 : decode cX3_read 51 = .ok (.getfield 32, 3) := by decide +kernel
theorem dX3_read_54 : decode cX3_read 54 = .ok (.iload_n 1, 1) := by decide +kernel
theorem dX3_read_55 : decode cX3_read 55 = .ok (.invokevirtual 86, 3) := by decide +kernel
theorem dX3_read_58 : decode cX3_read 58 = .ok (.istore_n 3, 1) := by decide +kernel
theorem dX3_read_59 : decode cX3_read 59 = .ok (.aload_n 2, 1) := by decide +kernel
theorem dX3_read_60 : decode cX3_read 60 = .ok (.getfield 122, 3) := by decide +kernel
theorem dX3_read_63 : decode cX3_read 63 = .ok (.iload_n 3, 1) := by decide +kernel
theorem dX3_read_64 : decode cX3_read 64 = .ok (.baload, 1) := by decide +kernel
theorem dX3_read_65 : decode cX3_read 65 = .ok (.ifCond .eq 20, 3) := by decide +kernel
theorem dX3_read_68 : decode cX3_read 68 = .ok (.aload_n 2, 1) := by decide +kernel
theorem dX3_read_69 : decode cX3_read 69 = .ok (.invokevirtual 125, 3) := by decide +kernel
theorem dX3_read_72 : decode cX3_read 72 = .ok (.ifCond .ne 13, 3) := by decide +kernel
theorem dX3_read_75 : decode cX3_read 75 = .ok (.new 110, 3) := by decide +kernel
theorem dX3_read_78 : decode cX3_read 78 = .ok (.dup, 1) := by decide +kernel
theorem dX3_read_79 : decode cX3_read 79 = .ok (.ldc 128, 2) := by decide +kernel
theorem dX3_read_81 : decode cX3_read 81 = .ok (.invokespecial 114, 3) := by decide +kernel
theorem dX3_read_84 : decode cX3_read 84 = .ok (.athrow, 1) := by decide +kernel
theorem dX3_read_85 : decode cX3_read 85 = .ok (.aload_n 0, 1) := by decide +kernel
theorem dX3_read_86 : decode cX3_read 86 = .ok (.aload_n 2, 1) := by decide +kernel
theorem dX3_read_87 : decode cX3_read 87 = .ok (.iload_n 3, 1) := by decide +kernel
theorem dX3_read_88 : decode cX3_read 88 = .ok (.aload_n 0, 1) := by decide +kernel
theorem dX3_read_89 : decode cX3_read 89 = .ok (.getfield 32, 3) := by decide +kernel
theorem dX3_read_92 : decode cX3_read 92 = .ok (.iload_n 1, 1) := by decide +kernel
theorem dX3_read_93 : decode cX3_read 93 = .ok (.invokevirtual 83, 3) := by decide +kernel
theorem dX3_read_96 : decode cX3_read 96 = .ok (.invokevirtual 89, 3) := by decide +kernel
theorem dX3_read_99 : decode cX3_read 99 = .ok (.ireturn, 1) := by decide +kernel
theorem dX3_lose_0 : decode cX3_lose 0 = .ok (.aload_n 0, 1) := by decide +kernel
theorem dX3_lose_1 : decode cX3_lose 1 = .ok (.iload_n 1, 1) := by decide +kernel
theorem dX3_lose_2 : decode cX3_lose 2 = .ok (.invokevirtual 130, 3) := by decide +kernel
theorem dX3_lose_5 : decode cX3_lose 5 = .ok (.ifCond .eq 12, 3) := by decide +kernel
theorem dX3_lose_8 : decode cX3_lose 8 = .ok (.aload_n 0, 1) := by decide +kernel
theorem dX3_lose_9 : decode cX3_lose 9 = .ok (.getfield 44, 3) := by decide +kernel
theorem dX3_lose_12 : decode cX3_lose 12 = .ok (.iload_n 1, 1) := by decide +kernel
theorem dX3_lose_13 : decode cX3_lose 13 = .ok (.baload, 1) := by decide +kernel
theorem dX3_lose_14 : decode cX3_lose 14 = .ok (.ifCond .eq 5, 3) := by decide +kernel
theorem dX3_lose_17 : decode cX3_lose 17 = .ok (.iconst 0, 1) := by decide +kernel
theorem dX3_lose_18 : decode cX3_lose 18 = .ok (.ireturn, 1) := by decide +kernel
theorem dX3_lose_19 : decode cX3_lose 19 = .ok (.aload_n 0, 1) := by decide +kernel
theorem dX3_lose_20 : decode cX3_lose 20 = .ok (.getfield 44, 3) := by decide +kernel
theorem dX3_lose_23 : decode cX3_lose 23 = .ok (.iload_n 1, 1) := by decide +kernel
theorem dX3_lose_24 : decode cX3_lose 24 = .ok (.iconst 1, 1) := by decide +kernel
theorem dX3_lose_25 : decode cX3_lose 25 = .ok (.bastore, 1) := by decide +kernel
theorem dX3_lose_26 : decode cX3_lose 26 = .ok (.iconst 0, 1) := by decide +kernel
theorem dX3_lose_27 : decode cX3_lose 27 = .ok (.istore_n 2, 1) := by decide +kernel
theorem dX3_lose_28 : decode cX3_lose 28 = .ok (.iload_n 2, 1) := by decide +kernel
theorem dX3_lose_29 : decode cX3_lose 29 = .ok (.aload_n 0, 1) := by decide +kernel
theorem dX3_lose_30 : decode cX3_lose 30 = .ok (.getfield 36, 3) := by decide +kernel
theorem dX3_lose_33 : decode cX3_lose 33 = .ok (.arraylength, 1) := by decide +kernel
theorem dX3_lose_34 : decode cX3_lose 34 = .ok (.if_icmp .ge 19, 3) := by decide +kernel
theorem dX3_lose_37 : decode cX3_lose 37 = .ok (.aload_n 0, 1) := by decide +kernel
theorem dX3_lose_38 : decode cX3_lose 38 = .ok (.getfield 36, 3) := by decide +kernel
theorem dX3_lose_41 : decode cX3_lose 41 = .ok (.iload_n 2, 1) := by decide +kernel
theorem dX3_lose_42 : decode cX3_lose 42 = .ok (.aaload, 1) := by decide +kernel
theorem dX3_lose_43 : decode cX3_lose 43 = .ok (.iload_n 1, 1) := by decide +kernel
theorem dX3_lose_44 : decode cX3_lose 44 = .ok (.invokevirtual 133, 3) := by decide +kernel
theorem dX3_lose_47 : decode cX3_lose 47 = .ok (.iinc 2  1, 3) := by decide +kernel
theorem dX3_lose_50 : decode cX3_lose 50 = .ok (.goto (-22), 3) := by decide +kernel
theorem dX3_lose_53 : decode cX3_lose 53 = .ok (.iconst 1, 1) := by decide +kernel
theorem dX3_lose_54 : decode cX3_lose 54 = .ok (.ireturn, 1) := by decide +kernel
theorem dX3_replace_0 : decode cX3_replace 0 = .ok (.aload_n 0, 1) := by decide +kernel
theorem dX3_replace_1 : decode cX3_replace 1 = .ok (.getfield 55, 3) := by decide +kernel
theorem dX3_replace_4 : decode cX3_replace 4 = .ok (.ifCond .eq 20, 3) := by decide +kernel
theorem dX3_replace_7 : decode cX3_replace 7 = .ok (.aload_n 0, 1) := by decide +kernel
theorem dX3_replace_8 : decode cX3_replace 8 = .ok (.iload_n 1, 1) := by decide +kernel
theorem dX3_replace_9 : decode cX3_replace 9 = .ok (.invokevirtual 130, 3) := by decide +kernel
theorem dX3_replace_12 : decode cX3_replace 12 = .ok (.ifCond .eq 12, 3) := by decide +kernel
theorem dX3_replace_15 : decode cX3_replace 15 = .ok (.aload_n 0, 1) := by decide +kernel
theorem dX3_replace_16 : decode cX3_replace 16 = .ok (.getfield 44, 3) := by decide +kernel
theorem dX3_replace_19 : decode cX3_replace 19 = .ok (.iload_n 1, 1) := by decide +kernel
theorem dX3_replace_20 : decode cX3_replace 20 = .ok (.baload, 1) := by decide +kernel
theorem dX3_replace_21 : decode cX3_replace 21 = .ok (.ifCond .ne 5, 3) := by decide +kernel
theorem dX3_replace_24 : decode cX3_replace 24 = .ok (.iconst 0, 1) := by decide +kernel
theorem dX3_replace_25 : decode cX3_replace 25 = .ok (.ireturn, 1) := by decide +kernel
theorem dX3_replace_26 : decode cX3_replace 26 = .ok (.aload_n 0, 1) := by decide +kernel
theorem dX3_replace_27 : decode cX3_replace 27 = .ok (.getfield 44, 3) := by decide +kernel
theorem dX3_replace_30 : decode cX3_replace 30 = .ok (.iload_n 1, 1) := by decide +kernel
theorem dX3_replace_31 : decode cX3_replace 31 = .ok (.iconst 0, 1) := by decide +kernel
theorem dX3_replace_32 : decode cX3_replace 32 = .ok (.bastore, 1) := by decide +kernel
theorem dX3_replace_33 : decode cX3_replace 33 = .ok (.iconst 1, 1) := by decide +kernel
theorem dX3_replace_34 : decode cX3_replace 34 = .ok (.ireturn, 1) := by decide +kernel
theorem dX3_rebuild_0 : decode cX3_rebuild 0 = .ok (.aload_n 0, 1) := by decide +kernel
theorem dX3_rebuild_1 : decode cX3_rebuild 1 = .ok (.getfield 55, 3) := by decide +kernel
theorem dX3_rebuild_4 : decode cX3_rebuild 4 = .ok (.ifCond .ne 5, 3) := by decide +kernel
theorem dX3_rebuild_7 : decode cX3_rebuild 7 = .ok (.iconst (-1), 1) := by decide +kernel
theorem dX3_rebuild_8 : decode cX3_rebuild 8 = .ok (.ireturn, 1) := by decide +kernel
theorem dX3_rebuild_9 : decode cX3_rebuild 9 = .ok (.iconst 0, 1) := by decide +kernel
theorem dX3_rebuild_10 : decode cX3_rebuild 10 = .ok (.istore_n 2, 1) := by decide +kernel
theorem dX3_rebuild_11 : decode cX3_rebuild 11 = .ok (.iconst 0, 1) := by decide +kernel
theorem dX3_rebuild_12 : decode cX3_rebuild 12 = .ok (.istore_n 3, 1) := by decide +kernel
theorem dX3_rebuild_13 : decode cX3_rebuild 13 = .ok (.iload_n 3, 1) := by decide +kernel
theorem dX3_rebuild_14 : decode cX3_rebuild 14 = .ok (.aload_n 0, 1) := by decide +kernel
theorem dX3_rebuild_15 : decode cX3_rebuild 15 = .ok (.getfield 36, 3) := by decide +kernel
theorem dX3_rebuild_18 : decode cX3_rebuild 18 = .ok (.arraylength, 1) := by decide +kernel
theorem dX3_rebuild_19 : decode cX3_rebuild 19 = .ok (.if_icmp .ge 57, 3) := by decide +kernel
theorem dX3_rebuild_22 : decode cX3_rebuild 22 = .ok (.iload_n 2, 1) := by decide +kernel
theorem dX3_rebuild_23 : decode cX3_rebuild 23 = .ok (.iload_n 1, 1) := by decide +kernel
theorem dX3_rebuild_24 : decode cX3_rebuild 24 = .ok (.if_icmp .ge 52, 3) := by decide +kernel
theorem dX3_rebuild_27 : decode cX3_rebuild 27 = .ok (.aload_n 0, 1) := by decide +kernel
theorem dX3_rebuild_28 : decode cX3_rebuild 28 = .ok (.aload_n 0, 1) := by decide +kernel
theorem dX3_rebuild_29 : decode cX3_rebuild 29 = .ok (.getfield 36, 3) := by decide +kernel
theorem dX3_rebuild_32 : decode cX3_rebuild 32 = .ok (.iload_n 3, 1) := by decide +kernel
theorem dX3_rebuild_33 : decode cX3_rebuild 33 = .ok (.aaload, 1) := by decide +kernel
theorem dX3_rebuild_34 : decode cX3_rebuild 34 = .ok (.invokevirtual 136, 3) := by decide +kernel
theorem dX3_rebuild_37 : decode cX3_rebuild 37 = .ok (.ifCond .eq 33, 3) := by decide +kernel
theorem dX3_rebuild_40 : decode cX3_rebuild 40 = .ok (.aload_n 0, 1) := by decide +kernel
theorem dX3_rebuild_41 : decode cX3_rebuild 41 = .ok (.getfield 36, 3) := by decide +kernel
theorem dX3_rebuild_44 : decode cX3_rebuild 44 = .ok (.iload_n 3, 1) := by decide +kernel
theorem dX3_rebuild_45 : decode cX3_rebuild 45 = .ok (.aaload, 1) := by decide +kernel
theorem dX3_rebuild_46 : decode cX3_rebuild 46 = .ok (.invokevirtual 125, 3) := by decide +kernel
theorem dX3_rebuild_49 : decode cX3_rebuild 49 = .ok (.ifCond .eq 21, 3) := by decide +kernel
theorem dX3_rebuild_52 : decode cX3_rebuild 52 = .ok (.aload_n 0, 1) := by decide +kernel
theorem dX3_rebuild_53 : decode cX3_rebuild 53 = .ok (.aload_n 0, 1) := by decide +kernel
theorem dX3_rebuild_54 : decode cX3_rebuild 54 = .ok (.getfield 36, 3) := by decide +kernel
theorem dX3_rebuild_57 : decode cX3_rebuild 57 = .ok (.iload_n 3, 1) := by decide +kernel
theorem dX3_rebuild_58 : decode cX3_rebuild 58 = .ok (.aaload, 1) := by decide +kernel
theorem dX3_rebuild_59 : decode cX3_rebuild 59 = .ok (.invokevirtual 140, 3) := by decide +kernel
theorem dX3_rebuild_62 : decode cX3_rebuild 62 = .ok (.ifCond .ne 5, 3) := by decide +kernel
theorem dX3_rebuild_65 : decode cX3_rebuild 65 = .ok (.iload_n 2, 1) := by decide +kernel
theorem dX3_rebuild_66 : decode cX3_rebuild 66 = .ok (.ireturn, 1) := by decide +kernel
theorem dX3_rebuild_67 : decode cX3_rebuild 67 = .ok (.iinc 2  1, 3) := by decide +kernel
theorem dX3_rebuild_70 : decode cX3_rebuild 70 = .ok (.iinc 3  1, 3) := by decide +kernel
theorem dX3_rebuild_73 : decode cX3_rebuild 73 = .ok (.goto (-60), 3) := by decide +kernel
theorem dX3_rebuild_76 : decode cX3_rebuild 76 = .ok (.iload_n 2, 1) := by decide +kernel
theorem dX3_rebuild_77 : decode cX3_rebuild 77 = .ok (.ireturn, 1) := by decide +kernel
theorem dX3_cut_0 : decode cX3_cut 0 = .ok (.aload_n 0, 1) := by decide +kernel
theorem dX3_cut_1 : decode cX3_cut 1 = .ok (.getfield 55, 3) := by decide +kernel
theorem dX3_cut_4 : decode cX3_cut 4 = .ok (.ifCond .eq 7, 3) := by decide +kernel
theorem dX3_cut_7 : decode cX3_cut 7 = .ok (.iload_n 1, 1) := by decide +kernel
theorem dX3_cut_8 : decode cX3_cut 8 = .ok (.ifCond .ge 5, 3) := by decide +kernel
theorem dX3_cut_11 : decode cX3_cut 11 = .ok (.iconst 0, 1) := by decide +kernel
theorem dX3_cut_12 : decode cX3_cut 12 = .ok (.ireturn, 1) := by decide +kernel
theorem dX3_cut_13 : decode cX3_cut 13 = .ok (.aload_n 0, 1) := by decide +kernel
theorem dX3_cut_14 : decode cX3_cut 14 = .ok (.iload_n 1, 1) := by decide +kernel
theorem dX3_cut_15 : decode cX3_cut 15 = .ok (.putfield 59, 3) := by decide +kernel
theorem dX3_cut_18 : decode cX3_cut 18 = .ok (.iconst 1, 1) := by decide +kernel
theorem dX3_cut_19 : decode cX3_cut 19 = .ok (.ireturn, 1) := by decide +kernel
theorem dX3_start_0 : decode cX3_start 0 = .ok (.aload_n 0, 1) := by decide +kernel
theorem dX3_start_1 : decode cX3_start 1 = .ok (.getfield 55, 3) := by decide +kernel
theorem dX3_start_4 : decode cX3_start 4 = .ok (.ifCond .eq 5, 3) := by decide +kernel
theorem dX3_start_7 : decode cX3_start 7 = .ok (.iconst (-1), 1) := by decide +kernel
theorem dX3_start_8 : decode cX3_start 8 = .ok (.ireturn, 1) := by decide +kernel
theorem dX3_start_9 : decode cX3_start 9 = .ok (.aload_n 0, 1) := by decide +kernel
theorem dX3_start_10 : decode cX3_start 10 = .ok (.iconst 1, 1) := by decide +kernel
theorem dX3_start_11 : decode cX3_start 11 = .ok (.putfield 55, 3) := by decide +kernel
theorem dX3_start_14 : decode cX3_start 14 = .ok (.aload_n 0, 1) := by decide +kernel
theorem dX3_start_15 : decode cX3_start 15 = .ok (.iconst (-1), 1) := by decide +kernel
theorem dX3_start_16 : decode cX3_start 16 = .ok (.putfield 59, 3) := by decide +kernel
theorem dX3_start_19 : decode cX3_start 19 = .ok (.iconst 0, 1) := by decide +kernel
theorem dX3_start_20 : decode cX3_start 20 = .ok (.istore_n 1, 1) := by decide +kernel
theorem dX3_start_21 : decode cX3_start 21 = .ok (.iconst 0, 1) := by decide +kernel
theorem dX3_start_22 : decode cX3_start 22 = .ok (.istore_n 2, 1) := by decide +kernel
theorem dX3_start_23 : decode cX3_start 23 = .ok (.iload_n 2, 1) := by decide +kernel
theorem dX3_start_24 : decode cX3_start 24 = .ok (.aload_n 0, 1) := by decide +kernel
theorem dX3_start_25 : decode cX3_start 25 = .ok (.getfield 36, 3) := by decide +kernel
theorem dX3_start_28 : decode cX3_start 28 = .ok (.arraylength, 1) := by decide +kernel
theorem dX3_start_29 : decode cX3_start 29 = .ok (.if_icmp .ge 42, 3) := by decide +kernel
theorem dX3_start_32 : decode cX3_start 32 = .ok (.aload_n 0, 1) := by decide +kernel
theorem dX3_start_33 : decode cX3_start 33 = .ok (.getfield 36, 3) := by decide +kernel
theorem dX3_start_36 : decode cX3_start 36 = .ok (.iload_n 2, 1) := by decide +kernel
theorem dX3_start_37 : decode cX3_start 37 = .ok (.aaload, 1) := by decide +kernel
theorem dX3_start_38 : decode cX3_start 38 = .ok (.astore_n 3, 1) := by decide +kernel
theorem dX3_start_39 : decode cX3_start 39 = .ok (.aload_n 3, 1) := by decide +kernel
theorem dX3_start_40 : decode cX3_start 40 = .ok (.getfield 93, 3) := by decide +kernel
theorem dX3_start_43 : decode cX3_start 43 = .ok (.ifCond .eq 22, 3) := by decide +kernel
theorem dX3_start_46 : decode cX3_start 46 = .ok (.aload_n 3, 1) := by decide +kernel
theorem dX3_start_47 : decode cX3_start 47 = .ok (.invokevirtual 76, 3) := by decide +kernel
theorem dX3_start_50 : decode cX3_start 50 = .ok (.ifCond .ne 15, 3) := by decide +kernel
theorem dX3_start_53 : decode cX3_start 53 = .ok (.aload_n 3, 1) := by decide +kernel
theorem dX3_start_54 : decode cX3_start 54 = .ok (.invokevirtual 143, 3) := by decide +kernel
theorem dX3_start_57 : decode cX3_start 57 = .ok (.aload_n 3, 1) := by decide +kernel
theorem dX3_start_58 : decode cX3_start 58 = .ok (.iconst 0, 1) := by decide +kernel
theorem dX3_start_59 : decode cX3_start 59 = .ok (.putfield 93, 3) := by decide +kernel
theorem dX3_start_62 : decode cX3_start 62 = .ok (.iinc 1  1, 3) := by decide +kernel
theorem dX3_start_65 : decode cX3_start 65 = .ok (.iinc 2  1, 3) := by decide +kernel
theorem dX3_start_68 : decode cX3_start 68 = .ok (.goto (-45), 3) := by decide +kernel
theorem dX3_start_71 : decode cX3_start 71 = .ok (.iload_n 1, 1) := by decide +kernel
theorem dX3_start_72 : decode cX3_start 72 = .ok (.ireturn, 1) := by decide +kernel
theorem dX3_on_0 : decode cX3_on 0 = .ok (.aload_n 0, 1) := by decide +kernel
theorem dX3_on_1 : decode cX3_on 1 = .ok (.getfield 55, 3) := by decide +kernel
theorem dX3_on_4 : decode cX3_on 4 = .ok (.ireturn, 1) := by decide +kernel
theorem dX3_drive_0 : decode cX3_drive 0 = .ok (.aload_n 0, 1) := by decide +kernel
theorem dX3_drive_1 : decode cX3_drive 1 = .ok (.iload_n 1, 1) := by decide +kernel
theorem dX3_drive_2 : decode cX3_drive 2 = .ok (.invokevirtual 130, 3) := by decide +kernel
theorem dX3_drive_5 : decode cX3_drive 5 = .ok (.ifCond .ne 5, 3) := by decide +kernel
theorem dX3_drive_8 : decode cX3_drive 8 = .ok (.iconst (-1), 1) := by decide +kernel
theorem dX3_drive_9 : decode cX3_drive 9 = .ok (.ireturn, 1) := by decide +kernel
theorem dX3_drive_10 : decode cX3_drive 10 = .ok (.aload_n 0, 1) := by decide +kernel
theorem dX3_drive_11 : decode cX3_drive 11 = .ok (.getfield 44, 3) := by decide +kernel
theorem dX3_drive_14 : decode cX3_drive 14 = .ok (.iload_n 1, 1) := by decide +kernel
theorem dX3_drive_15 : decode cX3_drive 15 = .ok (.baload, 1) := by decide +kernel
theorem dX3_drive_16 : decode cX3_drive 16 = .ok (.ifCond .eq 5, 3) := by decide +kernel
theorem dX3_drive_19 : decode cX3_drive 19 = .ok (.iconst 1, 1) := by decide +kernel
theorem dX3_drive_20 : decode cX3_drive 20 = .ok (.ireturn, 1) := by decide +kernel
theorem dX3_drive_21 : decode cX3_drive 21 = .ok (.aload_n 0, 1) := by decide +kernel
theorem dX3_drive_22 : decode cX3_drive 22 = .ok (.iload_n 1, 1) := by decide +kernel
theorem dX3_drive_23 : decode cX3_drive 23 = .ok (.invokevirtual 146, 3) := by decide +kernel
theorem dX3_drive_26 : decode cX3_drive 26 = .ok (.ifCond .eq 7, 3) := by decide +kernel
theorem dX3_drive_29 : decode cX3_drive 29 = .ok (.iconst 2, 1) := by decide +kernel
theorem dX3_drive_30 : decode cX3_drive 30 = .ok (.goto 4, 3) := by decide +kernel
theorem dX3_drive_33 : decode cX3_drive 33 = .ok (.iconst 0, 1) := by decide +kernel
theorem dX3_drive_34 : decode cX3_drive 34 = .ok (.ireturn, 1) := by decide +kernel
theorem dX3_stripe_0 : decode cX3_stripe 0 = .ok (.aload_n 0, 1) := by decide +kernel
theorem dX3_stripe_1 : decode cX3_stripe 1 = .ok (.iload_n 1, 1) := by decide +kernel
theorem dX3_stripe_2 : decode cX3_stripe 2 = .ok (.invokevirtual 149, 3) := by decide +kernel
theorem dX3_stripe_5 : decode cX3_stripe 5 = .ok (.ifCond .ne 5, 3) := by decide +kernel
theorem dX3_stripe_8 : decode cX3_stripe 8 = .ok (.iconst (-1), 1) := by decide +kernel
theorem dX3_stripe_9 : decode cX3_stripe 9 = .ok (.ireturn, 1) := by decide +kernel
theorem dX3_stripe_10 : decode cX3_stripe 10 = .ok (.aload_n 0, 1) := by decide +kernel
theorem dX3_stripe_11 : decode cX3_stripe 11 = .ok (.getfield 36, 3) := by decide +kernel
theorem dX3_stripe_14 : decode cX3_stripe 14 = .ok (.iload_n 1, 1) := by decide +kernel
theorem dX3_stripe_15 : decode cX3_stripe 15 = .ok (.aaload, 1) := by decide +kernel
theorem dX3_stripe_16 : decode cX3_stripe 16 = .ok (.invokevirtual 76, 3) := by decide +kernel
theorem dX3_stripe_19 : decode cX3_stripe 19 = .ok (.ifCond .eq 5, 3) := by decide +kernel
theorem dX3_stripe_22 : decode cX3_stripe 22 = .ok (.iconst 2, 1) := by decide +kernel
theorem dX3_stripe_23 : decode cX3_stripe 23 = .ok (.ireturn, 1) := by decide +kernel
theorem dX3_stripe_24 : decode cX3_stripe 24 = .ok (.aload_n 0, 1) := by decide +kernel
theorem dX3_stripe_25 : decode cX3_stripe 25 = .ok (.getfield 36, 3) := by decide +kernel
theorem dX3_stripe_28 : decode cX3_stripe 28 = .ok (.iload_n 1, 1) := by decide +kernel
theorem dX3_stripe_29 : decode cX3_stripe 29 = .ok (.aaload, 1) := by decide +kernel
theorem dX3_stripe_30 : decode cX3_stripe 30 = .ok (.getfield 93, 3) := by decide +kernel
theorem dX3_stripe_33 : decode cX3_stripe 33 = .ok (.ifCond .eq 7, 3) := by decide +kernel
theorem dX3_stripe_36 : decode cX3_stripe 36 = .ok (.iconst 1, 1) := by decide +kernel
theorem dX3_stripe_37 : decode cX3_stripe 37 = .ok (.goto 4, 3) := by decide +kernel
theorem dX3_stripe_40 : decode cX3_stripe 40 = .ok (.iconst 0, 1) := by decide +kernel
theorem dX3_stripe_41 : decode cX3_stripe 41 = .ok (.ireturn, 1) := by decide +kernel
theorem dX3_word_0 : decode cX3_word 0 = .ok (.aload_n 0, 1) := by decide +kernel
theorem dX3_word_1 : decode cX3_word 1 = .ok (.iload_n 1, 1) := by decide +kernel
theorem dX3_word_2 : decode cX3_word 2 = .ok (.invokevirtual 130, 3) := by decide +kernel
theorem dX3_word_5 : decode cX3_word 5 = .ok (.ifCond .eq 26, 3) := by decide +kernel
theorem dX3_word_8 : decode cX3_word 8 = .ok (.aload_n 0, 1) := by decide +kernel
theorem dX3_word_9 : decode cX3_word 9 = .ok (.iload_n 2, 1) := by decide +kernel
theorem dX3_word_10 : decode cX3_word 10 = .ok (.invokevirtual 149, 3) := by decide +kernel
theorem dX3_word_13 : decode cX3_word 13 = .ok (.ifCond .eq 18, 3) := by decide +kernel
theorem dX3_word_16 : decode cX3_word 16 = .ok (.iload_n 3, 1) := by decide +kernel
theorem dX3_word_17 : decode cX3_word 17 = .ok (.ifCond .lt 14, 3) := by decide +kernel
theorem dX3_word_20 : decode cX3_word 20 = .ok (.iload_n 3, 1) := by decide +kernel
theorem dX3_word_21 : decode cX3_word 21 = .ok (.aload_n 0, 1) := by decide +kernel
theorem dX3_word_22 : decode cX3_word 22 = .ok (.getfield 32, 3) := by decide +kernel
theorem dX3_word_25 : decode cX3_word 25 = .ok (.getfield 40, 3) := by decide +kernel
theorem dX3_word_28 : decode cX3_word 28 = .ok (.if_icmp .lt 5, 3) := by decide +kernel
theorem dX3_word_31 : decode cX3_word 31 = .ok (.iconst 0, 1) := by decide +kernel
theorem dX3_word_32 : decode cX3_word 32 = .ok (.ireturn, 1) := by decide +kernel
theorem dX3_word_33 : decode cX3_word 33 = .ok (.aload_n 0, 1) := by decide +kernel
theorem dX3_word_34 : decode cX3_word 34 = .ok (.getfield 36, 3) := by decide +kernel
theorem dX3_word_37 : decode cX3_word 37 = .ok (.iload_n 2, 1) := by decide +kernel
theorem dX3_word_38 : decode cX3_word 38 = .ok (.aaload, 1) := by decide +kernel
theorem dX3_word_39 : decode cX3_word 39 = .ok (.getfield 152, 3) := by decide +kernel
theorem dX3_word_42 : decode cX3_word 42 = .ok (.aload_n 0, 1) := by decide +kernel
theorem dX3_word_43 : decode cX3_word 43 = .ok (.getfield 32, 3) := by decide +kernel
theorem dX3_word_46 : decode cX3_word 46 = .ok (.iload_n 1, 1) := by decide +kernel
theorem dX3_word_47 : decode cX3_word 47 = .ok (.iload_n 3, 1) := by decide +kernel
theorem dX3_word_48 : decode cX3_word 48 = .ok (.invokevirtual 156, 3) := by decide +kernel
theorem dX3_word_51 : decode cX3_word 51 = .ok (.iaload, 1) := by decide +kernel
theorem dX3_word_52 : decode cX3_word 52 = .ok (.ireturn, 1) := by decide +kernel
theorem dX3_agree_0 : decode cX3_agree 0 = .ok (.aload_n 0, 1) := by decide +kernel
theorem dX3_agree_1 : decode cX3_agree 1 = .ok (.iload_n 1, 1) := by decide +kernel
theorem dX3_agree_2 : decode cX3_agree 2 = .ok (.invokevirtual 149, 3) := by decide +kernel
theorem dX3_agree_5 : decode cX3_agree 5 = .ok (.ifCond .eq 15, 3) := by decide +kernel
theorem dX3_agree_8 : decode cX3_agree 8 = .ok (.aload_n 0, 1) := by decide +kernel
theorem dX3_agree_9 : decode cX3_agree 9 = .ok (.getfield 36, 3) := by decide +kernel
theorem dX3_agree_12 : decode cX3_agree 12 = .ok (.iload_n 1, 1) := by decide +kernel
theorem dX3_agree_13 : decode cX3_agree 13 = .ok (.aaload, 1) := by decide +kernel
theorem dX3_agree_14 : decode cX3_agree 14 = .ok (.invokevirtual 159, 3) := by decide +kernel
theorem dX3_agree_17 : decode cX3_agree 17 = .ok (.goto 4, 3) := by decide +kernel
theorem dX3_agree_20 : decode cX3_agree 20 = .ok (.iconst (-1), 1) := by decide +kernel
theorem dX3_agree_21 : decode cX3_agree 21 = .ok (.ireturn, 1) := by decide +kernel
theorem dX3_nearestSize_0 : decode cX3_nearestSize 0 = .ok (.iconst 0, 1) := by decide +kernel
theorem dX3_nearestSize_1 : decode cX3_nearestSize 1 = .ok (.istore_n 1, 1) := by decide +kernel
theorem dX3_nearestSize_2 : decode cX3_nearestSize 2 = .ok (.iload_n 1, 1) := by decide +kernel
theorem dX3_nearestSize_3 : decode cX3_nearestSize 3 = .ok (.getstatic 162, 3) := by decide +kernel
theorem dX3_nearestSize_6 : decode cX3_nearestSize 6 = .ok (.arraylength, 1) := by decide +kernel
theorem dX3_nearestSize_7 : decode cX3_nearestSize 7 = .ok (.if_icmp .ge 24, 3) := by decide +kernel
theorem dX3_nearestSize_10 : decode cX3_nearestSize 10 = .ok (.getstatic 162, 3) := by decide +kernel
theorem dX3_nearestSize_13 : decode cX3_nearestSize 13 = .ok (.iload_n 1, 1) := by decide +kernel
theorem dX3_nearestSize_14 : decode cX3_nearestSize 14 = .ok (.iaload, 1) := by decide +kernel
theorem dX3_nearestSize_15 : decode cX3_nearestSize 15 = .ok (.iload_n 0, 1) := by decide +kernel
theorem dX3_nearestSize_16 : decode cX3_nearestSize 16 = .ok (.if_icmp .lt 9, 3) := by decide +kernel
theorem dX3_nearestSize_19 : decode cX3_nearestSize 19 = .ok (.getstatic 162, 3) := by decide +kernel
theorem dX3_nearestSize_22 : decode cX3_nearestSize 22 = .ok (.iload_n 1, 1) := by decide +kernel
theorem dX3_nearestSize_23 : decode cX3_nearestSize 23 = .ok (.iaload, 1) := by decide +kernel
theorem dX3_nearestSize_24 : decode cX3_nearestSize 24 = .ok (.ireturn, 1) := by decide +kernel
theorem dX3_nearestSize_25 : decode cX3_nearestSize 25 = .ok (.iinc 1  1, 3) := by decide +kernel
theorem dX3_nearestSize_28 : decode cX3_nearestSize 28 = .ok (.goto (-26), 3) := by decide +kernel
theorem dX3_nearestSize_31 : decode cX3_nearestSize 31 = .ok (.getstatic 162, 3) := by decide +kernel
theorem dX3_nearestSize_34 : decode cX3_nearestSize 34 = .ok (.getstatic 162, 3) := by decide +kernel
theorem dX3_nearestSize_37 : decode cX3_nearestSize 37 = .ok (.arraylength, 1) := by decide +kernel
theorem dX3_nearestSize_38 : decode cX3_nearestSize 38 = .ok (.iconst 1, 1) := by decide +kernel
theorem dX3_nearestSize_39 : decode cX3_nearestSize 39 = .ok (.isub, 1) := by decide +kernel
theorem dX3_nearestSize_40 : decode cX3_nearestSize 40 = .ok (.iaload, 1) := by decide +kernel
theorem dX3_nearestSize_41 : decode cX3_nearestSize 41 = .ok (.ireturn, 1) := by decide +kernel
theorem dX3_isBlock_0 : decode cX3_isBlock 0 = .ok (.iload_n 1, 1) := by decide +kernel
theorem dX3_isBlock_1 : decode cX3_isBlock 1 = .ok (.ifCond .lt 24, 3) := by decide +kernel
theorem dX3_isBlock_4 : decode cX3_isBlock 4 = .ok (.iload_n 1, 1) := by decide +kernel
theorem dX3_isBlock_5 : decode cX3_isBlock 5 = .ok (.aload_n 0, 1) := by decide +kernel
theorem dX3_isBlock_6 : decode cX3_isBlock 6 = .ok (.getfield 36, 3) := by decide +kernel
theorem dX3_isBlock_9 : decode cX3_isBlock 9 = .ok (.arraylength, 1) := by decide +kernel
theorem dX3_isBlock_10 : decode cX3_isBlock 10 = .ok (.aload_n 0, 1) := by decide +kernel
theorem dX3_isBlock_11 : decode cX3_isBlock 11 = .ok (.getfield 32, 3) := by decide +kernel
theorem dX3_isBlock_14 : decode cX3_isBlock 14 = .ok (.getfield 62, 3) := by decide +kernel
theorem dX3_isBlock_17 : decode cX3_isBlock 17 = .ok (.imul, 1) := by decide +kernel
theorem dX3_isBlock_18 : decode cX3_isBlock 18 = .ok (.if_icmp .ge 7, 3) := by decide +kernel
theorem dX3_isBlock_21 : decode cX3_isBlock 21 = .ok (.iconst 1, 1) := by decide +kernel
theorem dX3_isBlock_22 : decode cX3_isBlock 22 = .ok (.goto 4, 3) := by decide +kernel
theorem dX3_isBlock_25 : decode cX3_isBlock 25 = .ok (.iconst 0, 1) := by decide +kernel
theorem dX3_isBlock_26 : decode cX3_isBlock 26 = .ok (.ireturn, 1) := by decide +kernel
theorem dX3_isDrive_0 : decode cX3_isDrive 0 = .ok (.iload_n 1, 1) := by decide +kernel
theorem dX3_isDrive_1 : decode cX3_isDrive 1 = .ok (.ifCond .lt 18, 3) := by decide +kernel
theorem dX3_isDrive_4 : decode cX3_isDrive 4 = .ok (.iload_n 1, 1) := by decide +kernel
theorem dX3_isDrive_5 : decode cX3_isDrive 5 = .ok (.aload_n 0, 1) := by decide +kernel
theorem dX3_isDrive_6 : decode cX3_isDrive 6 = .ok (.getfield 32, 3) := by decide +kernel
theorem dX3_isDrive_9 : decode cX3_isDrive 9 = .ok (.getfield 40, 3) := by decide +kernel
theorem dX3_isDrive_12 : decode cX3_isDrive 12 = .ok (.if_icmp .ge 7, 3) := by decide +kernel
theorem dX3_isDrive_15 : decode cX3_isDrive 15 = .ok (.iconst 1, 1) := by decide +kernel
theorem dX3_isDrive_16 : decode cX3_isDrive 16 = .ok (.goto 4, 3) := by decide +kernel
theorem dX3_isDrive_19 : decode cX3_isDrive 19 = .ok (.iconst 0, 1) := by decide +kernel
theorem dX3_isDrive_20 : decode cX3_isDrive 20 = .ok (.ireturn, 1) := by decide +kernel
theorem dX3_isStripe_0 : decode cX3_isStripe 0 = .ok (.iload_n 1, 1) := by decide +kernel
theorem dX3_isStripe_1 : decode cX3_isStripe 1 = .ok (.ifCond .lt 16, 3) := by decide +kernel
theorem dX3_isStripe_4 : decode cX3_isStripe 4 = .ok (.iload_n 1, 1) := by decide +kernel
theorem dX3_isStripe_5 : decode cX3_isStripe 5 = .ok (.aload_n 0, 1) := by decide +kernel
theorem dX3_isStripe_6 : decode cX3_isStripe 6 = .ok (.getfield 36, 3) := by decide +kernel
theorem dX3_isStripe_9 : decode cX3_isStripe 9 = .ok (.arraylength, 1) := by decide +kernel
theorem dX3_isStripe_10 : decode cX3_isStripe 10 = .ok (.if_icmp .ge 7, 3) := by decide +kernel
theorem dX3_isStripe_13 : decode cX3_isStripe 13 = .ok (.iconst 1, 1) := by decide +kernel
theorem dX3_isStripe_14 : decode cX3_isStripe 14 = .ok (.goto 4, 3) := by decide +kernel
theorem dX3_isStripe_17 : decode cX3_isStripe 17 = .ok (.iconst 0, 1) := by decide +kernel
theorem dX3_isStripe_18 : decode cX3_isStripe 18 = .ok (.ireturn, 1) := by decide +kernel
theorem dX3_lostDrives_0 : decode cX3_lostDrives 0 = .ok (.iconst 0, 1) := by decide +kernel
theorem dX3_lostDrives_1 : decode cX3_lostDrives 1 = .ok (.istore_n 1, 1) := by decide +kernel
theorem dX3_lostDrives_2 : decode cX3_lostDrives 2 = .ok (.iconst 0, 1) := by decide +kernel
theorem dX3_lostDrives_3 : decode cX3_lostDrives 3 = .ok (.istore_n 2, 1) := by decide +kernel
theorem dX3_lostDrives_4 : decode cX3_lostDrives 4 = .ok (.iload_n 2, 1) := by decide +kernel
theorem dX3_lostDrives_5 : decode cX3_lostDrives 5 = .ok (.aload_n 0, 1) := by decide +kernel
theorem dX3_lostDrives_6 : decode cX3_lostDrives 6 = .ok (.getfield 32, 3) := by decide +kernel
theorem dX3_lostDrives_9 : decode cX3_lostDrives 9 = .ok (.getfield 40, 3) := by decide +kernel
theorem dX3_lostDrives_12 : decode cX3_lostDrives 12 = .ok (.if_icmp .ge 21, 3) := by decide +kernel
theorem dX3_lostDrives_15 : decode cX3_lostDrives 15 = .ok (.aload_n 0, 1) := by decide +kernel
theorem dX3_lostDrives_16 : decode cX3_lostDrives 16 = .ok (.getfield 44, 3) := by decide +kernel
theorem dX3_lostDrives_19 : decode cX3_lostDrives 19 = .ok (.iload_n 2, 1) := by decide +kernel
theorem dX3_lostDrives_20 : decode cX3_lostDrives 20 = .ok (.baload, 1) := by decide +kernel
theorem dX3_lostDrives_21 : decode cX3_lostDrives 21 = .ok (.ifCond .eq 6, 3) := by decide +kernel
theorem dX3_lostDrives_24 : decode cX3_lostDrives 24 = .ok (.iinc 1  1, 3) := by decide +kernel
theorem dX3_lostDrives_27 : decode cX3_lostDrives 27 = .ok (.iinc 2  1, 3) := by decide +kernel
theorem dX3_lostDrives_30 : decode cX3_lostDrives 30 = .ok (.goto (-26), 3) := by decide +kernel
theorem dX3_lostDrives_33 : decode cX3_lostDrives 33 = .ok (.iload_n 1, 1) := by decide +kernel
theorem dX3_lostDrives_34 : decode cX3_lostDrives 34 = .ok (.ireturn, 1) := by decide +kernel
theorem dX3_incompleteDrives_0 : decode cX3_incompleteDrives 0 = .ok (.iconst 0, 1) := by decide +kernel
theorem dX3_incompleteDrives_1 : decode cX3_incompleteDrives 1 = .ok (.istore_n 1, 1) := by decide +kernel
theorem dX3_incompleteDrives_2 : decode cX3_incompleteDrives 2 = .ok (.iconst 0, 1) := by decide +kernel
theorem dX3_incompleteDrives_3 : decode cX3_incompleteDrives 3 = .ok (.istore_n 2, 1) := by decide +kernel
theorem dX3_incompleteDrives_4 : decode cX3_incompleteDrives 4 = .ok (.iload_n 2, 1) := by decide +kernel
theorem dX3_incompleteDrives_5 : decode cX3_incompleteDrives 5 = .ok (.aload_n 0, 1) := by decide +kernel
theorem dX3_incompleteDrives_6 : decode cX3_incompleteDrives 6 = .ok (.getfield 32, 3) := by decide +kernel
theorem dX3_incompleteDrives_9 : decode cX3_incompleteDrives 9 = .ok (.getfield 40, 3) := by decide +kernel
theorem dX3_incompleteDrives_12 : decode cX3_incompleteDrives 12 = .ok (.if_icmp .ge 20, 3) := by decide +kernel
theorem dX3_incompleteDrives_15 : decode cX3_incompleteDrives 15 = .ok (.aload_n 0, 1) := by decide +kernel
theorem dX3_incompleteDrives_16 : decode cX3_incompleteDrives 16 = .ok (.iload_n 2, 1) := by decide +kernel
theorem dX3_incompleteDrives_17 : decode cX3_incompleteDrives 17 = .ok (.invokevirtual 146, 3) := by decide +kernel
theorem dX3_incompleteDrives_20 : decode cX3_incompleteDrives 20 = .ok (.ifCond .eq 6, 3) := by decide +kernel
theorem dX3_incompleteDrives_23 : decode cX3_incompleteDrives 23 = .ok (.iinc 1  1, 3) := by decide +kernel
theorem dX3_incompleteDrives_26 : decode cX3_incompleteDrives 26 = .ok (.iinc 2  1, 3) := by decide +kernel
theorem dX3_incompleteDrives_29 : decode cX3_incompleteDrives 29 = .ok (.goto (-25), 3) := by decide +kernel
theorem dX3_incompleteDrives_32 : decode cX3_incompleteDrives 32 = .ok (.iload_n 1, 1) := by decide +kernel
theorem dX3_incompleteDrives_33 : decode cX3_incompleteDrives 33 = .ok (.ireturn, 1) := by decide +kernel
theorem dX3_missesSomeStripe_0 : decode cX3_missesSomeStripe 0 = .ok (.iconst 0, 1) := by decide +kernel
theorem dX3_missesSomeStripe_1 : decode cX3_missesSomeStripe 1 = .ok (.istore_n 2, 1) := by decide +kernel
theorem dX3_missesSomeStripe_2 : decode cX3_missesSomeStripe 2 = .ok (.iload_n 2, 1) := by decide +kernel
theorem dX3_missesSomeStripe_3 : decode cX3_missesSomeStripe 3 = .ok (.aload_n 0, 1) := by decide +kernel
theorem dX3_missesSomeStripe_4 : decode cX3_missesSomeStripe 4 = .ok (.getfield 36, 3) := by decide +kernel
theorem dX3_missesSomeStripe_7 : decode cX3_missesSomeStripe 7 = .ok (.arraylength, 1) := by decide +kernel
theorem dX3_missesSomeStripe_8 : decode cX3_missesSomeStripe 8 = .ok (.if_icmp .ge 25, 3) := by decide +kernel
theorem dX3_missesSomeStripe_11 : decode cX3_missesSomeStripe 11 = .ok (.aload_n 0, 1) := by decide +kernel
theorem dX3_missesSomeStripe_12 : decode cX3_missesSomeStripe 12 = .ok (.getfield 36, 3) := by decide +kernel
theorem dX3_missesSomeStripe_15 : decode cX3_missesSomeStripe 15 = .ok (.iload_n 2, 1) := by decide +kernel
theorem dX3_missesSomeStripe_16 : decode cX3_missesSomeStripe 16 = .ok (.aaload, 1) := by decide +kernel
theorem dX3_missesSomeStripe_17 : decode cX3_missesSomeStripe 17 = .ok (.getfield 122, 3) := by decide +kernel
theorem dX3_missesSomeStripe_20 : decode cX3_missesSomeStripe 20 = .ok (.iload_n 1, 1) := by decide +kernel
theorem dX3_missesSomeStripe_21 : decode cX3_missesSomeStripe 21 = .ok (.baload, 1) := by decide +kernel
theorem dX3_missesSomeStripe_22 : decode cX3_missesSomeStripe 22 = .ok (.ifCond .eq 5, 3) := by decide +kernel
theorem dX3_missesSomeStripe_25 : decode cX3_missesSomeStripe 25 = .ok (.iconst 1, 1) := by decide +kernel
theorem dX3_missesSomeStripe_26 : decode cX3_missesSomeStripe 26 = .ok (.ireturn, 1) := by decide +kernel
theorem dX3_missesSomeStripe_27 : decode cX3_missesSomeStripe 27 = .ok (.iinc 2  1, 3) := by decide +kernel
theorem dX3_missesSomeStripe_30 : decode cX3_missesSomeStripe 30 = .ok (.goto (-28), 3) := by decide +kernel
theorem dX3_missesSomeStripe_33 : decode cX3_missesSomeStripe 33 = .ok (.iconst 0, 1) := by decide +kernel
theorem dX3_missesSomeStripe_34 : decode cX3_missesSomeStripe 34 = .ok (.ireturn, 1) := by decide +kernel
theorem dX3_isNewIn_0 : decode cX3_isNewIn 0 = .ok (.aload_n 1, 1) := by decide +kernel
theorem dX3_isNewIn_1 : decode cX3_isNewIn 1 = .ok (.getfield 122, 3) := by decide +kernel
theorem dX3_isNewIn_4 : decode cX3_isNewIn 4 = .ok (.iload_n 2, 1) := by decide +kernel
theorem dX3_isNewIn_5 : decode cX3_isNewIn 5 = .ok (.baload, 1) := by decide +kernel
theorem dX3_isNewIn_6 : decode cX3_isNewIn 6 = .ok (.ifCond .eq 16, 3) := by decide +kernel
theorem dX3_isNewIn_9 : decode cX3_isNewIn 9 = .ok (.aload_n 0, 1) := by decide +kernel
theorem dX3_isNewIn_10 : decode cX3_isNewIn 10 = .ok (.getfield 44, 3) := by decide +kernel
theorem dX3_isNewIn_13 : decode cX3_isNewIn 13 = .ok (.iload_n 2, 1) := by decide +kernel
theorem dX3_isNewIn_14 : decode cX3_isNewIn 14 = .ok (.baload, 1) := by decide +kernel
theorem dX3_isNewIn_15 : decode cX3_isNewIn 15 = .ok (.ifCond .ne 7, 3) := by decide +kernel
theorem dX3_isNewIn_18 : decode cX3_isNewIn 18 = .ok (.iconst 1, 1) := by decide +kernel
theorem dX3_isNewIn_19 : decode cX3_isNewIn 19 = .ok (.goto 4, 3) := by decide +kernel
theorem dX3_isNewIn_22 : decode cX3_isNewIn 22 = .ok (.iconst 0, 1) := by decide +kernel
theorem dX3_isNewIn_23 : decode cX3_isNewIn 23 = .ok (.ireturn, 1) := by decide +kernel
theorem dX3_hasNewDrive_0 : decode cX3_hasNewDrive 0 = .ok (.iconst 0, 1) := by decide +kernel
theorem dX3_hasNewDrive_1 : decode cX3_hasNewDrive 1 = .ok (.istore_n 2, 1) := by decide +kernel
theorem dX3_hasNewDrive_2 : decode cX3_hasNewDrive 2 = .ok (.iload_n 2, 1) := by decide +kernel
theorem dX3_hasNewDrive_3 : decode cX3_hasNewDrive 3 = .ok (.aload_n 0, 1) := by decide +kernel
theorem dX3_hasNewDrive_4 : decode cX3_hasNewDrive 4 = .ok (.getfield 32, 3) := by decide +kernel
theorem dX3_hasNewDrive_7 : decode cX3_hasNewDrive 7 = .ok (.getfield 40, 3) := by decide +kernel
theorem dX3_hasNewDrive_10 : decode cX3_hasNewDrive 10 = .ok (.if_icmp .ge 20, 3) := by decide +kernel
theorem dX3_hasNewDrive_13 : decode cX3_hasNewDrive 13 = .ok (.aload_n 0, 1) := by decide +kernel
theorem dX3_hasNewDrive_14 : decode cX3_hasNewDrive 14 = .ok (.aload_n 1, 1) := by decide +kernel
theorem dX3_hasNewDrive_15 : decode cX3_hasNewDrive 15 = .ok (.iload_n 2, 1) := by decide +kernel
theorem dX3_hasNewDrive_16 : decode cX3_hasNewDrive 16 = .ok (.invokevirtual 165, 3) := by decide +kernel
theorem dX3_hasNewDrive_19 : decode cX3_hasNewDrive 19 = .ok (.ifCond .eq 5, 3) := by decide +kernel
theorem dX3_hasNewDrive_22 : decode cX3_hasNewDrive 22 = .ok (.iconst 1, 1) := by decide +kernel
theorem dX3_hasNewDrive_23 : decode cX3_hasNewDrive 23 = .ok (.ireturn, 1) := by decide +kernel
theorem dX3_hasNewDrive_24 : decode cX3_hasNewDrive 24 = .ok (.iinc 2  1, 3) := by decide +kernel
theorem dX3_hasNewDrive_27 : decode cX3_hasNewDrive 27 = .ok (.goto (-25), 3) := by decide +kernel
theorem dX3_hasNewDrive_30 : decode cX3_hasNewDrive 30 = .ok (.iconst 0, 1) := by decide +kernel
theorem dX3_hasNewDrive_31 : decode cX3_hasNewDrive 31 = .ok (.ireturn, 1) := by decide +kernel
theorem dX3_valueOf_0 : decode cX3_valueOf 0 = .ok (.aload_n 0, 1) := by decide +kernel
theorem dX3_valueOf_1 : decode cX3_valueOf 1 = .ok (.getfield 32, 3) := by decide +kernel
theorem dX3_valueOf_4 : decode cX3_valueOf 4 = .ok (.iload_n 2, 1) := by decide +kernel
theorem dX3_valueOf_5 : decode cX3_valueOf 5 = .ok (.iload_n 3, 1) := by decide +kernel
theorem dX3_valueOf_6 : decode cX3_valueOf 6 = .ok (.invokevirtual 156, 3) := by decide +kernel
theorem dX3_valueOf_9 : decode cX3_valueOf 9 = .ok (.istore 4, 2) := by decide +kernel
theorem dX3_valueOf_11 : decode cX3_valueOf 11 = .ok (.aload_n 1, 1) := by decide +kernel
theorem dX3_valueOf_12 : decode cX3_valueOf 12 = .ok (.getfield 122, 3) := by decide +kernel
theorem dX3_valueOf_15 : decode cX3_valueOf 15 = .ok (.iload_n 2, 1) := by decide +kernel
theorem dX3_valueOf_16 : decode cX3_valueOf 16 = .ok (.baload, 1) := by decide +kernel
theorem dX3_valueOf_17 : decode cX3_valueOf 17 = .ok (.ifCond .ne 11, 3) := by decide +kernel
theorem dX3_valueOf_20 : decode cX3_valueOf 20 = .ok (.aload_n 1, 1) := by decide +kernel
theorem dX3_valueOf_21 : decode cX3_valueOf 21 = .ok (.getfield 152, 3) := by decide +kernel
theorem dX3_valueOf_24 : decode cX3_valueOf 24 = .ok (.iload 4, 2) := by decide +kernel
theorem dX3_valueOf_26 : decode cX3_valueOf 26 = .ok (.iaload, 1) := by decide +kernel
theorem dX3_valueOf_27 : decode cX3_valueOf 27 = .ok (.ireturn, 1) := by decide +kernel
theorem dX3_valueOf_28 : decode cX3_valueOf 28 = .ok (.aload_n 0, 1) := by decide +kernel
theorem dX3_valueOf_29 : decode cX3_valueOf 29 = .ok (.getfield 51, 3) := by decide +kernel
theorem dX3_valueOf_32 : decode cX3_valueOf 32 = .ok (.aload_n 1, 1) := by decide +kernel
theorem dX3_valueOf_33 : decode cX3_valueOf 33 = .ok (.invokevirtual 169, 3) := by decide +kernel
theorem dX3_valueOf_36 : decode cX3_valueOf 36 = .ok (.aload_n 0, 1) := by decide +kernel
theorem dX3_valueOf_37 : decode cX3_valueOf 37 = .ok (.getfield 51, 3) := by decide +kernel
theorem dX3_valueOf_40 : decode cX3_valueOf 40 = .ok (.getfield 173, 3) := by decide +kernel
theorem dX3_valueOf_43 : decode cX3_valueOf 43 = .ok (.iload 4, 2) := by decide +kernel
theorem dX3_valueOf_45 : decode cX3_valueOf 45 = .ok (.iaload, 1) := by decide +kernel
theorem dX3_valueOf_46 : decode cX3_valueOf 46 = .ok (.ireturn, 1) := by decide +kernel
theorem dX3_takeTurn_0 : decode cX3_takeTurn 0 = .ok (.aload_n 0, 1) := by decide +kernel
theorem dX3_takeTurn_1 : decode cX3_takeTurn 1 = .ok (.getfield 59, 3) := by decide +kernel
theorem dX3_takeTurn_4 : decode cX3_takeTurn 4 = .ok (.ifCond .ne 10, 3) := by decide +kernel
theorem dX3_takeTurn_7 : decode cX3_takeTurn 7 = .ok (.aload_n 0, 1) := by decide +kernel
theorem dX3_takeTurn_8 : decode cX3_takeTurn 8 = .ok (.iconst 0, 1) := by decide +kernel
theorem dX3_takeTurn_9 : decode cX3_takeTurn 9 = .ok (.putfield 55, 3) := by decide +kernel
theorem dX3_takeTurn_12 : decode cX3_takeTurn 12 = .ok (.iconst 0, 1) := by decide +kernel
theorem dX3_takeTurn_13 : decode cX3_takeTurn 13 = .ok (.ireturn, 1) := by decide +kernel
theorem dX3_takeTurn_14 : decode cX3_takeTurn 14 = .ok (.aload_n 0, 1) := by decide +kernel
theorem dX3_takeTurn_15 : decode cX3_takeTurn 15 = .ok (.getfield 59, 3) := by decide +kernel
theorem dX3_takeTurn_18 : decode cX3_takeTurn 18 = .ok (.ifCond .le 13, 3) := by decide +kernel
theorem dX3_takeTurn_21 : decode cX3_takeTurn 21 = .ok (.aload_n 0, 1) := by decide +kernel
theorem dX3_takeTurn_22 : decode cX3_takeTurn 22 = .ok (.dup, 1) := by decide +kernel
theorem dX3_takeTurn_23 : decode cX3_takeTurn 23 = .ok (.getfield 59, 3) := by decide +kernel
theorem dX3_takeTurn_26 : decode cX3_takeTurn 26 = .ok (.iconst 1, 1) := by decide +kernel
theorem dX3_takeTurn_27 : decode cX3_takeTurn 27 = .ok (.isub, 1) := by decide +kernel
theorem dX3_takeTurn_28 : decode cX3_takeTurn 28 = .ok (.putfield 59, 3) := by decide +kernel
theorem dX3_takeTurn_31 : decode cX3_takeTurn 31 = .ok (.iconst 1, 1) := by decide +kernel
theorem dX3_takeTurn_32 : decode cX3_takeTurn 32 = .ok (.ireturn, 1) := by decide +kernel
theorem dX3_put_0 : decode cX3_put 0 = .ok (.aload_n 0, 1) := by decide +kernel
theorem dX3_put_1 : decode cX3_put 1 = .ok (.invokevirtual 174, 3) := by decide +kernel
theorem dX3_put_4 : decode cX3_put 4 = .ok (.ifCond .ne 5, 3) := by decide +kernel
theorem dX3_put_7 : decode cX3_put 7 = .ok (.iconst 0, 1) := by decide +kernel
theorem dX3_put_8 : decode cX3_put 8 = .ok (.ireturn, 1) := by decide +kernel
theorem dX3_put_9 : decode cX3_put 9 = .ok (.aload_n 1, 1) := by decide +kernel
theorem dX3_put_10 : decode cX3_put 10 = .ok (.getfield 152, 3) := by decide +kernel
theorem dX3_put_13 : decode cX3_put 13 = .ok (.aload_n 0, 1) := by decide +kernel
theorem dX3_put_14 : decode cX3_put 14 = .ok (.getfield 32, 3) := by decide +kernel
theorem dX3_put_17 : decode cX3_put 17 = .ok (.iload_n 2, 1) := by decide +kernel
theorem dX3_put_18 : decode cX3_put 18 = .ok (.iload_n 3, 1) := by decide +kernel
theorem dX3_put_19 : decode cX3_put 19 = .ok (.invokevirtual 156, 3) := by decide +kernel
theorem dX3_put_22 : decode cX3_put 22 = .ok (.iload 4, 2) := by decide +kernel
theorem dX3_put_24 : decode cX3_put 24 = .ok (.iastore, 1) := by decide +kernel
theorem dX3_put_25 : decode cX3_put 25 = .ok (.iconst 1, 1) := by decide +kernel
theorem dX3_put_26 : decode cX3_put 26 = .ok (.ireturn, 1) := by decide +kernel
theorem dX3_putIfPresent_0 : decode cX3_putIfPresent 0 = .ok (.aload_n 1, 1) := by decide +kernel
theorem dX3_putIfPresent_1 : decode cX3_putIfPresent 1 = .ok (.getfield 122, 3) := by decide +kernel
theorem dX3_putIfPresent_4 : decode cX3_putIfPresent 4 = .ok (.iload_n 2, 1) := by decide +kernel
theorem dX3_putIfPresent_5 : decode cX3_putIfPresent 5 = .ok (.baload, 1) := by decide +kernel
theorem dX3_putIfPresent_6 : decode cX3_putIfPresent 6 = .ok (.ifCond .ne 15, 3) := by decide +kernel
theorem dX3_putIfPresent_9 : decode cX3_putIfPresent 9 = .ok (.aload_n 0, 1) := by decide +kernel
theorem dX3_putIfPresent_10 : decode cX3_putIfPresent 10 = .ok (.aload_n 1, 1) := by decide +kernel
theorem dX3_putIfPresent_11 : decode cX3_putIfPresent 11 = .ok (.iload_n 2, 1) := by decide +kernel
theorem dX3_putIfPresent_12 : decode cX3_putIfPresent 12 = .ok (.iload_n 3, 1) := by decide +kernel
theorem dX3_putIfPresent_13 : decode cX3_putIfPresent 13 = .ok (.iload 4, 2) := by decide +kernel
theorem dX3_putIfPresent_15 : decode cX3_putIfPresent 15 = .ok (.invokevirtual 177, 3) := by decide +kernel
theorem dX3_putIfPresent_18 : decode cX3_putIfPresent 18 = .ok (.ifCond .eq 7, 3) := by decide +kernel
theorem dX3_putIfPresent_21 : decode cX3_putIfPresent 21 = .ok (.iconst 1, 1) := by decide +kernel
theorem dX3_putIfPresent_22 : decode cX3_putIfPresent 22 = .ok (.goto 4, 3) := by decide +kernel
theorem dX3_putIfPresent_25 : decode cX3_putIfPresent 25 = .ok (.iconst 0, 1) := by decide +kernel
theorem dX3_putIfPresent_26 : decode cX3_putIfPresent 26 = .ok (.ireturn, 1) := by decide +kernel
theorem dX3_changeParity_0 : decode cX3_changeParity 0 = .ok (.aload_n 0, 1) := by decide +kernel
theorem dX3_changeParity_1 : decode cX3_changeParity 1 = .ok (.getfield 32, 3) := by decide +kernel
theorem dX3_changeParity_4 : decode cX3_changeParity 4 = .ok (.iload_n 2, 1) := by decide +kernel
theorem dX3_changeParity_5 : decode cX3_changeParity 5 = .ok (.iload_n 3, 1) := by decide +kernel
theorem dX3_changeParity_6 : decode cX3_changeParity 6 = .ok (.iload 4, 2) := by decide +kernel
theorem dX3_changeParity_8 : decode cX3_changeParity 8 = .ok (.invokevirtual 180, 3) := by decide +kernel
theorem dX3_changeParity_11 : decode cX3_changeParity 11 = .ok (.istore 6, 2) := by decide +kernel
theorem dX3_changeParity_13 : decode cX3_changeParity 13 = .ok (.aload_n 0, 1) := by decide +kernel
theorem dX3_changeParity_14 : decode cX3_changeParity 14 = .ok (.aload_n 1, 1) := by decide +kernel
theorem dX3_changeParity_15 : decode cX3_changeParity 15 = .ok (.iload 6, 2) := by decide +kernel
theorem dX3_changeParity_17 : decode cX3_changeParity 17 = .ok (.iload 4, 2) := by decide +kernel
theorem dX3_changeParity_19 : decode cX3_changeParity 19 = .ok (.aload_n 1, 1) := by decide +kernel
theorem dX3_changeParity_20 : decode cX3_changeParity 20 = .ok (.getfield 152, 3) := by decide +kernel
theorem dX3_changeParity_23 : decode cX3_changeParity 23 = .ok (.aload_n 0, 1) := by decide +kernel
theorem dX3_changeParity_24 : decode cX3_changeParity 24 = .ok (.getfield 32, 3) := by decide +kernel
theorem dX3_changeParity_27 : decode cX3_changeParity 27 = .ok (.iload 6, 2) := by decide +kernel
theorem dX3_changeParity_29 : decode cX3_changeParity 29 = .ok (.iload 4, 2) := by decide +kernel
theorem dX3_changeParity_31 : decode cX3_changeParity 31 = .ok (.invokevirtual 156, 3) := by decide +kernel
theorem dX3_changeParity_34 : decode cX3_changeParity 34 = .ok (.iaload, 1) := by decide +kernel
theorem dX3_changeParity_35 : decode cX3_changeParity 35 = .ok (.iload 5, 2) := by decide +kernel
theorem dX3_changeParity_37 : decode cX3_changeParity 37 = .ok (.ixor, 1) := by decide +kernel
theorem dX3_changeParity_38 : decode cX3_changeParity 38 = .ok (.invokevirtual 96, 3) := by decide +kernel
theorem dX3_changeParity_41 : decode cX3_changeParity 41 = .ok (.ireturn, 1) := by decide +kernel
theorem dX3_rebuildStripe_0 : decode cX3_rebuildStripe 0 = .ok (.aload_n 0, 1) := by decide +kernel
theorem dX3_rebuildStripe_1 : decode cX3_rebuildStripe 1 = .ok (.getfield 51, 3) := by decide +kernel
theorem dX3_rebuildStripe_4 : decode cX3_rebuildStripe 4 = .ok (.aload_n 1, 1) := by decide +kernel
theorem dX3_rebuildStripe_5 : decode cX3_rebuildStripe 5 = .ok (.invokevirtual 169, 3) := by decide +kernel
theorem dX3_rebuildStripe_8 : decode cX3_rebuildStripe 8 = .ok (.iconst 0, 1) := by decide +kernel
theorem dX3_rebuildStripe_9 : decode cX3_rebuildStripe 9 = .ok (.istore_n 2, 1) := by decide +kernel
theorem dX3_rebuildStripe_10 : decode cX3_rebuildStripe 10 = .ok (.iload_n 2, 1) := by decide +kernel
theorem dX3_rebuildStripe_11 : decode cX3_rebuildStripe 11 = .ok (.aload_n 0, 1) := by decide +kernel
theorem dX3_rebuildStripe_12 : decode cX3_rebuildStripe 12 = .ok (.getfield 32, 3) := by decide +kernel
theorem dX3_rebuildStripe_15 : decode cX3_rebuildStripe 15 = .ok (.getfield 40, 3) := by decide +kernel
theorem dX3_rebuildStripe_18 : decode cX3_rebuildStripe 18 = .ok (.if_icmp .ge 29, 3) := by decide +kernel
theorem dX3_rebuildStripe_21 : decode cX3_rebuildStripe 21 = .ok (.aload_n 0, 1) := by decide +kernel
theorem dX3_rebuildStripe_22 : decode cX3_rebuildStripe 22 = .ok (.aload_n 1, 1) := by decide +kernel
theorem dX3_rebuildStripe_23 : decode cX3_rebuildStripe 23 = .ok (.iload_n 2, 1) := by decide +kernel
theorem dX3_rebuildStripe_24 : decode cX3_rebuildStripe 24 = .ok (.invokevirtual 165, 3) := by decide +kernel
theorem dX3_rebuildStripe_27 : decode cX3_rebuildStripe 27 = .ok (.ifCond .eq 14, 3) := by decide +kernel
theorem dX3_rebuildStripe_30 : decode cX3_rebuildStripe 30 = .ok (.aload_n 0, 1) := by decide +kernel
theorem dX3_rebuildStripe_31 : decode cX3_rebuildStripe 31 = .ok (.aload_n 1, 1) := by decide +kernel
theorem dX3_rebuildStripe_32 : decode cX3_rebuildStripe 32 = .ok (.iload_n 2, 1) := by decide +kernel
theorem dX3_rebuildStripe_33 : decode cX3_rebuildStripe 33 = .ok (.invokevirtual 184, 3) := by decide +kernel
theorem dX3_rebuildStripe_36 : decode cX3_rebuildStripe 36 = .ok (.ifCond .ne 5, 3) := by decide +kernel
theorem dX3_rebuildStripe_39 : decode cX3_rebuildStripe 39 = .ok (.iconst 0, 1) := by decide +kernel
theorem dX3_rebuildStripe_40 : decode cX3_rebuildStripe 40 = .ok (.ireturn, 1) := by decide +kernel
theorem dX3_rebuildStripe_41 : decode cX3_rebuildStripe 41 = .ok (.iinc 2  1, 3) := by decide +kernel
theorem dX3_rebuildStripe_44 : decode cX3_rebuildStripe 44 = .ok (.goto (-34), 3) := by decide +kernel
theorem dX3_rebuildStripe_47 : decode cX3_rebuildStripe 47 = .ok (.iconst 0, 1) := by decide +kernel
theorem dX3_rebuildStripe_48 : decode cX3_rebuildStripe 48 = .ok (.istore_n 2, 1) := by decide +kernel
theorem dX3_rebuildStripe_49 : decode cX3_rebuildStripe 49 = .ok (.iload_n 2, 1) := by decide +kernel
theorem dX3_rebuildStripe_50 : decode cX3_rebuildStripe 50 = .ok (.aload_n 0, 1) := by decide +kernel
theorem dX3_rebuildStripe_51 : decode cX3_rebuildStripe 51 = .ok (.getfield 32, 3) := by decide +kernel
theorem dX3_rebuildStripe_54 : decode cX3_rebuildStripe 54 = .ok (.getfield 40, 3) := by decide +kernel
theorem dX3_rebuildStripe_57 : decode cX3_rebuildStripe 57 = .ok (.if_icmp .ge 25, 3) := by decide +kernel
theorem dX3_rebuildStripe_60 : decode cX3_rebuildStripe 60 = .ok (.aload_n 0, 1) := by decide +kernel
theorem dX3_rebuildStripe_61 : decode cX3_rebuildStripe 61 = .ok (.aload_n 1, 1) := by decide +kernel
theorem dX3_rebuildStripe_62 : decode cX3_rebuildStripe 62 = .ok (.iload_n 2, 1) := by decide +kernel
theorem dX3_rebuildStripe_63 : decode cX3_rebuildStripe 63 = .ok (.invokevirtual 165, 3) := by decide +kernel
theorem dX3_rebuildStripe_66 : decode cX3_rebuildStripe 66 = .ok (.ifCond .eq 10, 3) := by decide +kernel
theorem dX3_rebuildStripe_69 : decode cX3_rebuildStripe 69 = .ok (.aload_n 1, 1) := by decide +kernel
theorem dX3_rebuildStripe_70 : decode cX3_rebuildStripe 70 = .ok (.getfield 122, 3) := by decide +kernel
theorem dX3_rebuildStripe_73 : decode cX3_rebuildStripe 73 = .ok (.iload_n 2, 1) := by decide +kernel
theorem dX3_rebuildStripe_74 : decode cX3_rebuildStripe 74 = .ok (.iconst 0, 1) := by decide +kernel
theorem dX3_rebuildStripe_75 : decode cX3_rebuildStripe 75 = .ok (.bastore, 1) := by decide +kernel
theorem dX3_rebuildStripe_76 : decode cX3_rebuildStripe 76 = .ok (.iinc 2  1, 3) := by decide +kernel
theorem dX3_rebuildStripe_79 : decode cX3_rebuildStripe 79 = .ok (.goto (-30), 3) := by decide +kernel
theorem dX3_rebuildStripe_82 : decode cX3_rebuildStripe 82 = .ok (.iconst 1, 1) := by decide +kernel
theorem dX3_rebuildStripe_83 : decode cX3_rebuildStripe 83 = .ok (.ireturn, 1) := by decide +kernel
theorem dX3_putDrive_0 : decode cX3_putDrive 0 = .ok (.iconst 0, 1) := by decide +kernel
theorem dX3_putDrive_1 : decode cX3_putDrive 1 = .ok (.istore_n 3, 1) := by decide +kernel
theorem dX3_putDrive_2 : decode cX3_putDrive 2 = .ok (.iload_n 3, 1) := by decide +kernel
theorem dX3_putDrive_3 : decode cX3_putDrive 3 = .ok (.aload_n 0, 1) := by decide +kernel
theorem dX3_putDrive_4 : decode cX3_putDrive 4 = .ok (.getfield 32, 3) := by decide +kernel
theorem dX3_putDrive_7 : decode cX3_putDrive 7 = .ok (.getfield 40, 3) := by decide +kernel
theorem dX3_putDrive_10 : decode cX3_putDrive 10 = .ok (.if_icmp .ge 38, 3) := by decide +kernel
theorem dX3_putDrive_13 : decode cX3_putDrive 13 = .ok (.aload_n 0, 1) := by decide +kernel
theorem dX3_putDrive_14 : decode cX3_putDrive 14 = .ok (.aload_n 1, 1) := by decide +kernel
theorem dX3_putDrive_15 : decode cX3_putDrive 15 = .ok (.iload_n 2, 1) := by decide +kernel
theorem dX3_putDrive_16 : decode cX3_putDrive 16 = .ok (.iload_n 3, 1) := by decide +kernel
theorem dX3_putDrive_17 : decode cX3_putDrive 17 = .ok (.aload_n 0, 1) := by decide +kernel
theorem dX3_putDrive_18 : decode cX3_putDrive 18 = .ok (.getfield 51, 3) := by decide +kernel
theorem dX3_putDrive_21 : decode cX3_putDrive 21 = .ok (.getfield 173, 3) := by decide +kernel
theorem dX3_putDrive_24 : decode cX3_putDrive 24 = .ok (.aload_n 0, 1) := by decide +kernel
theorem dX3_putDrive_25 : decode cX3_putDrive 25 = .ok (.getfield 32, 3) := by decide +kernel
theorem dX3_putDrive_28 : decode cX3_putDrive 28 = .ok (.iload_n 2, 1) := by decide +kernel
theorem dX3_putDrive_29 : decode cX3_putDrive 29 = .ok (.iload_n 3, 1) := by decide +kernel
theorem dX3_putDrive_30 : decode cX3_putDrive 30 = .ok (.invokevirtual 156, 3) := by decide +kernel
theorem dX3_putDrive_33 : decode cX3_putDrive 33 = .ok (.iaload, 1) := by decide +kernel
theorem dX3_putDrive_34 : decode cX3_putDrive 34 = .ok (.invokevirtual 177, 3) := by decide +kernel
theorem dX3_putDrive_37 : decode cX3_putDrive 37 = .ok (.ifCond .ne 5, 3) := by decide +kernel
theorem dX3_putDrive_40 : decode cX3_putDrive 40 = .ok (.iconst 0, 1) := by decide +kernel
theorem dX3_putDrive_41 : decode cX3_putDrive 41 = .ok (.ireturn, 1) := by decide +kernel
theorem dX3_putDrive_42 : decode cX3_putDrive 42 = .ok (.iinc 3  1, 3) := by decide +kernel
theorem dX3_putDrive_45 : decode cX3_putDrive 45 = .ok (.goto (-43), 3) := by decide +kernel
theorem dX3_putDrive_48 : decode cX3_putDrive 48 = .ok (.iconst 1, 1) := by decide +kernel
theorem dX3_putDrive_49 : decode cX3_putDrive 49 = .ok (.ireturn, 1) := by decide +kernel
