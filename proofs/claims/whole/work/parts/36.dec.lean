theorem dX0_init_0 : decode cX0_init 0 = .ok (.aload_n 0, 1) := by decide +kernel
theorem dX0_init_1 : decode cX0_init 1 = .ok (.invokespecial 1, 3) := by decide +kernel
theorem dX0_init_4 : decode cX0_init 4 = .ok (.aload_n 0, 1) := by decide +kernel
theorem dX0_init_5 : decode cX0_init 5 = .ok (.iload_n 1, 1) := by decide +kernel
theorem dX0_init_6 : decode cX0_init 6 = .ok (.putfield 7, 3) := by decide +kernel
theorem dX0_init_9 : decode cX0_init 9 = .ok (.aload_n 0, 1) := by decide +kernel
theorem dX0_init_10 : decode cX0_init 10 = .ok (.iload_n 1, 1) := by decide +kernel
theorem dX0_init_11 : decode cX0_init 11 = .ok (.iconst 2, 1) := by decide +kernel
theorem dX0_init_12 : decode cX0_init 12 = .ok (.isub, 1) := by decide +kernel
theorem dX0_init_13 : decode cX0_init 13 = .ok (.putfield 13, 3) := by decide +kernel
theorem dX0_init_16 : decode cX0_init 16 = .ok (.aload_n 0, 1) := by decide +kernel
theorem dX0_init_17 : decode cX0_init 17 = .ok (.iload_n 1, 1) := by decide +kernel
theorem dX0_init_18 : decode cX0_init 18 = .ok (.iconst 1, 1) := by decide +kernel
theorem dX0_init_19 : decode cX0_init 19 = .ok (.isub, 1) := by decide +kernel
theorem dX0_init_20 : decode cX0_init 20 = .ok (.putfield 16, 3) := by decide +kernel
theorem dX0_init_23 : decode cX0_init 23 = .ok (.aload_n 0, 1) := by decide +kernel
theorem dX0_init_24 : decode cX0_init 24 = .ok (.iload_n 1, 1) := by decide +kernel
theorem dX0_init_25 : decode cX0_init 25 = .ok (.iload_n 1, 1) := by decide +kernel
theorem dX0_init_26 : decode cX0_init 26 = .ok (.iconst 2, 1) := by decide +kernel
theorem dX0_init_27 : decode cX0_init 27 = .ok (.isub, 1) := by decide +kernel
theorem dX0_init_28 : decode cX0_init 28 = .ok (.imul, 1) := by decide +kernel
theorem dX0_init_29 : decode cX0_init 29 = .ok (.putfield 19, 3) := by decide +kernel
theorem dX0_init_32 : decode cX0_init 32 = .ok (.return_, 1) := by decide +kernel
theorem dX0_place_0 : decode cX0_place 0 = .ok (.iload_n 1, 1) := by decide +kernel
theorem dX0_place_1 : decode cX0_place 1 = .ok (.aload_n 0, 1) := by decide +kernel
theorem dX0_place_2 : decode cX0_place 2 = .ok (.getfield 7, 3) := by decide +kernel
theorem dX0_place_5 : decode cX0_place 5 = .ok (.imul, 1) := by decide +kernel
theorem dX0_place_6 : decode cX0_place 6 = .ok (.iload_n 2, 1) := by decide +kernel
theorem dX0_place_7 : decode cX0_place 7 = .ok (.iadd, 1) := by decide +kernel
theorem dX0_place_8 : decode cX0_place 8 = .ok (.ireturn, 1) := by decide +kernel
theorem dX0_driveOfBlock_0 : decode cX0_driveOfBlock 0 = .ok (.iload_n 1, 1) := by decide +kernel
theorem dX0_driveOfBlock_1 : decode cX0_driveOfBlock 1 = .ok (.aload_n 0, 1) := by decide +kernel
theorem dX0_driveOfBlock_2 : decode cX0_driveOfBlock 2 = .ok (.getfield 19, 3) := by decide +kernel
theorem dX0_driveOfBlock_5 : decode cX0_driveOfBlock 5 = .ok (.irem, 1) := by decide +kernel
theorem dX0_driveOfBlock_6 : decode cX0_driveOfBlock 6 = .ok (.aload_n 0, 1) := by decide +kernel
theorem dX0_driveOfBlock_7 : decode cX0_driveOfBlock 7 = .ok (.getfield 7, 3) := by decide +kernel
theorem dX0_driveOfBlock_10 : decode cX0_driveOfBlock 10 = .ok (.irem, 1) := by decide +kernel
theorem dX0_driveOfBlock_11 : decode cX0_driveOfBlock 11 = .ok (.ireturn, 1) := by decide +kernel
theorem dX0_wordOfBlock_0 : decode cX0_wordOfBlock 0 = .ok (.iload_n 1, 1) := by decide +kernel
theorem dX0_wordOfBlock_1 : decode cX0_wordOfBlock 1 = .ok (.aload_n 0, 1) := by decide +kernel
theorem dX0_wordOfBlock_2 : decode cX0_wordOfBlock 2 = .ok (.getfield 19, 3) := by decide +kernel
theorem dX0_wordOfBlock_5 : decode cX0_wordOfBlock 5 = .ok (.irem, 1) := by decide +kernel
theorem dX0_wordOfBlock_6 : decode cX0_wordOfBlock 6 = .ok (.aload_n 0, 1) := by decide +kernel
theorem dX0_wordOfBlock_7 : decode cX0_wordOfBlock 7 = .ok (.getfield 7, 3) := by decide +kernel
theorem dX0_wordOfBlock_10 : decode cX0_wordOfBlock 10 = .ok (.idiv, 1) := by decide +kernel
theorem dX0_wordOfBlock_11 : decode cX0_wordOfBlock 11 = .ok (.ireturn, 1) := by decide +kernel
theorem dX0_dataDrive_0 : decode cX0_dataDrive 0 = .ok (.iload_n 1, 1) := by decide +kernel
theorem dX0_dataDrive_1 : decode cX0_dataDrive 1 = .ok (.aload_n 0, 1) := by decide +kernel
theorem dX0_dataDrive_2 : decode cX0_dataDrive 2 = .ok (.iload_n 2, 1) := by decide +kernel
theorem dX0_dataDrive_3 : decode cX0_dataDrive 3 = .ok (.iload_n 3, 1) := by decide +kernel
theorem dX0_dataDrive_4 : decode cX0_dataDrive 4 = .ok (.invokevirtual 22, 3) := by decide +kernel
theorem dX0_dataDrive_7 : decode cX0_dataDrive 7 = .ok (.iadd, 1) := by decide +kernel
theorem dX0_dataDrive_8 : decode cX0_dataDrive 8 = .ok (.aload_n 0, 1) := by decide +kernel
theorem dX0_dataDrive_9 : decode cX0_dataDrive 9 = .ok (.getfield 7, 3) := by decide +kernel
theorem dX0_dataDrive_12 : decode cX0_dataDrive 12 = .ok (.invokestatic 26, 3) := by decide +kernel
theorem dX0_dataDrive_15 : decode cX0_dataDrive 15 = .ok (.ireturn, 1) := by decide +kernel
theorem dX0_parityDrive_0 : decode cX0_parityDrive 0 = .ok (.iload_n 1, 1) := by decide +kernel
theorem dX0_parityDrive_1 : decode cX0_parityDrive 1 = .ok (.aload_n 0, 1) := by decide +kernel
theorem dX0_parityDrive_2 : decode cX0_parityDrive 2 = .ok (.iload_n 2, 1) := by decide +kernel
theorem dX0_parityDrive_3 : decode cX0_parityDrive 3 = .ok (.iload_n 3, 1) := by decide +kernel
theorem dX0_parityDrive_4 : decode cX0_parityDrive 4 = .ok (.invokevirtual 22, 3) := by decide +kernel
theorem dX0_parityDrive_7 : decode cX0_parityDrive 7 = .ok (.isub, 1) := by decide +kernel
theorem dX0_parityDrive_8 : decode cX0_parityDrive 8 = .ok (.aload_n 0, 1) := by decide +kernel
theorem dX0_parityDrive_9 : decode cX0_parityDrive 9 = .ok (.getfield 7, 3) := by decide +kernel
theorem dX0_parityDrive_12 : decode cX0_parityDrive 12 = .ok (.invokestatic 26, 3) := by decide +kernel
theorem dX0_parityDrive_15 : decode cX0_parityDrive 15 = .ok (.ireturn, 1) := by decide +kernel
theorem dX0_step_0 : decode cX0_step 0 = .ok (.iload_n 2, 1) := by decide +kernel
theorem dX0_step_1 : decode cX0_step 1 = .ok (.aload_n 0, 1) := by decide +kernel
theorem dX0_step_2 : decode cX0_step 2 = .ok (.getfield 13, 3) := by decide +kernel
theorem dX0_step_5 : decode cX0_step 5 = .ok (.if_icmp .ne 9, 3) := by decide +kernel
theorem dX0_step_8 : decode cX0_step 8 = .ok (.iload_n 1, 1) := by decide +kernel
theorem dX0_step_9 : decode cX0_step 9 = .ok (.iconst 2, 1) := by decide +kernel
theorem dX0_step_10 : decode cX0_step 10 = .ok (.iadd, 1) := by decide +kernel
theorem dX0_step_11 : decode cX0_step 11 = .ok (.goto 7, 3) := by decide +kernel
theorem dX0_step_14 : decode cX0_step 14 = .ok (.iload_n 1, 1) := by decide +kernel
theorem dX0_step_15 : decode cX0_step 15 = .ok (.ineg, 1) := by decide +kernel
theorem dX0_step_16 : decode cX0_step 16 = .ok (.iconst 2, 1) := by decide +kernel
theorem dX0_step_17 : decode cX0_step 17 = .ok (.isub, 1) := by decide +kernel
theorem dX0_step_18 : decode cX0_step 18 = .ok (.ireturn, 1) := by decide +kernel
theorem dX1_init_0 : decode cX1_init 0 = .ok (.aload_n 0, 1) := by decide +kernel
theorem dX1_init_1 : decode cX1_init 1 = .ok (.invokespecial 3, 3) := by decide +kernel
theorem dX1_init_4 : decode cX1_init 4 = .ok (.aload_n 0, 1) := by decide +kernel
theorem dX1_init_5 : decode cX1_init 5 = .ok (.aload_n 1, 1) := by decide +kernel
theorem dX1_init_6 : decode cX1_init 6 = .ok (.putfield 9, 3) := by decide +kernel
theorem dX1_init_9 : decode cX1_init 9 = .ok (.aload_n 0, 1) := by decide +kernel
theorem dX1_init_10 : decode cX1_init 10 = .ok (.aload_n 1, 1) := by decide +kernel
theorem dX1_init_11 : decode cX1_init 11 = .ok (.getfield 15, 3) := by decide +kernel
theorem dX1_init_14 : decode cX1_init 14 = .ok (.aload_n 1, 1) := by decide +kernel
theorem dX1_init_15 : decode cX1_init 15 = .ok (.getfield 15, 3) := by decide +kernel
theorem dX1_init_18 : decode cX1_init 18 = .ok (.imul, 1) := by decide +kernel
theorem dX1_init_19 : decode cX1_init 19 = .ok (.newarray .int, 2) := by decide +kernel
theorem dX1_init_21 : decode cX1_init 21 = .ok (.putfield 21, 3) := by decide +kernel
theorem dX1_init_24 : decode cX1_init 24 = .ok (.aload_n 0, 1) := by decide +kernel
theorem dX1_init_25 : decode cX1_init 25 = .ok (.aload_n 1, 1) := by decide +kernel
theorem dX1_init_26 : decode cX1_init 26 = .ok (.getfield 15, 3) := by decide +kernel
theorem dX1_init_29 : decode cX1_init 29 = .ok (.newarray .boolean, 2) := by decide +kernel
theorem dX1_init_31 : decode cX1_init 31 = .ok (.putfield 25, 3) := by decide +kernel
theorem dX1_init_34 : decode cX1_init 34 = .ok (.return_, 1) := by decide +kernel
theorem dX1_missingDrives_0 : decode cX1_missingDrives 0 = .ok (.iconst 0, 1) := by decide +kernel
theorem dX1_missingDrives_1 : decode cX1_missingDrives 1 = .ok (.istore_n 1, 1) := by decide +kernel
theorem dX1_missingDrives_2 : decode cX1_missingDrives 2 = .ok (.iconst 0, 1) := by decide +kernel
theorem dX1_missingDrives_3 : decode cX1_missingDrives 3 = .ok (.istore_n 2, 1) := by decide +kernel
theorem dX1_missingDrives_4 : decode cX1_missingDrives 4 = .ok (.iload_n 2, 1) := by decide +kernel
theorem dX1_missingDrives_5 : decode cX1_missingDrives 5 = .ok (.aload_n 0, 1) := by decide +kernel
theorem dX1_missingDrives_6 : decode cX1_missingDrives 6 = .ok (.getfield 9, 3) := by decide +kernel
theorem dX1_missingDrives_9 : decode cX1_missingDrives 9 = .ok (.getfield 15, 3) := by decide +kernel
theorem dX1_missingDrives_12 : decode cX1_missingDrives 12 = .ok (.if_icmp .ge 21, 3) := by decide +kernel
theorem dX1_missingDrives_15 : decode cX1_missingDrives 15 = .ok (.aload_n 0, 1) := by decide +kernel
theorem dX1_missingDrives_16 : decode cX1_missingDrives 16 = .ok (.getfield 25, 3) := by decide +kernel
theorem dX1_missingDrives_19 : decode cX1_missingDrives 19 = .ok (.iload_n 2, 1) := by decide +kernel
theorem dX1_missingDrives_20 : decode cX1_missingDrives 20 = .ok (.baload, 1) := by decide +kernel
theorem dX1_missingDrives_21 : decode cX1_missingDrives 21 = .ok (.ifCond .eq 6, 3) := by decide +kernel
theorem dX1_missingDrives_24 : decode cX1_missingDrives 24 = .ok (.iinc 1  1, 3) := by decide +kernel
theorem dX1_missingDrives_27 : decode cX1_missingDrives 27 = .ok (.iinc 2  1, 3) := by decide +kernel
theorem dX1_missingDrives_30 : decode cX1_missingDrives 30 = .ok (.goto (-26), 3) := by decide +kernel
theorem dX1_missingDrives_33 : decode cX1_missingDrives 33 = .ok (.iload_n 1, 1) := by decide +kernel
theorem dX1_missingDrives_34 : decode cX1_missingDrives 34 = .ok (.ireturn, 1) := by decide +kernel
theorem dX1_isUnsure_0 : decode cX1_isUnsure 0 = .ok (.aload_n 0, 1) := by decide +kernel
theorem dX1_isUnsure_1 : decode cX1_isUnsure 1 = .ok (.getfield 29, 3) := by decide +kernel
theorem dX1_isUnsure_4 : decode cX1_isUnsure 4 = .ok (.ifCond .eq 14, 3) := by decide +kernel
theorem dX1_isUnsure_7 : decode cX1_isUnsure 7 = .ok (.aload_n 0, 1) := by decide +kernel
theorem dX1_isUnsure_8 : decode cX1_isUnsure 8 = .ok (.invokevirtual 33, 3) := by decide +kernel
theorem dX1_isUnsure_11 : decode cX1_isUnsure 11 = .ok (.ifCond .le 7, 3) := by decide +kernel
theorem dX1_isUnsure_14 : decode cX1_isUnsure 14 = .ok (.iconst 1, 1) := by decide +kernel
theorem dX1_isUnsure_15 : decode cX1_isUnsure 15 = .ok (.goto 4, 3) := by decide +kernel
theorem dX1_isUnsure_18 : decode cX1_isUnsure 18 = .ok (.iconst 0, 1) := by decide +kernel
theorem dX1_isUnsure_19 : decode cX1_isUnsure 19 = .ok (.ireturn, 1) := by decide +kernel
theorem dX1_isTold_0 : decode cX1_isTold 0 = .ok (.aload_n 0, 1) := by decide +kernel
theorem dX1_isTold_1 : decode cX1_isTold 1 = .ok (.getfield 29, 3) := by decide +kernel
theorem dX1_isTold_4 : decode cX1_isTold 4 = .ok (.ifCond .ne 15, 3) := by decide +kernel
theorem dX1_isTold_7 : decode cX1_isTold 7 = .ok (.aload_n 0, 1) := by decide +kernel
theorem dX1_isTold_8 : decode cX1_isTold 8 = .ok (.invokevirtual 33, 3) := by decide +kernel
theorem dX1_isTold_11 : decode cX1_isTold 11 = .ok (.iconst 2, 1) := by decide +kernel
theorem dX1_isTold_12 : decode cX1_isTold 12 = .ok (.if_icmp .gt 7, 3) := by decide +kernel
theorem dX1_isTold_15 : decode cX1_isTold 15 = .ok (.iconst 1, 1) := by decide +kernel
theorem dX1_isTold_16 : decode cX1_isTold 16 = .ok (.goto 4, 3) := by decide +kernel
theorem dX1_isTold_19 : decode cX1_isTold 19 = .ok (.iconst 0, 1) := by decide +kernel
theorem dX1_isTold_20 : decode cX1_isTold 20 = .ok (.ireturn, 1) := by decide +kernel
theorem dX1_drop_0 : decode cX1_drop 0 = .ok (.aload_n 0, 1) := by decide +kernel
theorem dX1_drop_1 : decode cX1_drop 1 = .ok (.getfield 25, 3) := by decide +kernel
theorem dX1_drop_4 : decode cX1_drop 4 = .ok (.iload_n 1, 1) := by decide +kernel
theorem dX1_drop_5 : decode cX1_drop 5 = .ok (.iconst 1, 1) := by decide +kernel
theorem dX1_drop_6 : decode cX1_drop 6 = .ok (.bastore, 1) := by decide +kernel
theorem dX1_drop_7 : decode cX1_drop 7 = .ok (.iconst 0, 1) := by decide +kernel
theorem dX1_drop_8 : decode cX1_drop 8 = .ok (.istore_n 2, 1) := by decide +kernel
theorem dX1_drop_9 : decode cX1_drop 9 = .ok (.iload_n 2, 1) := by decide +kernel
theorem dX1_drop_10 : decode cX1_drop 10 = .ok (.aload_n 0, 1) := by decide +kernel
theorem dX1_drop_11 : decode cX1_drop 11 = .ok (.getfield 9, 3) := by decide +kernel
theorem dX1_drop_14 : decode cX1_drop 14 = .ok (.getfield 15, 3) := by decide +kernel
theorem dX1_drop_17 : decode cX1_drop 17 = .ok (.if_icmp .ge 24, 3) := by decide +kernel
theorem dX1_drop_20 : decode cX1_drop 20 = .ok (.aload_n 0, 1) := by decide +kernel
theorem dX1_drop_21 : decode cX1_drop 21 = .ok (.getfield 21, 3) := by decide +kernel
theorem dX1_drop_24 : decode cX1_drop 24 = .ok (.aload_n 0, 1) := by decide +kernel
theorem dX1_drop_25 : decode cX1_drop 25 = .ok (.getfield 9, 3) := by decide +kernel
theorem dX1_drop_28 : decode cX1_drop 28 = .ok (.iload_n 1, 1) := by decide +kernel
theorem dX1_drop_29 : decode cX1_drop 29 = .ok (.iload_n 2, 1) := by decide +kernel
theorem dX1_drop_30 : decode cX1_drop 30 = .ok (.invokevirtual 37, 3) := by decide +kernel
theorem dX1_drop_33 : decode cX1_drop 33 = .ok (.iconst 0, 1) := by decide +kernel
theorem dX1_drop_34 : decode cX1_drop 34 = .ok (.iastore, 1) := by decide +kernel
theorem dX1_drop_35 : decode cX1_drop 35 = .ok (.iinc 2  1, 3) := by decide +kernel
theorem dX1_drop_38 : decode cX1_drop 38 = .ok (.goto (-29), 3) := by decide +kernel
theorem dX1_drop_41 : decode cX1_drop 41 = .ok (.return_, 1) := by decide +kernel
theorem dX1_renewParities_0 : decode cX1_renewParities 0 = .ok (.iconst 0, 1) := by decide +kernel
theorem dX1_renewParities_1 : decode cX1_renewParities 1 = .ok (.istore_n 1, 1) := by decide +kernel
theorem dX1_renewParities_2 : decode cX1_renewParities 2 = .ok (.iload_n 1, 1) := by decide +kernel
theorem dX1_renewParities_3 : decode cX1_renewParities 3 = .ok (.aload_n 0, 1) := by decide +kernel
theorem dX1_renewParities_4 : decode cX1_renewParities 4 = .ok (.getfield 9, 3) := by decide +kernel
theorem dX1_renewParities_7 : decode cX1_renewParities 7 = .ok (.getfield 15, 3) := by decide +kernel
theorem dX1_renewParities_10 : decode cX1_renewParities 10 = .ok (.if_icmp .ge 73, 3) := by decide +kernel
theorem dX1_renewParities_13 : decode cX1_renewParities 13 = .ok (.aload_n 0, 1) := by decide +kernel
theorem dX1_renewParities_14 : decode cX1_renewParities 14 = .ok (.getfield 21, 3) := by decide +kernel
theorem dX1_renewParities_17 : decode cX1_renewParities 17 = .ok (.aload_n 0, 1) := by decide +kernel
theorem dX1_renewParities_18 : decode cX1_renewParities 18 = .ok (.getfield 9, 3) := by decide +kernel
theorem dX1_renewParities_21 : decode cX1_renewParities 21 = .ok (.iload_n 1, 1) := by decide +kernel
theorem dX1_renewParities_22 : decode cX1_renewParities 22 = .ok (.aload_n 0, 1) := by decide +kernel
theorem dX1_renewParities_23 : decode cX1_renewParities 23 = .ok (.getfield 9, 3) := by decide +kernel
theorem dX1_renewParities_26 : decode cX1_renewParities 26 = .ok (.getfield 41, 3) := by decide +kernel
theorem dX1_renewParities_29 : decode cX1_renewParities 29 = .ok (.invokevirtual 37, 3) := by decide +kernel
theorem dX1_renewParities_32 : decode cX1_renewParities 32 = .ok (.aload_n 0, 1) := by decide +kernel
theorem dX1_renewParities_33 : decode cX1_renewParities 33 = .ok (.iload_n 1, 1) := by decide +kernel
theorem dX1_renewParities_34 : decode cX1_renewParities 34 = .ok (.aload_n 0, 1) := by decide +kernel
theorem dX1_renewParities_35 : decode cX1_renewParities 35 = .ok (.getfield 9, 3) := by decide +kernel
theorem dX1_renewParities_38 : decode cX1_renewParities 38 = .ok (.getfield 41, 3) := by decide +kernel
theorem dX1_renewParities_41 : decode cX1_renewParities 41 = .ok (.invokevirtual 44, 3) := by decide +kernel
theorem dX1_renewParities_44 : decode cX1_renewParities 44 = .ok (.iastore, 1) := by decide +kernel
theorem dX1_renewParities_45 : decode cX1_renewParities 45 = .ok (.aload_n 0, 1) := by decide +kernel
theorem dX1_renewParities_46 : decode cX1_renewParities 46 = .ok (.getfield 21, 3) := by decide +kernel
theorem dX1_renewParities_49 : decode cX1_renewParities 49 = .ok (.aload_n 0, 1) := by decide +kernel
theorem dX1_renewParities_50 : decode cX1_renewParities 50 = .ok (.getfield 9, 3) := by decide +kernel
theorem dX1_renewParities_53 : decode cX1_renewParities 53 = .ok (.iload_n 1, 1) := by decide +kernel
theorem dX1_renewParities_54 : decode cX1_renewParities 54 = .ok (.aload_n 0, 1) := by decide +kernel
theorem dX1_renewParities_55 : decode cX1_renewParities 55 = .ok (.getfield 9, 3) := by decide +kernel
theorem dX1_renewParities_58 : decode cX1_renewParities 58 = .ok (.getfield 47, 3) := by decide +kernel
theorem dX1_renewParities_61 : decode cX1_renewParities 61 = .ok (.invokevirtual 37, 3) := by decide +kernel
theorem dX1_renewParities_64 : decode cX1_renewParities 64 = .ok (.aload_n 0, 1) := by decide +kernel
theorem dX1_renewParities_65 : decode cX1_renewParities 65 = .ok (.iload_n 1, 1) := by decide +kernel
theorem dX1_renewParities_66 : decode cX1_renewParities 66 = .ok (.aload_n 0, 1) := by decide +kernel
theorem dX1_renewParities_67 : decode cX1_renewParities 67 = .ok (.getfield 9, 3) := by decide +kernel
theorem dX1_renewParities_70 : decode cX1_renewParities 70 = .ok (.getfield 47, 3) := by decide +kernel
theorem dX1_renewParities_73 : decode cX1_renewParities 73 = .ok (.invokevirtual 44, 3) := by decide +kernel
theorem dX1_renewParities_76 : decode cX1_renewParities 76 = .ok (.iastore, 1) := by decide +kernel
theorem dX1_renewParities_77 : decode cX1_renewParities 77 = .ok (.iinc 1  1, 3) := by decide +kernel
theorem dX1_renewParities_80 : decode cX1_renewParities 80 = .ok (.goto (-78), 3) := by decide +kernel
theorem dX1_renewParities_83 : decode cX1_renewParities 83 = .ok (.return_, 1) := by decide +kernel
theorem dX1_agreeingParities_0 : decode cX1_agreeingParities 0 = .ok (.iconst 0, 1) := by decide +kernel
theorem dX1_agreeingParities_1 : decode cX1_agreeingParities 1 = .ok (.istore_n 1, 1) := by decide +kernel
theorem dX1_agreeingParities_2 : decode cX1_agreeingParities 2 = .ok (.iconst 0, 1) := by decide +kernel
theorem dX1_agreeingParities_3 : decode cX1_agreeingParities 3 = .ok (.istore_n 2, 1) := by decide +kernel
theorem dX1_agreeingParities_4 : decode cX1_agreeingParities 4 = .ok (.iload_n 2, 1) := by decide +kernel
theorem dX1_agreeingParities_5 : decode cX1_agreeingParities 5 = .ok (.aload_n 0, 1) := by decide +kernel
theorem dX1_agreeingParities_6 : decode cX1_agreeingParities 6 = .ok (.getfield 9, 3) := by decide +kernel
theorem dX1_agreeingParities_9 : decode cX1_agreeingParities 9 = .ok (.getfield 15, 3) := by decide +kernel
theorem dX1_agreeingParities_12 : decode cX1_agreeingParities 12 = .ok (.if_icmp .ge 45, 3) := by decide +kernel
theorem dX1_agreeingParities_15 : decode cX1_agreeingParities 15 = .ok (.aload_n 0, 1) := by decide +kernel
theorem dX1_agreeingParities_16 : decode cX1_agreeingParities 16 = .ok (.iload_n 2, 1) := by decide +kernel
theorem dX1_agreeingParities_17 : decode cX1_agreeingParities 17 = .ok (.aload_n 0, 1) := by decide +kernel
theorem dX1_agreeingParities_18 : decode cX1_agreeingParities 18 = .ok (.getfield 9, 3) := by decide +kernel
theorem dX1_agreeingParities_21 : decode cX1_agreeingParities 21 = .ok (.getfield 41, 3) := by decide +kernel
theorem dX1_agreeingParities_24 : decode cX1_agreeingParities 24 = .ok (.invokevirtual 50, 3) := by decide +kernel
theorem dX1_agreeingParities_27 : decode cX1_agreeingParities 27 = .ok (.ifCond .eq 6, 3) := by decide +kernel
theorem dX1_agreeingParities_30 : decode cX1_agreeingParities 30 = .ok (.iinc 1  1, 3) := by decide +kernel
theorem dX1_agreeingParities_33 : decode cX1_agreeingParities 33 = .ok (.aload_n 0, 1) := by decide +kernel
theorem dX1_agreeingParities_34 : decode cX1_agreeingParities 34 = .ok (.iload_n 2, 1) := by decide +kernel
theorem dX1_agreeingParities_35 : decode cX1_agreeingParities 35 = .ok (.aload_n 0, 1) := by decide +kernel
theorem dX1_agreeingParities_36 : decode cX1_agreeingParities 36 = .ok (.getfield 9, 3) := by decide +kernel
theorem dX1_agreeingParities_39 : decode cX1_agreeingParities 39 = .ok (.getfield 47, 3) := by decide +kernel
theorem dX1_agreeingParities_42 : decode cX1_agreeingParities 42 = .ok (.invokevirtual 50, 3) := by decide +kernel
theorem dX1_agreeingParities_45 : decode cX1_agreeingParities 45 = .ok (.ifCond .eq 6, 3) := by decide +kernel
theorem dX1_agreeingParities_48 : decode cX1_agreeingParities 48 = .ok (.iinc 1  1, 3) := by decide +kernel
theorem dX1_agreeingParities_51 : decode cX1_agreeingParities 51 = .ok (.iinc 2  1, 3) := by decide +kernel
theorem dX1_agreeingParities_54 : decode cX1_agreeingParities 54 = .ok (.goto (-50), 3) := by decide +kernel
theorem dX1_agreeingParities_57 : decode cX1_agreeingParities 57 = .ok (.iload_n 1, 1) := by decide +kernel
theorem dX1_agreeingParities_58 : decode cX1_agreeingParities 58 = .ok (.ireturn, 1) := by decide +kernel
theorem dX1_agrees_0 : decode cX1_agrees 0 = .ok (.aload_n 0, 1) := by decide +kernel
theorem dX1_agrees_1 : decode cX1_agrees 1 = .ok (.iload_n 1, 1) := by decide +kernel
theorem dX1_agrees_2 : decode cX1_agrees 2 = .ok (.iload_n 2, 1) := by decide +kernel
theorem dX1_agrees_3 : decode cX1_agrees 3 = .ok (.invokevirtual 54, 3) := by decide +kernel
theorem dX1_agrees_6 : decode cX1_agrees 6 = .ok (.ifCond .eq 30, 3) := by decide +kernel
theorem dX1_agrees_9 : decode cX1_agrees 9 = .ok (.aload_n 0, 1) := by decide +kernel
theorem dX1_agrees_10 : decode cX1_agrees 10 = .ok (.getfield 21, 3) := by decide +kernel
theorem dX1_agrees_13 : decode cX1_agrees 13 = .ok (.aload_n 0, 1) := by decide +kernel
theorem dX1_agrees_14 : decode cX1_agrees 14 = .ok (.getfield 9, 3) := by decide +kernel
theorem dX1_agrees_17 : decode cX1_agrees 17 = .ok (.iload_n 1, 1) := by decide +kernel
theorem dX1_agrees_18 : decode cX1_agrees 18 = .ok (.iload_n 2, 1) := by decide +kernel
theorem dX1_agrees_19 : decode cX1_agrees 19 = .ok (.invokevirtual 37, 3) := by decide +kernel
theorem dX1_agrees_22 : decode cX1_agrees 22 = .ok (.iaload, 1) := by decide +kernel
theorem dX1_agrees_23 : decode cX1_agrees 23 = .ok (.aload_n 0, 1) := by decide +kernel
theorem dX1_agrees_24 : decode cX1_agrees 24 = .ok (.iload_n 1, 1) := by decide +kernel
theorem dX1_agrees_25 : decode cX1_agrees 25 = .ok (.iload_n 2, 1) := by decide +kernel
theorem dX1_agrees_26 : decode cX1_agrees 26 = .ok (.invokevirtual 44, 3) := by decide +kernel
theorem dX1_agrees_29 : decode cX1_agrees 29 = .ok (.if_icmp .ne 7, 3) := by decide +kernel
theorem dX1_agrees_32 : decode cX1_agrees 32 = .ok (.iconst 1, 1) := by decide +kernel
theorem dX1_agrees_33 : decode cX1_agrees 33 = .ok (.goto 4, 3) := by decide +kernel
theorem dX1_agrees_36 : decode cX1_agrees 36 = .ok (.iconst 0, 1) := by decide +kernel
theorem dX1_agrees_37 : decode cX1_agrees 37 = .ok (.ireturn, 1) := by decide +kernel
theorem dX1_isWhole_0 : decode cX1_isWhole 0 = .ok (.iconst 0, 1) := by decide +kernel
theorem dX1_isWhole_1 : decode cX1_isWhole 1 = .ok (.istore_n 3, 1) := by decide +kernel
theorem dX1_isWhole_2 : decode cX1_isWhole 2 = .ok (.iload_n 3, 1) := by decide +kernel
theorem dX1_isWhole_3 : decode cX1_isWhole 3 = .ok (.aload_n 0, 1) := by decide +kernel
theorem dX1_isWhole_4 : decode cX1_isWhole 4 = .ok (.getfield 9, 3) := by decide +kernel
theorem dX1_isWhole_7 : decode cX1_isWhole 7 = .ok (.getfield 41, 3) := by decide +kernel
theorem dX1_isWhole_10 : decode cX1_isWhole 10 = .ok (.if_icmp .ge 29, 3) := by decide +kernel
theorem dX1_isWhole_13 : decode cX1_isWhole 13 = .ok (.aload_n 0, 1) := by decide +kernel
theorem dX1_isWhole_14 : decode cX1_isWhole 14 = .ok (.getfield 25, 3) := by decide +kernel
theorem dX1_isWhole_17 : decode cX1_isWhole 17 = .ok (.aload_n 0, 1) := by decide +kernel
theorem dX1_isWhole_18 : decode cX1_isWhole 18 = .ok (.getfield 9, 3) := by decide +kernel
theorem dX1_isWhole_21 : decode cX1_isWhole 21 = .ok (.iload_n 1, 1) := by decide +kernel
theorem dX1_isWhole_22 : decode cX1_isWhole 22 = .ok (.iload_n 3, 1) := by decide +kernel
theorem dX1_isWhole_23 : decode cX1_isWhole 23 = .ok (.iload_n 2, 1) := by decide +kernel
theorem dX1_isWhole_24 : decode cX1_isWhole 24 = .ok (.invokevirtual 57, 3) := by decide +kernel
theorem dX1_isWhole_27 : decode cX1_isWhole 27 = .ok (.baload, 1) := by decide +kernel
theorem dX1_isWhole_28 : decode cX1_isWhole 28 = .ok (.ifCond .eq 5, 3) := by decide +kernel
theorem dX1_isWhole_31 : decode cX1_isWhole 31 = .ok (.iconst 0, 1) := by decide +kernel
theorem dX1_isWhole_32 : decode cX1_isWhole 32 = .ok (.ireturn, 1) := by decide +kernel
theorem dX1_isWhole_33 : decode cX1_isWhole 33 = .ok (.iinc 3  1, 3) := by decide +kernel
theorem dX1_isWhole_36 : decode cX1_isWhole 36 = .ok (.goto (-34), 3) := by decide +kernel
theorem dX1_isWhole_39 : decode cX1_isWhole 39 = .ok (.aload_n 0, 1) := by decide +kernel
theorem dX1_isWhole_40 : decode cX1_isWhole 40 = .ok (.getfield 25, 3) := by decide +kernel
theorem dX1_isWhole_43 : decode cX1_isWhole 43 = .ok (.iload_n 1, 1) := by decide +kernel
theorem dX1_isWhole_44 : decode cX1_isWhole 44 = .ok (.baload, 1) := by decide +kernel
theorem dX1_isWhole_45 : decode cX1_isWhole 45 = .ok (.ifCond .ne 7, 3) := by decide +kernel
theorem dX1_isWhole_48 : decode cX1_isWhole 48 = .ok (.iconst 1, 1) := by decide +kernel
theorem dX1_isWhole_49 : decode cX1_isWhole 49 = .ok (.goto 4, 3) := by decide +kernel
theorem dX1_isWhole_52 : decode cX1_isWhole 52 = .ok (.iconst 0, 1) := by decide +kernel
theorem dX1_isWhole_53 : decode cX1_isWhole 53 = .ok (.ireturn, 1) := by decide +kernel
theorem dX1_dataSum_0 : decode cX1_dataSum 0 = .ok (.iconst 0, 1) := by decide +kernel
theorem dX1_dataSum_1 : decode cX1_dataSum 1 = .ok (.istore_n 3, 1) := by decide +kernel
theorem dX1_dataSum_2 : decode cX1_dataSum 2 = .ok (.iconst 0, 1) := by decide +kernel
theorem dX1_dataSum_3 : decode cX1_dataSum 3 = .ok (.istore 4, 2) := by decide +kernel
theorem dX1_dataSum_5 : decode cX1_dataSum 5 = .ok (.iload 4, 2) := by decide +kernel
theorem dX1_dataSum_7 : decode cX1_dataSum 7 = .ok (.aload_n 0, 1) := by decide +kernel
theorem dX1_dataSum_8 : decode cX1_dataSum 8 = .ok (.getfield 9, 3) := by decide +kernel
theorem dX1_dataSum_11 : decode cX1_dataSum 11 = .ok (.getfield 41, 3) := by decide +kernel
theorem dX1_dataSum_14 : decode cX1_dataSum 14 = .ok (.if_icmp .ge 37, 3) := by decide +kernel
theorem dX1_dataSum_17 : decode cX1_dataSum 17 = .ok (.iload_n 3, 1) := by decide +kernel
theorem dX1_dataSum_18 : decode cX1_dataSum 18 = .ok (.aload_n 0, 1) := by decide +kernel
theorem dX1_dataSum_19 : decode cX1_dataSum 19 = .ok (.getfield 21, 3) := by decide +kernel
theorem dX1_dataSum_22 : decode cX1_dataSum 22 = .ok (.aload_n 0, 1) := by decide +kernel
theorem dX1_dataSum_23 : decode cX1_dataSum 23 = .ok (.getfield 9, 3) := by decide +kernel
theorem dX1_dataSum_26 : decode cX1_dataSum 26 = .ok (.aload_n 0, 1) := by decide +kernel
theorem dX1_dataSum_27 : decode cX1_dataSum 27 = .ok (.getfield 9, 3) := by decide +kernel
theorem dX1_dataSum_30 : decode cX1_dataSum 30 = .ok (.iload_n 1, 1) := by decide +kernel
theorem dX1_dataSum_31 : decode cX1_dataSum 31 = .ok (.iload 4, 2) := by decide +kernel
theorem dX1_dataSum_33 : decode cX1_dataSum 33 = .ok (.iload_n 2, 1) := by decide +kernel
theorem dX1_dataSum_34 : decode cX1_dataSum 34 = .ok (.invokevirtual 57, 3) := by decide +kernel
theorem dX1_dataSum_37 : decode cX1_dataSum 37 = .ok (.iload 4, 2) := by decide +kernel
theorem dX1_dataSum_39 : decode cX1_dataSum 39 = .ok (.invokevirtual 37, 3) := by decide +kernel
theorem dX1_dataSum_42 : decode cX1_dataSum 42 = .ok (.iaload, 1) := by decide +kernel
theorem dX1_dataSum_43 : decode cX1_dataSum 43 = .ok (.ixor, 1) := by decide +kernel
theorem dX1_dataSum_44 : decode cX1_dataSum 44 = .ok (.istore_n 3, 1) := by decide +kernel
theorem dX1_dataSum_45 : decode cX1_dataSum 45 = .ok (.iinc 4  1, 3) := by decide +kernel
theorem dX1_dataSum_48 : decode cX1_dataSum 48 = .ok (.goto (-43), 3) := by decide +kernel
theorem dX1_dataSum_51 : decode cX1_dataSum 51 = .ok (.iload_n 3, 1) := by decide +kernel
theorem dX1_dataSum_52 : decode cX1_dataSum 52 = .ok (.ireturn, 1) := by decide +kernel
theorem dX2_init_0 : decode cX2_init 0 = .ok (.aload_n 0, 1) := by decide +kernel
theorem dX2_init_1 : decode cX2_init 1 = .ok (.invokespecial 1, 3) := by decide +kernel
theorem dX2_init_4 : decode cX2_init 4 = .ok (.aload_n 0, 1) := by decide +kernel
theorem dX2_init_5 : decode cX2_init 5 = .ok (.aload_n 1, 1) := by decide +kernel
theorem dX2_init_6 : decode cX2_init 6 = .ok (.putfield 7, 3) := by decide +kernel
theorem dX2_init_9 : decode cX2_init 9 = .ok (.aload_n 0, 1) := by decide +kernel
theorem dX2_init_10 : decode cX2_init 10 = .ok (.aload_n 1, 1) := by decide +kernel
theorem dX2_init_11 : decode cX2_init 11 = .ok (.getfield 13, 3) := by decide +kernel
theorem dX2_init_14 : decode cX2_init 14 = .ok (.aload_n 1, 1) := by decide +kernel
theorem dX2_init_15 : decode cX2_init 15 = .ok (.getfield 13, 3) := by decide +kernel
theorem dX2_init_18 : decode cX2_init 18 = .ok (.imul, 1) := by decide +kernel
theorem dX2_init_19 : decode cX2_init 19 = .ok (.newarray .int, 2) := by decide +kernel
theorem dX2_init_21 : decode cX2_init 21 = .ok (.putfield 19, 3) := by decide +kernel
theorem dX2_init_24 : decode cX2_init 24 = .ok (.aload_n 0, 1) := by decide +kernel
theorem dX2_init_25 : decode cX2_init 25 = .ok (.aload_n 1, 1) := by decide +kernel
theorem dX2_init_26 : decode cX2_init 26 = .ok (.getfield 13, 3) := by decide +kernel
theorem dX2_init_29 : decode cX2_init 29 = .ok (.aload_n 1, 1) := by decide +kernel
theorem dX2_init_30 : decode cX2_init 30 = .ok (.getfield 13, 3) := by decide +kernel
theorem dX2_init_33 : decode cX2_init 33 = .ok (.imul, 1) := by decide +kernel
theorem dX2_init_34 : decode cX2_init 34 = .ok (.newarray .boolean, 2) := by decide +kernel
theorem dX2_init_36 : decode cX2_init 36 = .ok (.putfield 23, 3) := by decide +kernel
theorem dX2_init_39 : decode cX2_init 39 = .ok (.return_, 1) := by decide +kernel
theorem dX2_tell_0 : decode cX2_tell 0 = .ok (.aload_n 0, 1) := by decide +kernel
theorem dX2_tell_1 : decode cX2_tell 1 = .ok (.aload_n 1, 1) := by decide +kernel
theorem dX2_tell_2 : decode cX2_tell 2 = .ok (.invokevirtual 27, 3) := by decide +kernel
theorem dX2_tell_5 : decode cX2_tell 5 = .ok (.aload_n 0, 1) := by decide +kernel
theorem dX2_tell_6 : decode cX2_tell 6 = .ok (.getfield 31, 3) := by decide +kernel
theorem dX2_tell_9 : decode cX2_tell 9 = .ok (.istore_n 2, 1) := by decide +kernel
theorem dX2_tell_10 : decode cX2_tell 10 = .ok (.iconst 0, 1) := by decide +kernel
theorem dX2_tell_11 : decode cX2_tell 11 = .ok (.istore_n 3, 1) := by decide +kernel
theorem dX2_tell_12 : decode cX2_tell 12 = .ok (.iload_n 3, 1) := by decide +kernel
theorem dX2_tell_13 : decode cX2_tell 13 = .ok (.iload_n 2, 1) := by decide +kernel
theorem dX2_tell_14 : decode cX2_tell 14 = .ok (.if_icmp .ge 63, 3) := by decide +kernel
theorem dX2_tell_17 : decode cX2_tell 17 = .ok (.aload_n 0, 1) := by decide +kernel
theorem dX2_tell_18 : decode cX2_tell 18 = .ok (.getfield 31, 3) := by decide +kernel
theorem dX2_tell_21 : decode cX2_tell 21 = .ok (.ifCond .le 56, 3) := by decide +kernel
theorem dX2_tell_24 : decode cX2_tell 24 = .ok (.iconst 0, 1) := by decide +kernel
theorem dX2_tell_25 : decode cX2_tell 25 = .ok (.istore 4, 2) := by decide +kernel
theorem dX2_tell_27 : decode cX2_tell 27 = .ok (.iload 4, 2) := by decide +kernel
theorem dX2_tell_29 : decode cX2_tell 29 = .ok (.aload_n 0, 1) := by decide +kernel
theorem dX2_tell_30 : decode cX2_tell 30 = .ok (.getfield 7, 3) := by decide +kernel
theorem dX2_tell_33 : decode cX2_tell 33 = .ok (.getfield 13, 3) := by decide +kernel
theorem dX2_tell_36 : decode cX2_tell 36 = .ok (.if_icmp .ge 35, 3) := by decide +kernel
theorem dX2_tell_39 : decode cX2_tell 39 = .ok (.aload_n 0, 1) := by decide +kernel
theorem dX2_tell_40 : decode cX2_tell 40 = .ok (.iload 4, 2) := by decide +kernel
theorem dX2_tell_42 : decode cX2_tell 42 = .ok (.aload_n 0, 1) := by decide +kernel
theorem dX2_tell_43 : decode cX2_tell 43 = .ok (.getfield 7, 3) := by decide +kernel
theorem dX2_tell_46 : decode cX2_tell 46 = .ok (.getfield 34, 3) := by decide +kernel
theorem dX2_tell_49 : decode cX2_tell 49 = .ok (.invokevirtual 37, 3) := by decide +kernel
theorem dX2_tell_52 : decode cX2_tell 52 = .ok (.aload_n 0, 1) := by decide +kernel
theorem dX2_tell_53 : decode cX2_tell 53 = .ok (.iload 4, 2) := by decide +kernel
theorem dX2_tell_55 : decode cX2_tell 55 = .ok (.aload_n 0, 1) := by decide +kernel
theorem dX2_tell_56 : decode cX2_tell 56 = .ok (.getfield 7, 3) := by decide +kernel
theorem dX2_tell_59 : decode cX2_tell 59 = .ok (.getfield 41, 3) := by decide +kernel
theorem dX2_tell_62 : decode cX2_tell 62 = .ok (.invokevirtual 37, 3) := by decide +kernel
theorem dX2_tell_65 : decode cX2_tell 65 = .ok (.iinc 4  1, 3) := by decide +kernel
theorem dX2_tell_68 : decode cX2_tell 68 = .ok (.goto (-41), 3) := by decide +kernel
theorem dX2_tell_71 : decode cX2_tell 71 = .ok (.iinc 3  1, 3) := by decide +kernel
theorem dX2_tell_74 : decode cX2_tell 74 = .ok (.goto (-62), 3) := by decide +kernel
theorem dX2_tell_77 : decode cX2_tell 77 = .ok (.return_, 1) := by decide +kernel
theorem dX2_load_0 : decode cX2_load 0 = .ok (.aload_n 0, 1) := by decide +kernel
theorem dX2_load_1 : decode cX2_load 1 = .ok (.iconst 0, 1) := by decide +kernel
theorem dX2_load_2 : decode cX2_load 2 = .ok (.putfield 31, 3) := by decide +kernel
theorem dX2_load_5 : decode cX2_load 5 = .ok (.iconst 0, 1) := by decide +kernel
theorem dX2_load_6 : decode cX2_load 6 = .ok (.istore_n 2, 1) := by decide +kernel
theorem dX2_load_7 : decode cX2_load 7 = .ok (.iload_n 2, 1) := by decide +kernel
theorem dX2_load_8 : decode cX2_load 8 = .ok (.aload_n 0, 1) := by decide +kernel
theorem dX2_load_9 : decode cX2_load 9 = .ok (.getfield 7, 3) := by decide +kernel
theorem dX2_load_12 : decode cX2_load 12 = .ok (.getfield 13, 3) := by decide +kernel
theorem dX2_load_15 : decode cX2_load 15 = .ok (.if_icmp .ge 113, 3) := by decide +kernel
theorem dX2_load_18 : decode cX2_load 18 = .ok (.iconst 0, 1) := by decide +kernel
theorem dX2_load_19 : decode cX2_load 19 = .ok (.istore_n 3, 1) := by decide +kernel
theorem dX2_load_20 : decode cX2_load 20 = .ok (.iload_n 3, 1) := by decide +kernel
theorem dX2_load_21 : decode cX2_load 21 = .ok (.aload_n 0, 1) := by decide +kernel
theorem dX2_load_22 : decode cX2_load 22 = .ok (.getfield 7, 3) := by decide +kernel
theorem dX2_load_25 : decode cX2_load 25 = .ok (.getfield 13, 3) := by decide +kernel
theorem dX2_load_28 : decode cX2_load 28 = .ok (.if_icmp .ge 69, 3) := by decide +kernel
theorem dX2_load_31 : decode cX2_load 31 = .ok (.aload_n 0, 1) := by decide +kernel
theorem dX2_load_32 : decode cX2_load 32 = .ok (.getfield 7, 3) := by decide +kernel
theorem dX2_load_35 : decode cX2_load 35 = .ok (.iload_n 2, 1) := by decide +kernel
theorem dX2_load_36 : decode cX2_load 36 = .ok (.iload_n 3, 1) := by decide +kernel
theorem dX2_load_37 : decode cX2_load 37 = .ok (.invokevirtual 44, 3) := by decide +kernel
theorem dX2_load_40 : decode cX2_load 40 = .ok (.istore 4, 2) := by decide +kernel
theorem dX2_load_42 : decode cX2_load 42 = .ok (.aload_n 0, 1) := by decide +kernel
theorem dX2_load_43 : decode cX2_load 43 = .ok (.getfield 23, 3) := by decide +kernel
theorem dX2_load_46 : decode cX2_load 46 = .ok (.iload 4, 2) := by decide +kernel
theorem dX2_load_48 : decode cX2_load 48 = .ok (.aload_n 1, 1) := by decide +kernel
theorem dX2_load_49 : decode cX2_load 49 = .ok (.getfield 48, 3) := by decide +kernel
theorem dX2_load_52 : decode cX2_load 52 = .ok (.iload_n 2, 1) := by decide +kernel
theorem dX2_load_53 : decode cX2_load 53 = .ok (.baload, 1) := by decide +kernel
theorem dX2_load_54 : decode cX2_load 54 = .ok (.ifCond .ne 7, 3) := by decide +kernel
theorem dX2_load_57 : decode cX2_load 57 = .ok (.iconst 1, 1) := by decide +kernel
theorem dX2_load_58 : decode cX2_load 58 = .ok (.goto 4, 3) := by decide +kernel
theorem dX2_load_61 : decode cX2_load 61 = .ok (.iconst 0, 1) := by decide +kernel
theorem dX2_load_62 : decode cX2_load 62 = .ok (.bastore, 1) := by decide +kernel
theorem dX2_load_63 : decode cX2_load 63 = .ok (.aload_n 0, 1) := by decide +kernel
theorem dX2_load_64 : decode cX2_load 64 = .ok (.getfield 19, 3) := by decide +kernel
theorem dX2_load_67 : decode cX2_load 67 = .ok (.iload 4, 2) := by decide +kernel
theorem dX2_load_69 : decode cX2_load 69 = .ok (.aload_n 0, 1) := by decide +kernel
theorem dX2_load_70 : decode cX2_load 70 = .ok (.getfield 23, 3) := by decide +kernel
theorem dX2_load_73 : decode cX2_load 73 = .ok (.iload 4, 2) := by decide +kernel
theorem dX2_load_75 : decode cX2_load 75 = .ok (.baload, 1) := by decide +kernel
theorem dX2_load_76 : decode cX2_load 76 = .ok (.ifCond .eq 13, 3) := by decide +kernel
theorem dX2_load_79 : decode cX2_load 79 = .ok (.aload_n 1, 1) := by decide +kernel
theorem dX2_load_80 : decode cX2_load 80 = .ok (.getfield 53, 3) := by decide +kernel
theorem dX2_load_83 : decode cX2_load 83 = .ok (.iload 4, 2) := by decide +kernel
theorem dX2_load_85 : decode cX2_load 85 = .ok (.iaload, 1) := by decide +kernel
theorem dX2_load_86 : decode cX2_load 86 = .ok (.goto 4, 3) := by decide +kernel
theorem dX2_load_89 : decode cX2_load 89 = .ok (.iconst 0, 1) := by decide +kernel
theorem dX2_load_90 : decode cX2_load 90 = .ok (.iastore, 1) := by decide +kernel
theorem dX2_load_91 : decode cX2_load 91 = .ok (.iinc 3  1, 3) := by decide +kernel
theorem dX2_load_94 : decode cX2_load 94 = .ok (.goto (-74), 3) := by decide +kernel
theorem dX2_load_97 : decode cX2_load 97 = .ok (.aload_n 1, 1) := by decide +kernel
theorem dX2_load_98 : decode cX2_load 98 = .ok (.getfield 48, 3) := by decide +kernel
theorem dX2_load_101 : decode cX2_load 101 = .ok (.iload_n 2, 1) := by decide +kernel
theorem dX2_load_102 : decode cX2_load 102 = .ok (.baload, 1) := by decide +kernel
theorem dX2_load_103 : decode cX2_load 103 = .ok (.ifCond .eq 19, 3) := by decide +kernel
theorem dX2_load_106 : decode cX2_load 106 = .ok (.aload_n 0, 1) := by decide +kernel
theorem dX2_load_107 : decode cX2_load 107 = .ok (.dup, 1) := by decide +kernel
theorem dX2_load_108 : decode cX2_load 108 = .ok (.getfield 31, 3) := by decide +kernel
theorem dX2_load_111 : decode cX2_load 111 = .ok (.aload_n 0, 1) := by decide +kernel
theorem dX2_load_112 : decode cX2_load 112 = .ok (.getfield 7, 3) := by decide +kernel
theorem dX2_load_115 : decode cX2_load 115 = .ok (.getfield 13, 3) := by decide +kernel
theorem dX2_load_118 : decode cX2_load 118 = .ok (.iadd, 1) := by decide +kernel
theorem dX2_load_119 : decode cX2_load 119 = .ok (.putfield 31, 3) := by decide +kernel
theorem dX2_load_122 : decode cX2_load 122 = .ok (.iinc 2  1, 3) := by decide +kernel
theorem dX2_load_125 : decode cX2_load 125 = .ok (.goto (-118), 3) := by decide +kernel
theorem dX2_load_128 : decode cX2_load 128 = .ok (.return_, 1) := by decide +kernel
theorem dX2_settle_0 : decode cX2_settle 0 = .ok (.aload_n 0, 1) := by decide +kernel
theorem dX2_settle_1 : decode cX2_settle 1 = .ok (.getfield 7, 3) := by decide +kernel
theorem dX2_settle_4 : decode cX2_settle 4 = .ok (.iload_n 1, 1) := by decide +kernel
theorem dX2_settle_5 : decode cX2_settle 5 = .ok (.iload_n 2, 1) := by decide +kernel
theorem dX2_settle_6 : decode cX2_settle 6 = .ok (.invokevirtual 44, 3) := by decide +kernel
theorem dX2_settle_9 : decode cX2_settle 9 = .ok (.istore_n 3, 1) := by decide +kernel
theorem dX2_settle_10 : decode cX2_settle 10 = .ok (.aload_n 0, 1) := by decide +kernel
theorem dX2_settle_11 : decode cX2_settle 11 = .ok (.getfield 19, 3) := by decide +kernel
theorem dX2_settle_14 : decode cX2_settle 14 = .ok (.iload_n 3, 1) := by decide +kernel
theorem dX2_settle_15 : decode cX2_settle 15 = .ok (.iaload, 1) := by decide +kernel
theorem dX2_settle_16 : decode cX2_settle 16 = .ok (.istore 4, 2) := by decide +kernel
theorem dX2_settle_18 : decode cX2_settle 18 = .ok (.aload_n 0, 1) := by decide +kernel
theorem dX2_settle_19 : decode cX2_settle 19 = .ok (.getfield 23, 3) := by decide +kernel
theorem dX2_settle_22 : decode cX2_settle 22 = .ok (.iload_n 3, 1) := by decide +kernel
theorem dX2_settle_23 : decode cX2_settle 23 = .ok (.baload, 1) := by decide +kernel
theorem dX2_settle_24 : decode cX2_settle 24 = .ok (.ifCond .eq 7, 3) := by decide +kernel
theorem dX2_settle_27 : decode cX2_settle 27 = .ok (.iconst 0, 1) := by decide +kernel
theorem dX2_settle_28 : decode cX2_settle 28 = .ok (.goto 4, 3) := by decide +kernel
theorem dX2_settle_31 : decode cX2_settle 31 = .ok (.iconst 1, 1) := by decide +kernel
theorem dX2_settle_32 : decode cX2_settle 32 = .ok (.istore 5, 2) := by decide +kernel
theorem dX2_settle_34 : decode cX2_settle 34 = .ok (.iload_n 3, 1) := by decide +kernel
theorem dX2_settle_35 : decode cX2_settle 35 = .ok (.istore 6, 2) := by decide +kernel
theorem dX2_settle_37 : decode cX2_settle 37 = .ok (.iconst 0, 1) := by decide +kernel
theorem dX2_settle_38 : decode cX2_settle 38 = .ok (.istore 7, 2) := by decide +kernel
theorem dX2_settle_40 : decode cX2_settle 40 = .ok (.iload 7, 2) := by decide +kernel
theorem dX2_settle_42 : decode cX2_settle 42 = .ok (.aload_n 0, 1) := by decide +kernel
theorem dX2_settle_43 : decode cX2_settle 43 = .ok (.getfield 7, 3) := by decide +kernel
theorem dX2_settle_46 : decode cX2_settle 46 = .ok (.getfield 34, 3) := by decide +kernel
theorem dX2_settle_49 : decode cX2_settle 49 = .ok (.if_icmp .ge 60, 3) := by decide +kernel
theorem dX2_settle_52 : decode cX2_settle 52 = .ok (.aload_n 0, 1) := by decide +kernel
theorem dX2_settle_53 : decode cX2_settle 53 = .ok (.getfield 7, 3) := by decide +kernel
theorem dX2_settle_56 : decode cX2_settle 56 = .ok (.aload_n 0, 1) := by decide +kernel
theorem dX2_settle_57 : decode cX2_settle 57 = .ok (.getfield 7, 3) := by decide +kernel
theorem dX2_settle_60 : decode cX2_settle 60 = .ok (.iload_n 1, 1) := by decide +kernel
theorem dX2_settle_61 : decode cX2_settle 61 = .ok (.iload 7, 2) := by decide +kernel
theorem dX2_settle_63 : decode cX2_settle 63 = .ok (.iload_n 2, 1) := by decide +kernel
theorem dX2_settle_64 : decode cX2_settle 64 = .ok (.invokevirtual 54, 3) := by decide +kernel
theorem dX2_settle_67 : decode cX2_settle 67 = .ok (.iload 7, 2) := by decide +kernel
theorem dX2_settle_69 : decode cX2_settle 69 = .ok (.invokevirtual 44, 3) := by decide +kernel
theorem dX2_settle_72 : decode cX2_settle 72 = .ok (.istore 8, 2) := by decide +kernel
theorem dX2_settle_74 : decode cX2_settle 74 = .ok (.iload 4, 2) := by decide +kernel
theorem dX2_settle_76 : decode cX2_settle 76 = .ok (.aload_n 0, 1) := by decide +kernel
theorem dX2_settle_77 : decode cX2_settle 77 = .ok (.getfield 19, 3) := by decide +kernel
theorem dX2_settle_80 : decode cX2_settle 80 = .ok (.iload 8, 2) := by decide +kernel
theorem dX2_settle_82 : decode cX2_settle 82 = .ok (.iaload, 1) := by decide +kernel
theorem dX2_settle_83 : decode cX2_settle 83 = .ok (.ixor, 1) := by decide +kernel
theorem dX2_settle_84 : decode cX2_settle 84 = .ok (.istore 4, 2) := by decide +kernel
theorem dX2_settle_86 : decode cX2_settle 86 = .ok (.aload_n 0, 1) := by decide +kernel
theorem dX2_settle_87 : decode cX2_settle 87 = .ok (.getfield 23, 3) := by decide +kernel
theorem dX2_settle_90 : decode cX2_settle 90 = .ok (.iload 8, 2) := by decide +kernel
theorem dX2_settle_92 : decode cX2_settle 92 = .ok (.baload, 1) := by decide +kernel
theorem dX2_settle_93 : decode cX2_settle 93 = .ok (.ifCond .ne 10, 3) := by decide +kernel
theorem dX2_settle_96 : decode cX2_settle 96 = .ok (.iinc 5  1, 3) := by decide +kernel
theorem dX2_settle_99 : decode cX2_settle 99 = .ok (.iload 8, 2) := by decide +kernel
theorem dX2_settle_101 : decode cX2_settle 101 = .ok (.istore 6, 2) := by decide +kernel
theorem dX2_settle_103 : decode cX2_settle 103 = .ok (.iinc 7  1, 3) := by decide +kernel
theorem dX2_settle_106 : decode cX2_settle 106 = .ok (.goto (-66), 3) := by decide +kernel
theorem dX2_settle_109 : decode cX2_settle 109 = .ok (.iload 5, 2) := by decide +kernel
theorem dX2_settle_111 : decode cX2_settle 111 = .ok (.iconst 1, 1) := by decide +kernel
theorem dX2_settle_112 : decode cX2_settle 112 = .ok (.if_icmp .ne 30, 3) := by decide +kernel
theorem dX2_settle_115 : decode cX2_settle 115 = .ok (.aload_n 0, 1) := by decide +kernel
theorem dX2_settle_116 : decode cX2_settle 116 = .ok (.getfield 19, 3) := by decide +kernel
theorem dX2_settle_119 : decode cX2_settle 119 = .ok (.iload 6, 2) := by decide +kernel
theorem dX2_settle_121 : decode cX2_settle 121 = .ok (.iload 4, 2) := by decide +kernel
theorem dX2_settle_123 : decode cX2_settle 123 = .ok (.iastore, 1) := by decide +kernel
theorem dX2_settle_124 : decode cX2_settle 124 = .ok (.aload_n 0, 1) := by decide +kernel
theorem dX2_settle_125 : decode cX2_settle 125 = .ok (.getfield 23, 3) := by decide +kernel
theorem dX2_settle_128 : decode cX2_settle 128 = .ok (.iload 6, 2) := by decide +kernel
theorem dX2_settle_130 : decode cX2_settle 130 = .ok (.iconst 1, 1) := by decide +kernel
theorem dX2_settle_131 : decode cX2_settle 131 = .ok (.bastore, 1) := by decide +kernel
theorem dX2_settle_132 : decode cX2_settle 132 = .ok (.aload_n 0, 1) := by decide +kernel
theorem dX2_settle_133 : decode cX2_settle 133 = .ok (.dup, 1) := by decide +kernel
theorem dX2_settle_134 : decode cX2_settle 134 = .ok (.getfield 31, 3) := by decide +kernel
theorem dX2_settle_137 : decode cX2_settle 137 = .ok (.iconst 1, 1) := by decide +kernel
theorem dX2_settle_138 : decode cX2_settle 138 = .ok (.isub, 1) := by decide +kernel
theorem dX2_settle_139 : decode cX2_settle 139 = .ok (.putfield 31, 3) := by decide +kernel
theorem dX2_settle_142 : decode cX2_settle 142 = .ok (.return_, 1) := by decide +kernel
theorem dJ9_floorMod_0 : decode cJ9_floorMod 0 = .ok (.iload_n 0, 1) := by decide +kernel
theorem dJ9_floorMod_1 : decode cJ9_floorMod 1 = .ok (.iload_n 1, 1) := by decide +kernel
theorem dJ9_floorMod_2 : decode cJ9_floorMod 2 = .ok (.irem, 1) := by decide +kernel
theorem dJ9_floorMod_3 : decode cJ9_floorMod 3 = .ok (.istore_n 2, 1) := by decide +kernel
theorem dJ9_floorMod_4 : decode cJ9_floorMod 4 = .ok (.iload_n 0, 1) := by decide +kernel
theorem dJ9_floorMod_5 : decode cJ9_floorMod 5 = .ok (.iload_n 1, 1) := by decide +kernel
theorem dJ9_floorMod_6 : decode cJ9_floorMod 6 = .ok (.ixor, 1) := by decide +kernel
theorem dJ9_floorMod_7 : decode cJ9_floorMod 7 = .ok (.ifCond .ge 11, 3) := by decide +kernel
theorem dJ9_floorMod_10 : decode cJ9_floorMod 10 = .ok (.iload_n 2, 1) := by decide +kernel
theorem dJ9_floorMod_11 : decode cJ9_floorMod 11 = .ok (.ifCond .eq 7, 3) := by decide +kernel
theorem dJ9_floorMod_14 : decode cJ9_floorMod 14 = .ok (.iload_n 2, 1) := by decide +kernel
theorem dJ9_floorMod_15 : decode cJ9_floorMod 15 = .ok (.iload_n 1, 1) := by decide +kernel
theorem dJ9_floorMod_16 : decode cJ9_floorMod 16 = .ok (.iadd, 1) := by decide +kernel
theorem dJ9_floorMod_17 : decode cJ9_floorMod 17 = .ok (.ireturn, 1) := by decide +kernel
theorem dJ9_floorMod_18 : decode cJ9_floorMod 18 = .ok (.iload_n 2, 1) := by decide +kernel
theorem dJ9_floorMod_19 : decode cJ9_floorMod 19 = .ok (.ireturn, 1) := by decide +kernel
theorem dJ9_max_0 : decode cJ9_max 0 = .ok (.iload_n 0, 1) := by decide +kernel
theorem dJ9_max_1 : decode cJ9_max 1 = .ok (.iload_n 1, 1) := by decide +kernel
theorem dJ9_max_2 : decode cJ9_max 2 = .ok (.if_icmp .lt 7, 3) := by decide +kernel
theorem dJ9_max_5 : decode cJ9_max 5 = .ok (.iload_n 0, 1) := by decide +kernel
theorem dJ9_max_6 : decode cJ9_max 6 = .ok (.goto 4, 3) := by decide +kernel
theorem dJ9_max_9 : decode cJ9_max 9 = .ok (.iload_n 1, 1) := by decide +kernel
theorem dJ9_max_10 : decode cJ9_max 10 = .ok (.ireturn, 1) := by decide +kernel
theorem dJ9_min_0 : decode cJ9_min 0 = .ok (.iload_n 0, 1) := by decide +kernel
theorem dJ9_min_1 : decode cJ9_min 1 = .ok (.iload_n 1, 1) := by decide +kernel
theorem dJ9_min_2 : decode cJ9_min 2 = .ok (.if_icmp .gt 7, 3) := by decide +kernel
theorem dJ9_min_5 : decode cJ9_min 5 = .ok (.iload_n 0, 1) := by decide +kernel
theorem dJ9_min_6 : decode cJ9_min 6 = .ok (.goto 4, 3) := by decide +kernel
theorem dJ9_min_9 : decode cJ9_min 9 = .ok (.iload_n 1, 1) := by decide +kernel
theorem dJ9_min_10 : decode cJ9_min 10 = .ok (.ireturn, 1) := by decide +kernel
