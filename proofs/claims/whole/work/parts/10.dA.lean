theorem d_Pan_copy_0 : decode prog_5_method_4_code 0 = .ok (.iconst 0, 1) := by decide +kernel
theorem d_Pan_copy_1 : decode prog_5_method_4_code 1 = .ok (.istore_n 2, 1) := by decide +kernel
theorem d_Pan_copy_2 : decode prog_5_method_4_code 2 = .ok (.iload_n 2, 1) := by decide +kernel
theorem d_Pan_copy_3 : decode prog_5_method_4_code 3 = .ok (.bipush 6, 2) := by decide +kernel
theorem d_Pan_copy_5 : decode prog_5_method_4_code 5 = .ok (.if_icmp .ge 33, 3) := by decide +kernel
theorem d_Pan_copy_8 : decode prog_5_method_4_code 8 = .ok (.aload_n 0, 1) := by decide +kernel
theorem d_Pan_copy_9 : decode prog_5_method_4_code 9 = .ok (.getfield 9, 3) := by decide +kernel
theorem d_Pan_copy_12 : decode prog_5_method_4_code 12 = .ok (.iload_n 2, 1) := by decide +kernel
theorem d_Pan_copy_13 : decode prog_5_method_4_code 13 = .ok (.aload_n 1, 1) := by decide +kernel
theorem d_Pan_copy_14 : decode prog_5_method_4_code 14 = .ok (.getfield 9, 3) := by decide +kernel
theorem d_Pan_copy_17 : decode prog_5_method_4_code 17 = .ok (.iload_n 2, 1) := by decide +kernel
theorem d_Pan_copy_18 : decode prog_5_method_4_code 18 = .ok (.iaload, 1) := by decide +kernel
theorem d_Pan_copy_19 : decode prog_5_method_4_code 19 = .ok (.iastore, 1) := by decide +kernel
theorem d_Pan_copy_20 : decode prog_5_method_4_code 20 = .ok (.aload_n 0, 1) := by decide +kernel
theorem d_Pan_copy_21 : decode prog_5_method_4_code 21 = .ok (.getfield 15, 3) := by decide +kernel
theorem d_Pan_copy_24 : decode prog_5_method_4_code 24 = .ok (.iload_n 2, 1) := by decide +kernel
theorem d_Pan_copy_25 : decode prog_5_method_4_code 25 = .ok (.aload_n 1, 1) := by decide +kernel
theorem d_Pan_copy_26 : decode prog_5_method_4_code 26 = .ok (.getfield 15, 3) := by decide +kernel
theorem d_Pan_copy_29 : decode prog_5_method_4_code 29 = .ok (.iload_n 2, 1) := by decide +kernel
theorem d_Pan_copy_30 : decode prog_5_method_4_code 30 = .ok (.iaload, 1) := by decide +kernel
theorem d_Pan_copy_31 : decode prog_5_method_4_code 31 = .ok (.iastore, 1) := by decide +kernel
theorem d_Pan_copy_32 : decode prog_5_method_4_code 32 = .ok (.iinc 2 1, 3) := by decide +kernel
theorem d_Pan_copy_35 : decode prog_5_method_4_code 35 = .ok (.goto (-33), 3) := by decide +kernel
theorem d_Pan_copy_38 : decode prog_5_method_4_code 38 = .ok (.aload_n 0, 1) := by decide +kernel
theorem d_Pan_copy_39 : decode prog_5_method_4_code 39 = .ok (.aload_n 1, 1) := by decide +kernel
theorem d_Pan_copy_40 : decode prog_5_method_4_code 40 = .ok (.getfield 18, 3) := by decide +kernel
theorem d_Pan_copy_43 : decode prog_5_method_4_code 43 = .ok (.putfield 18, 3) := by decide +kernel
theorem d_Pan_copy_46 : decode prog_5_method_4_code 46 = .ok (.aload_n 0, 1) := by decide +kernel
theorem d_Pan_copy_47 : decode prog_5_method_4_code 47 = .ok (.aload_n 1, 1) := by decide +kernel
theorem d_Pan_copy_48 : decode prog_5_method_4_code 48 = .ok (.getfield 22, 3) := by decide +kernel
theorem d_Pan_copy_51 : decode prog_5_method_4_code 51 = .ok (.putfield 22, 3) := by decide +kernel
theorem d_Pan_copy_54 : decode prog_5_method_4_code 54 = .ok (.aload_n 0, 1) := by decide +kernel
theorem d_Pan_copy_55 : decode prog_5_method_4_code 55 = .ok (.aload_n 1, 1) := by decide +kernel
theorem d_Pan_copy_56 : decode prog_5_method_4_code 56 = .ok (.getfield 25, 3) := by decide +kernel
theorem d_Pan_copy_59 : decode prog_5_method_4_code 59 = .ok (.putfield 25, 3) := by decide +kernel
theorem d_Pan_copy_62 : decode prog_5_method_4_code 62 = .ok (.return_, 1) := by decide +kernel
theorem d_Gro_clear_0 : decode prog_4_method_2_code 0 = .ok (.aload_n 0, 1) := by decide +kernel
theorem d_Gro_clear_1 : decode prog_4_method_2_code 1 = .ok (.iconst 0, 1) := by decide +kernel
theorem d_Gro_clear_2 : decode prog_4_method_2_code 2 = .ok (.putfield 18, 3) := by decide +kernel
theorem d_Gro_clear_5 : decode prog_4_method_2_code 5 = .ok (.aload_n 0, 1) := by decide +kernel
theorem d_Gro_clear_6 : decode prog_4_method_2_code 6 = .ok (.iconst 0, 1) := by decide +kernel
theorem d_Gro_clear_7 : decode prog_4_method_2_code 7 = .ok (.putfield 22, 3) := by decide +kernel
theorem d_Gro_clear_10 : decode prog_4_method_2_code 10 = .ok (.return_, 1) := by decide +kernel
theorem d_Gro_addPan_0 : decode prog_4_method_3_code 0 = .ok (.aload_n 0, 1) := by decide +kernel
theorem d_Gro_addPan_1 : decode prog_4_method_3_code 1 = .ok (.getfield 18, 3) := by decide +kernel
theorem d_Gro_addPan_4 : decode prog_4_method_3_code 4 = .ok (.bipush 6, 2) := by decide +kernel
theorem d_Gro_addPan_6 : decode prog_4_method_3_code 6 = .ok (.if_icmp .ge 23, 3) := by decide +kernel
theorem d_Gro_addPan_9 : decode prog_4_method_3_code 9 = .ok (.aload_n 0, 1) := by decide +kernel
theorem d_Gro_addPan_10 : decode prog_4_method_3_code 10 = .ok (.getfield 9, 3) := by decide +kernel
theorem d_Gro_addPan_13 : decode prog_4_method_3_code 13 = .ok (.aload_n 0, 1) := by decide +kernel
theorem d_Gro_addPan_14 : decode prog_4_method_3_code 14 = .ok (.getfield 18, 3) := by decide +kernel
theorem d_Gro_addPan_17 : decode prog_4_method_3_code 17 = .ok (.iload_n 1, 1) := by decide +kernel
theorem d_Gro_addPan_18 : decode prog_4_method_3_code 18 = .ok (.iastore, 1) := by decide +kernel
theorem d_Gro_addPan_19 : decode prog_4_method_3_code 19 = .ok (.aload_n 0, 1) := by decide +kernel
theorem d_Gro_addPan_20 : decode prog_4_method_3_code 20 = .ok (.dup, 1) := by decide +kernel
theorem d_Gro_addPan_21 : decode prog_4_method_3_code 21 = .ok (.getfield 18, 3) := by decide +kernel
theorem d_Gro_addPan_24 : decode prog_4_method_3_code 24 = .ok (.iconst 1, 1) := by decide +kernel
theorem d_Gro_addPan_25 : decode prog_4_method_3_code 25 = .ok (.iadd, 1) := by decide +kernel
theorem d_Gro_addPan_26 : decode prog_4_method_3_code 26 = .ok (.putfield 18, 3) := by decide +kernel
theorem d_Gro_addPan_29 : decode prog_4_method_3_code 29 = .ok (.return_, 1) := by decide +kernel
theorem d_Gro_addSky_0 : decode prog_4_method_4_code 0 = .ok (.aload_n 0, 1) := by decide +kernel
theorem d_Gro_addSky_1 : decode prog_4_method_4_code 1 = .ok (.getfield 22, 3) := by decide +kernel
theorem d_Gro_addSky_4 : decode prog_4_method_4_code 4 = .ok (.iconst 5, 1) := by decide +kernel
theorem d_Gro_addSky_5 : decode prog_4_method_4_code 5 = .ok (.if_icmp .ge 23, 3) := by decide +kernel
theorem d_Gro_addSky_8 : decode prog_4_method_4_code 8 = .ok (.aload_n 0, 1) := by decide +kernel
theorem d_Gro_addSky_9 : decode prog_4_method_4_code 9 = .ok (.getfield 15, 3) := by decide +kernel
theorem d_Gro_addSky_12 : decode prog_4_method_4_code 12 = .ok (.aload_n 0, 1) := by decide +kernel
theorem d_Gro_addSky_13 : decode prog_4_method_4_code 13 = .ok (.getfield 22, 3) := by decide +kernel
theorem d_Gro_addSky_16 : decode prog_4_method_4_code 16 = .ok (.iload_n 1, 1) := by decide +kernel
theorem d_Gro_addSky_17 : decode prog_4_method_4_code 17 = .ok (.iastore, 1) := by decide +kernel
theorem d_Gro_addSky_18 : decode prog_4_method_4_code 18 = .ok (.aload_n 0, 1) := by decide +kernel
theorem d_Gro_addSky_19 : decode prog_4_method_4_code 19 = .ok (.dup, 1) := by decide +kernel
theorem d_Gro_addSky_20 : decode prog_4_method_4_code 20 = .ok (.getfield 22, 3) := by decide +kernel
theorem d_Gro_addSky_23 : decode prog_4_method_4_code 23 = .ok (.iconst 1, 1) := by decide +kernel
theorem d_Gro_addSky_24 : decode prog_4_method_4_code 24 = .ok (.iadd, 1) := by decide +kernel
theorem d_Gro_addSky_25 : decode prog_4_method_4_code 25 = .ok (.putfield 22, 3) := by decide +kernel
theorem d_Gro_addSky_28 : decode prog_4_method_4_code 28 = .ok (.return_, 1) := by decide +kernel
theorem d_Gro_hasPan_0 : decode prog_4_method_5_code 0 = .ok (.iload_n 1, 1) := by decide +kernel
theorem d_Gro_hasPan_1 : decode prog_4_method_5_code 1 = .ok (.ifCond .lt 15, 3) := by decide +kernel
theorem d_Gro_hasPan_4 : decode prog_4_method_5_code 4 = .ok (.iload_n 1, 1) := by decide +kernel
theorem d_Gro_hasPan_5 : decode prog_4_method_5_code 5 = .ok (.aload_n 0, 1) := by decide +kernel
theorem d_Gro_hasPan_6 : decode prog_4_method_5_code 6 = .ok (.getfield 18, 3) := by decide +kernel
theorem d_Gro_hasPan_9 : decode prog_4_method_5_code 9 = .ok (.if_icmp .ge 7, 3) := by decide +kernel
theorem d_Gro_hasPan_12 : decode prog_4_method_5_code 12 = .ok (.iconst 1, 1) := by decide +kernel
theorem d_Gro_hasPan_13 : decode prog_4_method_5_code 13 = .ok (.goto 4, 3) := by decide +kernel
theorem d_Gro_hasPan_16 : decode prog_4_method_5_code 16 = .ok (.iconst 0, 1) := by decide +kernel
theorem d_Gro_hasPan_17 : decode prog_4_method_5_code 17 = .ok (.ireturn, 1) := by decide +kernel
theorem d_Gro_gateCount_0 : decode prog_4_method_6_code 0 = .ok (.aload_n 0, 1) := by decide +kernel
theorem d_Gro_gateCount_1 : decode prog_4_method_6_code 1 = .ok (.getfield 18, 3) := by decide +kernel
theorem d_Gro_gateCount_4 : decode prog_4_method_6_code 4 = .ok (.ifCond .ne 7, 3) := by decide +kernel
theorem d_Gro_gateCount_7 : decode prog_4_method_6_code 7 = .ok (.iconst 0, 1) := by decide +kernel
theorem d_Gro_gateCount_8 : decode prog_4_method_6_code 8 = .ok (.goto 9, 3) := by decide +kernel
theorem d_Gro_gateCount_11 : decode prog_4_method_6_code 11 = .ok (.aload_n 0, 1) := by decide +kernel
theorem d_Gro_gateCount_12 : decode prog_4_method_6_code 12 = .ok (.getfield 18, 3) := by decide +kernel
theorem d_Gro_gateCount_15 : decode prog_4_method_6_code 15 = .ok (.iconst 1, 1) := by decide +kernel
theorem d_Gro_gateCount_16 : decode prog_4_method_6_code 16 = .ok (.isub, 1) := by decide +kernel
theorem d_Gro_gateCount_17 : decode prog_4_method_6_code 17 = .ok (.ireturn, 1) := by decide +kernel
theorem d_Gro_hasGate_0 : decode prog_4_method_7_code 0 = .ok (.iload_n 1, 1) := by decide +kernel
theorem d_Gro_hasGate_1 : decode prog_4_method_7_code 1 = .ok (.ifCond .lt 15, 3) := by decide +kernel
theorem d_Gro_hasGate_4 : decode prog_4_method_7_code 4 = .ok (.iload_n 1, 1) := by decide +kernel
theorem d_Gro_hasGate_5 : decode prog_4_method_7_code 5 = .ok (.aload_n 0, 1) := by decide +kernel
theorem d_Gro_hasGate_6 : decode prog_4_method_7_code 6 = .ok (.invokevirtual 25, 3) := by decide +kernel
theorem d_Gro_hasGate_9 : decode prog_4_method_7_code 9 = .ok (.if_icmp .ge 7, 3) := by decide +kernel
theorem d_Gro_hasGate_12 : decode prog_4_method_7_code 12 = .ok (.iconst 1, 1) := by decide +kernel
theorem d_Gro_hasGate_13 : decode prog_4_method_7_code 13 = .ok (.goto 4, 3) := by decide +kernel
theorem d_Gro_hasGate_16 : decode prog_4_method_7_code 16 = .ok (.iconst 0, 1) := by decide +kernel
theorem d_Gro_hasGate_17 : decode prog_4_method_7_code 17 = .ok (.ireturn, 1) := by decide +kernel
theorem d_Gro_skyOf_0 : decode prog_4_method_8_code 0 = .ok (.aload_n 0, 1) := by decide +kernel
theorem d_Gro_skyOf_1 : decode prog_4_method_8_code 1 = .ok (.getfield 22, 3) := by decide +kernel
theorem d_Gro_skyOf_4 : decode prog_4_method_8_code 4 = .ok (.ifCond .eq 7, 3) := by decide +kernel
theorem d_Gro_skyOf_7 : decode prog_4_method_8_code 7 = .ok (.iload_n 1, 1) := by decide +kernel
theorem d_Gro_skyOf_8 : decode prog_4_method_8_code 8 = .ok (.ifCond .ge 7, 3) := by decide +kernel
theorem d_Gro_skyOf_11 : decode prog_4_method_8_code 11 = .ok (.iconst 0, 1) := by decide +kernel
theorem d_Gro_skyOf_12 : decode prog_4_method_8_code 12 = .ok (.goto 14, 3) := by decide +kernel
theorem d_Gro_skyOf_15 : decode prog_4_method_8_code 15 = .ok (.aload_n 0, 1) := by decide +kernel
theorem d_Gro_skyOf_16 : decode prog_4_method_8_code 16 = .ok (.getfield 15, 3) := by decide +kernel
theorem d_Gro_skyOf_19 : decode prog_4_method_8_code 19 = .ok (.iload_n 1, 1) := by decide +kernel
theorem d_Gro_skyOf_20 : decode prog_4_method_8_code 20 = .ok (.aload_n 0, 1) := by decide +kernel
theorem d_Gro_skyOf_21 : decode prog_4_method_8_code 21 = .ok (.getfield 22, 3) := by decide +kernel
theorem d_Gro_skyOf_24 : decode prog_4_method_8_code 24 = .ok (.irem, 1) := by decide +kernel
theorem d_Gro_skyOf_25 : decode prog_4_method_8_code 25 = .ok (.iaload, 1) := by decide +kernel
theorem d_Gro_skyOf_26 : decode prog_4_method_8_code 26 = .ok (.ireturn, 1) := by decide +kernel
theorem d_Gro_depthOf_0 : decode prog_4_method_9_code 0 = .ok (.aload_n 0, 1) := by decide +kernel
theorem d_Gro_depthOf_1 : decode prog_4_method_9_code 1 = .ok (.getfield 9, 3) := by decide +kernel
theorem d_Gro_depthOf_4 : decode prog_4_method_9_code 4 = .ok (.iload_n 1, 1) := by decide +kernel
theorem d_Gro_depthOf_5 : decode prog_4_method_9_code 5 = .ok (.iaload, 1) := by decide +kernel
theorem d_Gro_depthOf_6 : decode prog_4_method_9_code 6 = .ok (.iconst 1, 1) := by decide +kernel
theorem d_Gro_depthOf_7 : decode prog_4_method_9_code 7 = .ok (.if_icmp .ne 8, 3) := by decide +kernel
theorem d_Gro_depthOf_10 : decode prog_4_method_9_code 10 = .ok (.bipush 9, 2) := by decide +kernel
theorem d_Gro_depthOf_12 : decode prog_4_method_9_code 12 = .ok (.goto 5, 3) := by decide +kernel
theorem d_Gro_depthOf_15 : decode prog_4_method_9_code 15 = .ok (.bipush 6, 2) := by decide +kernel
theorem d_Gro_depthOf_17 : decode prog_4_method_9_code 17 = .ok (.ireturn, 1) := by decide +kernel
theorem d_Pan_emptyAllBut_0 : decode prog_5_method_5_code 0 = .ok (.iconst 0, 1) := by decide +kernel
theorem d_Pan_emptyAllBut_1 : decode prog_5_method_5_code 1 = .ok (.istore_n 2, 1) := by decide +kernel
theorem d_Pan_emptyAllBut_2 : decode prog_5_method_5_code 2 = .ok (.iload_n 2, 1) := by decide +kernel
theorem d_Pan_emptyAllBut_3 : decode prog_5_method_5_code 3 = .ok (.bipush 6, 2) := by decide +kernel
theorem d_Pan_emptyAllBut_5 : decode prog_5_method_5_code 5 = .ok (.if_icmp .ge 31, 3) := by decide +kernel
theorem d_Pan_emptyAllBut_8 : decode prog_5_method_5_code 8 = .ok (.iload_n 1, 1) := by decide +kernel
theorem d_Pan_emptyAllBut_9 : decode prog_5_method_5_code 9 = .ok (.iload_n 2, 1) := by decide +kernel
theorem d_Pan_emptyAllBut_10 : decode prog_5_method_5_code 10 = .ok (.ishr, 1) := by decide +kernel
theorem d_Pan_emptyAllBut_11 : decode prog_5_method_5_code 11 = .ok (.iconst 1, 1) := by decide +kernel
theorem d_Pan_emptyAllBut_12 : decode prog_5_method_5_code 12 = .ok (.iand, 1) := by decide +kernel
theorem d_Pan_emptyAllBut_13 : decode prog_5_method_5_code 13 = .ok (.ifCond .ne 17, 3) := by decide +kernel
theorem d_Pan_emptyAllBut_16 : decode prog_5_method_5_code 16 = .ok (.aload_n 0, 1) := by decide +kernel
theorem d_Pan_emptyAllBut_17 : decode prog_5_method_5_code 17 = .ok (.getfield 9, 3) := by decide +kernel
theorem d_Pan_emptyAllBut_20 : decode prog_5_method_5_code 20 = .ok (.iload_n 2, 1) := by decide +kernel
theorem d_Pan_emptyAllBut_21 : decode prog_5_method_5_code 21 = .ok (.iconst 0, 1) := by decide +kernel
theorem d_Pan_emptyAllBut_22 : decode prog_5_method_5_code 22 = .ok (.iastore, 1) := by decide +kernel
theorem d_Pan_emptyAllBut_23 : decode prog_5_method_5_code 23 = .ok (.aload_n 0, 1) := by decide +kernel
theorem d_Pan_emptyAllBut_24 : decode prog_5_method_5_code 24 = .ok (.getfield 15, 3) := by decide +kernel
theorem d_Pan_emptyAllBut_27 : decode prog_5_method_5_code 27 = .ok (.iload_n 2, 1) := by decide +kernel
theorem d_Pan_emptyAllBut_28 : decode prog_5_method_5_code 28 = .ok (.iconst 0, 1) := by decide +kernel
theorem d_Pan_emptyAllBut_29 : decode prog_5_method_5_code 29 = .ok (.iastore, 1) := by decide +kernel
theorem d_Pan_emptyAllBut_30 : decode prog_5_method_5_code 30 = .ok (.iinc 2 1, 3) := by decide +kernel
theorem d_Pan_emptyAllBut_33 : decode prog_5_method_5_code 33 = .ok (.goto (-31), 3) := by decide +kernel
theorem d_Pan_emptyAllBut_36 : decode prog_5_method_5_code 36 = .ok (.return_, 1) := by decide +kernel
theorem d_Pan_clear_0 : decode prog_5_method_2_code 0 = .ok (.aload_n 0, 1) := by decide +kernel
theorem d_Pan_clear_1 : decode prog_5_method_2_code 1 = .ok (.iconst 0, 1) := by decide +kernel
theorem d_Pan_clear_2 : decode prog_5_method_2_code 2 = .ok (.invokevirtual 32, 3) := by decide +kernel
theorem d_Pan_clear_5 : decode prog_5_method_2_code 5 = .ok (.aload_n 0, 1) := by decide +kernel
theorem d_Pan_clear_6 : decode prog_5_method_2_code 6 = .ok (.iconst 0, 1) := by decide +kernel
theorem d_Pan_clear_7 : decode prog_5_method_2_code 7 = .ok (.putfield 18, 3) := by decide +kernel
theorem d_Pan_clear_10 : decode prog_5_method_2_code 10 = .ok (.aload_n 0, 1) := by decide +kernel
theorem d_Pan_clear_11 : decode prog_5_method_2_code 11 = .ok (.iconst 0, 1) := by decide +kernel
theorem d_Pan_clear_12 : decode prog_5_method_2_code 12 = .ok (.putfield 22, 3) := by decide +kernel
theorem d_Pan_clear_15 : decode prog_5_method_2_code 15 = .ok (.aload_n 0, 1) := by decide +kernel
theorem d_Pan_clear_16 : decode prog_5_method_2_code 16 = .ok (.iconst 0, 1) := by decide +kernel
theorem d_Pan_clear_17 : decode prog_5_method_2_code 17 = .ok (.putfield 25, 3) := by decide +kernel
theorem d_Pan_clear_20 : decode prog_5_method_2_code 20 = .ok (.return_, 1) := by decide +kernel
theorem d_Pan_lay_0 : decode prog_5_method_3_code 0 = .ok (.aload_n 0, 1) := by decide +kernel
theorem d_Pan_lay_1 : decode prog_5_method_3_code 1 = .ok (.getfield 28, 3) := by decide +kernel
theorem d_Pan_lay_4 : decode prog_5_method_3_code 4 = .ok (.iload_n 2, 1) := by decide +kernel
theorem d_Pan_lay_5 : decode prog_5_method_3_code 5 = .ok (.invokevirtual 36, 3) := by decide +kernel
theorem d_Pan_lay_8 : decode prog_5_method_3_code 8 = .ok (.ifCond .eq 7, 3) := by decide +kernel
theorem d_Pan_lay_11 : decode prog_5_method_3_code 11 = .ok (.aload_n 1, 1) := by decide +kernel
theorem d_Pan_lay_12 : decode prog_5_method_3_code 12 = .ok (.iload_n 2, 1) := by decide +kernel
theorem d_Pan_lay_13 : decode prog_5_method_3_code 13 = .ok (.iload_n 3, 1) := by decide +kernel
theorem d_Pan_lay_14 : decode prog_5_method_3_code 14 = .ok (.iastore, 1) := by decide +kernel
theorem d_Pan_lay_15 : decode prog_5_method_3_code 15 = .ok (.return_, 1) := by decide +kernel
theorem d_Pan_brineOf_0 : decode prog_5_method_6_code 0 = .ok (.bipush 8, 2) := by decide +kernel
theorem d_Pan_brineOf_2 : decode prog_5_method_6_code 2 = .ok (.aload_n 0, 1) := by decide +kernel
theorem d_Pan_brineOf_3 : decode prog_5_method_6_code 3 = .ok (.getfield 9, 3) := by decide +kernel
theorem d_Pan_brineOf_6 : decode prog_5_method_6_code 6 = .ok (.iload_n 1, 1) := by decide +kernel
theorem d_Pan_brineOf_7 : decode prog_5_method_6_code 7 = .ok (.iaload, 1) := by decide +kernel
theorem d_Pan_brineOf_8 : decode prog_5_method_6_code 8 = .ok (.imul, 1) := by decide +kernel
theorem d_Pan_brineOf_9 : decode prog_5_method_6_code 9 = .ok (.istore_n 2, 1) := by decide +kernel
theorem d_Pan_brineOf_10 : decode prog_5_method_6_code 10 = .ok (.aload_n 0, 1) := by decide +kernel
theorem d_Pan_brineOf_11 : decode prog_5_method_6_code 11 = .ok (.getfield 15, 3) := by decide +kernel
theorem d_Pan_brineOf_14 : decode prog_5_method_6_code 14 = .ok (.iload_n 1, 1) := by decide +kernel
theorem d_Pan_brineOf_15 : decode prog_5_method_6_code 15 = .ok (.iaload, 1) := by decide +kernel
theorem d_Pan_brineOf_16 : decode prog_5_method_6_code 16 = .ok (.iload_n 2, 1) := by decide +kernel
theorem d_Pan_brineOf_17 : decode prog_5_method_6_code 17 = .ok (.if_icmp .ge 12, 3) := by decide +kernel
theorem d_Pan_brineOf_20 : decode prog_5_method_6_code 20 = .ok (.aload_n 0, 1) := by decide +kernel
theorem d_Pan_brineOf_21 : decode prog_5_method_6_code 21 = .ok (.getfield 15, 3) := by decide +kernel
theorem d_Pan_brineOf_24 : decode prog_5_method_6_code 24 = .ok (.iload_n 1, 1) := by decide +kernel
theorem d_Pan_brineOf_25 : decode prog_5_method_6_code 25 = .ok (.iaload, 1) := by decide +kernel
theorem d_Pan_brineOf_26 : decode prog_5_method_6_code 26 = .ok (.goto 4, 3) := by decide +kernel
theorem d_Pan_brineOf_29 : decode prog_5_method_6_code 29 = .ok (.iload_n 2, 1) := by decide +kernel
theorem d_Pan_brineOf_30 : decode prog_5_method_6_code 30 = .ok (.ireturn, 1) := by decide +kernel
theorem d_Pan_crustOf_0 : decode prog_5_method_7_code 0 = .ok (.aload_n 0, 1) := by decide +kernel
theorem d_Pan_crustOf_1 : decode prog_5_method_7_code 1 = .ok (.getfield 15, 3) := by decide +kernel
theorem d_Pan_crustOf_4 : decode prog_5_method_7_code 4 = .ok (.iload_n 1, 1) := by decide +kernel
theorem d_Pan_crustOf_5 : decode prog_5_method_7_code 5 = .ok (.iaload, 1) := by decide +kernel
theorem d_Pan_crustOf_6 : decode prog_5_method_7_code 6 = .ok (.aload_n 0, 1) := by decide +kernel
theorem d_Pan_crustOf_7 : decode prog_5_method_7_code 7 = .ok (.iload_n 1, 1) := by decide +kernel
theorem d_Pan_crustOf_8 : decode prog_5_method_7_code 8 = .ok (.invokevirtual 42, 3) := by decide +kernel
theorem d_Pan_crustOf_11 : decode prog_5_method_7_code 11 = .ok (.isub, 1) := by decide +kernel
theorem d_Pan_crustOf_12 : decode prog_5_method_7_code 12 = .ok (.ireturn, 1) := by decide +kernel
theorem d_Pan_roomOf_0 : decode prog_5_method_8_code 0 = .ok (.aload_n 0, 1) := by decide +kernel
theorem d_Pan_roomOf_1 : decode prog_5_method_8_code 1 = .ok (.getfield 28, 3) := by decide +kernel
theorem d_Pan_roomOf_4 : decode prog_5_method_8_code 4 = .ok (.iload_n 1, 1) := by decide +kernel
theorem d_Pan_roomOf_5 : decode prog_5_method_8_code 5 = .ok (.invokevirtual 46, 3) := by decide +kernel
theorem d_Pan_roomOf_8 : decode prog_5_method_8_code 8 = .ok (.aload_n 0, 1) := by decide +kernel
theorem d_Pan_roomOf_9 : decode prog_5_method_8_code 9 = .ok (.getfield 9, 3) := by decide +kernel
theorem d_Pan_roomOf_12 : decode prog_5_method_8_code 12 = .ok (.iload_n 1, 1) := by decide +kernel
theorem d_Pan_roomOf_13 : decode prog_5_method_8_code 13 = .ok (.iaload, 1) := by decide +kernel
theorem d_Pan_roomOf_14 : decode prog_5_method_8_code 14 = .ok (.isub, 1) := by decide +kernel
theorem d_Pan_roomOf_15 : decode prog_5_method_8_code 15 = .ok (.ireturn, 1) := by decide +kernel
theorem d_Pan_sumOf_0 : decode prog_5_method_9_code 0 = .ok (.iconst 0, 1) := by decide +kernel
theorem d_Pan_sumOf_1 : decode prog_5_method_9_code 1 = .ok (.istore_n 2, 1) := by decide +kernel
theorem d_Pan_sumOf_2 : decode prog_5_method_9_code 2 = .ok (.iconst 0, 1) := by decide +kernel
theorem d_Pan_sumOf_3 : decode prog_5_method_9_code 3 = .ok (.istore_n 3, 1) := by decide +kernel
theorem d_Pan_sumOf_4 : decode prog_5_method_9_code 4 = .ok (.iload_n 3, 1) := by decide +kernel
theorem d_Pan_sumOf_5 : decode prog_5_method_9_code 5 = .ok (.aload_n 0, 1) := by decide +kernel
theorem d_Pan_sumOf_6 : decode prog_5_method_9_code 6 = .ok (.getfield 28, 3) := by decide +kernel
theorem d_Pan_sumOf_9 : decode prog_5_method_9_code 9 = .ok (.getfield 49, 3) := by decide +kernel
theorem d_Pan_sumOf_12 : decode prog_5_method_9_code 12 = .ok (.if_icmp .ge 15, 3) := by decide +kernel
theorem d_Pan_sumOf_15 : decode prog_5_method_9_code 15 = .ok (.iload_n 2, 1) := by decide +kernel
theorem d_Pan_sumOf_16 : decode prog_5_method_9_code 16 = .ok (.aload_n 1, 1) := by decide +kernel
theorem d_Pan_sumOf_17 : decode prog_5_method_9_code 17 = .ok (.iload_n 3, 1) := by decide +kernel
theorem d_Pan_sumOf_18 : decode prog_5_method_9_code 18 = .ok (.iaload, 1) := by decide +kernel
theorem d_Pan_sumOf_19 : decode prog_5_method_9_code 19 = .ok (.iadd, 1) := by decide +kernel
theorem d_Pan_sumOf_20 : decode prog_5_method_9_code 20 = .ok (.istore_n 2, 1) := by decide +kernel
theorem d_Pan_sumOf_21 : decode prog_5_method_9_code 21 = .ok (.iinc 3 1, 3) := by decide +kernel
theorem d_Pan_sumOf_24 : decode prog_5_method_9_code 24 = .ok (.goto (-20), 3) := by decide +kernel
theorem d_Pan_sumOf_27 : decode prog_5_method_9_code 27 = .ok (.iload_n 2, 1) := by decide +kernel
theorem d_Pan_sumOf_28 : decode prog_5_method_9_code 28 = .ok (.ireturn, 1) := by decide +kernel
theorem d_Pan_crustOfAll_0 : decode prog_5_method_10_code 0 = .ok (.iconst 0, 1) := by decide +kernel
theorem d_Pan_crustOfAll_1 : decode prog_5_method_10_code 1 = .ok (.istore_n 1, 1) := by decide +kernel
theorem d_Pan_crustOfAll_2 : decode prog_5_method_10_code 2 = .ok (.iconst 0, 1) := by decide +kernel
theorem d_Pan_crustOfAll_3 : decode prog_5_method_10_code 3 = .ok (.istore_n 2, 1) := by decide +kernel
theorem d_Pan_crustOfAll_4 : decode prog_5_method_10_code 4 = .ok (.iload_n 2, 1) := by decide +kernel
theorem d_Pan_crustOfAll_5 : decode prog_5_method_10_code 5 = .ok (.aload_n 0, 1) := by decide +kernel
theorem d_Pan_crustOfAll_6 : decode prog_5_method_10_code 6 = .ok (.getfield 28, 3) := by decide +kernel
theorem d_Pan_crustOfAll_9 : decode prog_5_method_10_code 9 = .ok (.getfield 49, 3) := by decide +kernel
theorem d_Pan_crustOfAll_12 : decode prog_5_method_10_code 12 = .ok (.if_icmp .ge 17, 3) := by decide +kernel
theorem d_Pan_crustOfAll_15 : decode prog_5_method_10_code 15 = .ok (.iload_n 1, 1) := by decide +kernel
theorem d_Pan_crustOfAll_16 : decode prog_5_method_10_code 16 = .ok (.aload_n 0, 1) := by decide +kernel
theorem d_Pan_crustOfAll_17 : decode prog_5_method_10_code 17 = .ok (.iload_n 2, 1) := by decide +kernel
theorem d_Pan_crustOfAll_18 : decode prog_5_method_10_code 18 = .ok (.invokevirtual 52, 3) := by decide +kernel
theorem d_Pan_crustOfAll_21 : decode prog_5_method_10_code 21 = .ok (.iadd, 1) := by decide +kernel
theorem d_Pan_crustOfAll_22 : decode prog_5_method_10_code 22 = .ok (.istore_n 1, 1) := by decide +kernel
theorem d_Pan_crustOfAll_23 : decode prog_5_method_10_code 23 = .ok (.iinc 2 1, 3) := by decide +kernel
theorem d_Pan_crustOfAll_26 : decode prog_5_method_10_code 26 = .ok (.goto (-22), 3) := by decide +kernel
theorem d_Pan_crustOfAll_29 : decode prog_5_method_10_code 29 = .ok (.iload_n 1, 1) := by decide +kernel
theorem d_Pan_crustOfAll_30 : decode prog_5_method_10_code 30 = .ok (.ireturn, 1) := by decide +kernel
theorem d_Pan_canRake_0 : decode prog_5_method_11_code 0 = .ok (.aload_n 0, 1) := by decide +kernel
theorem d_Pan_canRake_1 : decode prog_5_method_11_code 1 = .ok (.getfield 9, 3) := by decide +kernel
theorem d_Pan_canRake_4 : decode prog_5_method_11_code 4 = .ok (.iload_n 1, 1) := by decide +kernel
theorem d_Pan_canRake_5 : decode prog_5_method_11_code 5 = .ok (.iaload, 1) := by decide +kernel
theorem d_Pan_canRake_6 : decode prog_5_method_11_code 6 = .ok (.iconst 1, 1) := by decide +kernel
theorem d_Pan_canRake_7 : decode prog_5_method_11_code 7 = .ok (.if_icmp .gt 15, 3) := by decide +kernel
theorem d_Pan_canRake_10 : decode prog_5_method_11_code 10 = .ok (.aload_n 0, 1) := by decide +kernel
theorem d_Pan_canRake_11 : decode prog_5_method_11_code 11 = .ok (.iload_n 1, 1) := by decide +kernel
theorem d_Pan_canRake_12 : decode prog_5_method_11_code 12 = .ok (.invokevirtual 52, 3) := by decide +kernel
theorem d_Pan_canRake_15 : decode prog_5_method_11_code 15 = .ok (.ifCond .le 7, 3) := by decide +kernel
theorem d_Pan_canRake_18 : decode prog_5_method_11_code 18 = .ok (.iconst 1, 1) := by decide +kernel
theorem d_Pan_canRake_19 : decode prog_5_method_11_code 19 = .ok (.goto 4, 3) := by decide +kernel
theorem d_Pan_canRake_22 : decode prog_5_method_11_code 22 = .ok (.iconst 0, 1) := by decide +kernel
theorem d_Pan_canRake_23 : decode prog_5_method_11_code 23 = .ok (.ireturn, 1) := by decide +kernel
theorem d_Pan_rakeable_0 : decode prog_5_method_12_code 0 = .ok (.iconst 0, 1) := by decide +kernel
theorem d_Pan_rakeable_1 : decode prog_5_method_12_code 1 = .ok (.istore_n 1, 1) := by decide +kernel
theorem d_Pan_rakeable_2 : decode prog_5_method_12_code 2 = .ok (.iconst 0, 1) := by decide +kernel
theorem d_Pan_rakeable_3 : decode prog_5_method_12_code 3 = .ok (.istore_n 2, 1) := by decide +kernel
theorem d_Pan_rakeable_4 : decode prog_5_method_12_code 4 = .ok (.iload_n 2, 1) := by decide +kernel
theorem d_Pan_rakeable_5 : decode prog_5_method_12_code 5 = .ok (.aload_n 0, 1) := by decide +kernel
theorem d_Pan_rakeable_6 : decode prog_5_method_12_code 6 = .ok (.getfield 28, 3) := by decide +kernel
theorem d_Pan_rakeable_9 : decode prog_5_method_12_code 9 = .ok (.getfield 49, 3) := by decide +kernel
theorem d_Pan_rakeable_12 : decode prog_5_method_12_code 12 = .ok (.if_icmp .ge 23, 3) := by decide +kernel
theorem d_Pan_rakeable_15 : decode prog_5_method_12_code 15 = .ok (.aload_n 0, 1) := by decide +kernel
theorem d_Pan_rakeable_16 : decode prog_5_method_12_code 16 = .ok (.iload_n 2, 1) := by decide +kernel
theorem d_Pan_rakeable_17 : decode prog_5_method_12_code 17 = .ok (.invokevirtual 55, 3) := by decide +kernel
theorem d_Pan_rakeable_20 : decode prog_5_method_12_code 20 = .ok (.ifCond .eq 9, 3) := by decide +kernel
theorem d_Pan_rakeable_23 : decode prog_5_method_12_code 23 = .ok (.iload_n 1, 1) := by decide +kernel
theorem d_Pan_rakeable_24 : decode prog_5_method_12_code 24 = .ok (.iconst 1, 1) := by decide +kernel
theorem d_Pan_rakeable_25 : decode prog_5_method_12_code 25 = .ok (.iload_n 2, 1) := by decide +kernel
theorem d_Pan_rakeable_26 : decode prog_5_method_12_code 26 = .ok (.ishl, 1) := by decide +kernel
theorem d_Pan_rakeable_27 : decode prog_5_method_12_code 27 = .ok (.ior, 1) := by decide +kernel
theorem d_Pan_rakeable_28 : decode prog_5_method_12_code 28 = .ok (.istore_n 1, 1) := by decide +kernel
theorem d_Pan_rakeable_29 : decode prog_5_method_12_code 29 = .ok (.iinc 2 1, 3) := by decide +kernel
theorem d_Pan_rakeable_32 : decode prog_5_method_12_code 32 = .ok (.goto (-28), 3) := by decide +kernel
theorem d_Pan_rakeable_35 : decode prog_5_method_12_code 35 = .ok (.iload_n 1, 1) := by decide +kernel
theorem d_Pan_rakeable_36 : decode prog_5_method_12_code 36 = .ok (.ireturn, 1) := by decide +kernel
theorem d_Pan_isOpen_0 : decode prog_5_method_13_code 0 = .ok (.aload_n 0, 1) := by decide +kernel
theorem d_Pan_isOpen_1 : decode prog_5_method_13_code 1 = .ok (.getfield 18, 3) := by decide +kernel
theorem d_Pan_isOpen_4 : decode prog_5_method_13_code 4 = .ok (.iload_n 1, 1) := by decide +kernel
theorem d_Pan_isOpen_5 : decode prog_5_method_13_code 5 = .ok (.ishr, 1) := by decide +kernel
theorem d_Pan_isOpen_6 : decode prog_5_method_13_code 6 = .ok (.iconst 1, 1) := by decide +kernel
theorem d_Pan_isOpen_7 : decode prog_5_method_13_code 7 = .ok (.iand, 1) := by decide +kernel
theorem d_Pan_isOpen_8 : decode prog_5_method_13_code 8 = .ok (.iconst 1, 1) := by decide +kernel
theorem d_Pan_isOpen_9 : decode prog_5_method_13_code 9 = .ok (.if_icmp .ne 7, 3) := by decide +kernel
theorem d_Pan_isOpen_12 : decode prog_5_method_13_code 12 = .ok (.iconst 1, 1) := by decide +kernel
theorem d_Pan_isOpen_13 : decode prog_5_method_13_code 13 = .ok (.goto 4, 3) := by decide +kernel
theorem d_Pan_isOpen_16 : decode prog_5_method_13_code 16 = .ok (.iconst 0, 1) := by decide +kernel
theorem d_Pan_isOpen_17 : decode prog_5_method_13_code 17 = .ok (.ireturn, 1) := by decide +kernel
theorem d_Pan_setGate_0 : decode prog_5_method_14_code 0 = .ok (.aload_n 0, 1) := by decide +kernel
theorem d_Pan_setGate_1 : decode prog_5_method_14_code 1 = .ok (.iload_n 1, 1) := by decide +kernel
theorem d_Pan_setGate_2 : decode prog_5_method_14_code 2 = .ok (.invokevirtual 58, 3) := by decide +kernel
theorem d_Pan_setGate_5 : decode prog_5_method_14_code 5 = .ok (.iload_n 2, 1) := by decide +kernel
theorem d_Pan_setGate_6 : decode prog_5_method_14_code 6 = .ok (.if_icmp .eq 15, 3) := by decide +kernel
theorem d_Pan_setGate_9 : decode prog_5_method_14_code 9 = .ok (.aload_n 0, 1) := by decide +kernel
theorem d_Pan_setGate_10 : decode prog_5_method_14_code 10 = .ok (.dup, 1) := by decide +kernel
theorem d_Pan_setGate_11 : decode prog_5_method_14_code 11 = .ok (.getfield 18, 3) := by decide +kernel
theorem d_Pan_setGate_14 : decode prog_5_method_14_code 14 = .ok (.iconst 1, 1) := by decide +kernel
theorem d_Pan_setGate_15 : decode prog_5_method_14_code 15 = .ok (.iload_n 1, 1) := by decide +kernel
theorem d_Pan_setGate_16 : decode prog_5_method_14_code 16 = .ok (.ishl, 1) := by decide +kernel
theorem d_Pan_setGate_17 : decode prog_5_method_14_code 17 = .ok (.ixor, 1) := by decide +kernel
theorem d_Pan_setGate_18 : decode prog_5_method_14_code 18 = .ok (.putfield 18, 3) := by decide +kernel
theorem d_Pan_setGate_21 : decode prog_5_method_14_code 21 = .ok (.return_, 1) := by decide +kernel
theorem d_Pan_drain_0 : decode prog_5_method_15_code 0 = .ok (.iload_n 2, 1) := by decide +kernel
theorem d_Pan_drain_1 : decode prog_5_method_15_code 1 = .ok (.iconst 1, 1) := by decide +kernel
theorem d_Pan_drain_2 : decode prog_5_method_15_code 2 = .ok (.if_icmp .lt 13, 3) := by decide +kernel
theorem d_Pan_drain_5 : decode prog_5_method_15_code 5 = .ok (.aload_n 0, 1) := by decide +kernel
theorem d_Pan_drain_6 : decode prog_5_method_15_code 6 = .ok (.getfield 9, 3) := by decide +kernel
theorem d_Pan_drain_9 : decode prog_5_method_15_code 9 = .ok (.iload_n 1, 1) := by decide +kernel
theorem d_Pan_drain_10 : decode prog_5_method_15_code 10 = .ok (.iaload, 1) := by decide +kernel
theorem d_Pan_drain_11 : decode prog_5_method_15_code 11 = .ok (.iload_n 2, 1) := by decide +kernel
theorem d_Pan_drain_12 : decode prog_5_method_15_code 12 = .ok (.if_icmp .ge 5, 3) := by decide +kernel
theorem d_Pan_drain_15 : decode prog_5_method_15_code 15 = .ok (.iconst 0, 1) := by decide +kernel
theorem d_Pan_drain_16 : decode prog_5_method_15_code 16 = .ok (.ireturn, 1) := by decide +kernel
theorem d_Pan_drain_17 : decode prog_5_method_15_code 17 = .ok (.aload_n 0, 1) := by decide +kernel
theorem d_Pan_drain_18 : decode prog_5_method_15_code 18 = .ok (.iload_n 1, 1) := by decide +kernel
theorem d_Pan_drain_19 : decode prog_5_method_15_code 19 = .ok (.invokevirtual 42, 3) := by decide +kernel
theorem d_Pan_drain_22 : decode prog_5_method_15_code 22 = .ok (.iload_n 2, 1) := by decide +kernel
theorem d_Pan_drain_23 : decode prog_5_method_15_code 23 = .ok (.imul, 1) := by decide +kernel
theorem d_Pan_drain_24 : decode prog_5_method_15_code 24 = .ok (.aload_n 0, 1) := by decide +kernel
theorem d_Pan_drain_25 : decode prog_5_method_15_code 25 = .ok (.getfield 9, 3) := by decide +kernel
theorem d_Pan_drain_28 : decode prog_5_method_15_code 28 = .ok (.iload_n 1, 1) := by decide +kernel
theorem d_Pan_drain_29 : decode prog_5_method_15_code 29 = .ok (.iaload, 1) := by decide +kernel
theorem d_Pan_drain_30 : decode prog_5_method_15_code 30 = .ok (.idiv, 1) := by decide +kernel
theorem d_Pan_drain_31 : decode prog_5_method_15_code 31 = .ok (.istore_n 3, 1) := by decide +kernel
theorem d_Pan_drain_32 : decode prog_5_method_15_code 32 = .ok (.aload_n 0, 1) := by decide +kernel
theorem d_Pan_drain_33 : decode prog_5_method_15_code 33 = .ok (.getfield 9, 3) := by decide +kernel
theorem d_Pan_drain_36 : decode prog_5_method_15_code 36 = .ok (.iload_n 1, 1) := by decide +kernel
theorem d_Pan_drain_37 : decode prog_5_method_15_code 37 = .ok (.dup2, 1) := by decide +kernel
theorem d_Pan_drain_38 : decode prog_5_method_15_code 38 = .ok (.iaload, 1) := by decide +kernel
theorem d_Pan_drain_39 : decode prog_5_method_15_code 39 = .ok (.iload_n 2, 1) := by decide +kernel
theorem d_Pan_drain_40 : decode prog_5_method_15_code 40 = .ok (.isub, 1) := by decide +kernel
theorem d_Pan_drain_41 : decode prog_5_method_15_code 41 = .ok (.iastore, 1) := by decide +kernel
theorem d_Pan_drain_42 : decode prog_5_method_15_code 42 = .ok (.aload_n 0, 1) := by decide +kernel
theorem d_Pan_drain_43 : decode prog_5_method_15_code 43 = .ok (.getfield 15, 3) := by decide +kernel
theorem d_Pan_drain_46 : decode prog_5_method_15_code 46 = .ok (.iload_n 1, 1) := by decide +kernel
theorem d_Pan_drain_47 : decode prog_5_method_15_code 47 = .ok (.dup2, 1) := by decide +kernel
theorem d_Pan_drain_48 : decode prog_5_method_15_code 48 = .ok (.iaload, 1) := by decide +kernel
theorem d_Pan_drain_49 : decode prog_5_method_15_code 49 = .ok (.iload_n 3, 1) := by decide +kernel
theorem d_Pan_drain_50 : decode prog_5_method_15_code 50 = .ok (.isub, 1) := by decide +kernel
theorem d_Pan_drain_51 : decode prog_5_method_15_code 51 = .ok (.iastore, 1) := by decide +kernel
theorem d_Pan_drain_52 : decode prog_5_method_15_code 52 = .ok (.iload_n 3, 1) := by decide +kernel
theorem d_Pan_drain_53 : decode prog_5_method_15_code 53 = .ok (.ireturn, 1) := by decide +kernel
theorem d_Pan_fill_0 : decode prog_5_method_16_code 0 = .ok (.aload_n 0, 1) := by decide +kernel
theorem d_Pan_fill_1 : decode prog_5_method_16_code 1 = .ok (.getfield 9, 3) := by decide +kernel
theorem d_Pan_fill_4 : decode prog_5_method_16_code 4 = .ok (.iload_n 1, 1) := by decide +kernel
theorem d_Pan_fill_5 : decode prog_5_method_16_code 5 = .ok (.dup2, 1) := by decide +kernel
theorem d_Pan_fill_6 : decode prog_5_method_16_code 6 = .ok (.iaload, 1) := by decide +kernel
theorem d_Pan_fill_7 : decode prog_5_method_16_code 7 = .ok (.iload_n 2, 1) := by decide +kernel
theorem d_Pan_fill_8 : decode prog_5_method_16_code 8 = .ok (.iadd, 1) := by decide +kernel
theorem d_Pan_fill_9 : decode prog_5_method_16_code 9 = .ok (.iastore, 1) := by decide +kernel
theorem d_Pan_fill_10 : decode prog_5_method_16_code 10 = .ok (.aload_n 0, 1) := by decide +kernel
theorem d_Pan_fill_11 : decode prog_5_method_16_code 11 = .ok (.getfield 15, 3) := by decide +kernel
theorem d_Pan_fill_14 : decode prog_5_method_16_code 14 = .ok (.iload_n 1, 1) := by decide +kernel
theorem d_Pan_fill_15 : decode prog_5_method_16_code 15 = .ok (.sipush 999, 3) := by decide +kernel
theorem d_Pan_fill_18 : decode prog_5_method_16_code 18 = .ok (.aload_n 0, 1) := by decide +kernel
theorem d_Pan_fill_19 : decode prog_5_method_16_code 19 = .ok (.getfield 15, 3) := by decide +kernel
theorem d_Pan_fill_22 : decode prog_5_method_16_code 22 = .ok (.iload_n 1, 1) := by decide +kernel
theorem d_Pan_fill_23 : decode prog_5_method_16_code 23 = .ok (.iaload, 1) := by decide +kernel
theorem d_Pan_fill_24 : decode prog_5_method_16_code 24 = .ok (.iload_n 3, 1) := by decide +kernel
theorem d_Pan_fill_25 : decode prog_5_method_16_code 25 = .ok (.iadd, 1) := by decide +kernel
theorem d_Pan_fill_26 : decode prog_5_method_16_code 26 = .ok (.invokestatic 61, 3) := by decide +kernel
theorem d_Pan_fill_29 : decode prog_5_method_16_code 29 = .ok (.iastore, 1) := by decide +kernel
theorem d_Pan_fill_30 : decode prog_5_method_16_code 30 = .ok (.return_, 1) := by decide +kernel
theorem d_Bri_isFromTo_0 : decode prog_1_method_35_code 0 = .ok (.iload_n 0, 1) := by decide +kernel
theorem d_Bri_isFromTo_1 : decode prog_1_method_35_code 1 = .ok (.iload_n 1, 1) := by decide +kernel
theorem d_Bri_isFromTo_2 : decode prog_1_method_35_code 2 = .ok (.if_icmp .lt 12, 3) := by decide +kernel
theorem d_Bri_isFromTo_5 : decode prog_1_method_35_code 5 = .ok (.iload_n 0, 1) := by decide +kernel
theorem d_Bri_isFromTo_6 : decode prog_1_method_35_code 6 = .ok (.iload_n 2, 1) := by decide +kernel
theorem d_Bri_isFromTo_7 : decode prog_1_method_35_code 7 = .ok (.if_icmp .gt 7, 3) := by decide +kernel
theorem d_Bri_isFromTo_10 : decode prog_1_method_35_code 10 = .ok (.iconst 1, 1) := by decide +kernel
theorem d_Bri_isFromTo_11 : decode prog_1_method_35_code 11 = .ok (.goto 4, 3) := by decide +kernel
theorem d_Bri_isFromTo_14 : decode prog_1_method_35_code 14 = .ok (.iconst 0, 1) := by decide +kernel
theorem d_Bri_isFromTo_15 : decode prog_1_method_35_code 15 = .ok (.ireturn, 1) := by decide +kernel
theorem d_Pan_takeSea_0 : decode prog_5_method_17_code 0 = .ok (.aload_n 0, 1) := by decide +kernel
theorem d_Pan_takeSea_1 : decode prog_5_method_17_code 1 = .ok (.getfield 28, 3) := by decide +kernel
theorem d_Pan_takeSea_4 : decode prog_5_method_17_code 4 = .ok (.iconst 0, 1) := by decide +kernel
theorem d_Pan_takeSea_5 : decode prog_5_method_17_code 5 = .ok (.invokevirtual 36, 3) := by decide +kernel
theorem d_Pan_takeSea_8 : decode prog_5_method_17_code 8 = .ok (.ifCond .ne 5, 3) := by decide +kernel
theorem d_Pan_takeSea_11 : decode prog_5_method_17_code 11 = .ok (.iconst (-1), 1) := by decide +kernel
theorem d_Pan_takeSea_12 : decode prog_5_method_17_code 12 = .ok (.ireturn, 1) := by decide +kernel
theorem d_Pan_takeSea_13 : decode prog_5_method_17_code 13 = .ok (.iload_n 1, 1) := by decide +kernel
theorem d_Pan_takeSea_14 : decode prog_5_method_17_code 14 = .ok (.iconst 1, 1) := by decide +kernel
theorem d_Pan_takeSea_15 : decode prog_5_method_17_code 15 = .ok (.bipush 9, 2) := by decide +kernel
theorem d_Pan_takeSea_17 : decode prog_5_method_17_code 17 = .ok (.invokestatic 67, 3) := by decide +kernel
theorem d_Pan_takeSea_20 : decode prog_5_method_17_code 20 = .ok (.ifCond .ne 6, 3) := by decide +kernel
theorem d_Pan_takeSea_23 : decode prog_5_method_17_code 23 = .ok (.bipush (-2), 2) := by decide +kernel
theorem d_Pan_takeSea_25 : decode prog_5_method_17_code 25 = .ok (.ireturn, 1) := by decide +kernel
theorem d_Pan_takeSea_26 : decode prog_5_method_17_code 26 = .ok (.aload_n 0, 1) := by decide +kernel
theorem d_Pan_takeSea_27 : decode prog_5_method_17_code 27 = .ok (.iconst 0, 1) := by decide +kernel
theorem d_Pan_takeSea_28 : decode prog_5_method_17_code 28 = .ok (.invokevirtual 71, 3) := by decide +kernel
theorem d_Pan_takeSea_31 : decode prog_5_method_17_code 31 = .ok (.iload_n 1, 1) := by decide +kernel
theorem d_Pan_takeSea_32 : decode prog_5_method_17_code 32 = .ok (.if_icmp .ge 6, 3) := by decide +kernel
theorem d_Pan_takeSea_35 : decode prog_5_method_17_code 35 = .ok (.bipush (-4), 2) := by decide +kernel
theorem d_Pan_takeSea_37 : decode prog_5_method_17_code 37 = .ok (.ireturn, 1) := by decide +kernel
theorem d_Pan_takeSea_38 : decode prog_5_method_17_code 38 = .ok (.aload_n 0, 1) := by decide +kernel
theorem d_Pan_takeSea_39 : decode prog_5_method_17_code 39 = .ok (.iconst 0, 1) := by decide +kernel
theorem d_Pan_takeSea_40 : decode prog_5_method_17_code 40 = .ok (.iload_n 1, 1) := by decide +kernel
theorem d_Pan_takeSea_41 : decode prog_5_method_17_code 41 = .ok (.iconst 2, 1) := by decide +kernel
theorem d_Pan_takeSea_42 : decode prog_5_method_17_code 42 = .ok (.iload_n 1, 1) := by decide +kernel
theorem d_Pan_takeSea_43 : decode prog_5_method_17_code 43 = .ok (.imul, 1) := by decide +kernel
theorem d_Pan_takeSea_44 : decode prog_5_method_17_code 44 = .ok (.invokevirtual 74, 3) := by decide +kernel
theorem d_Pan_takeSea_47 : decode prog_5_method_17_code 47 = .ok (.aload_n 0, 1) := by decide +kernel
theorem d_Pan_takeSea_48 : decode prog_5_method_17_code 48 = .ok (.getfield 9, 3) := by decide +kernel
theorem d_Pan_takeSea_51 : decode prog_5_method_17_code 51 = .ok (.iconst 0, 1) := by decide +kernel
theorem d_Pan_takeSea_52 : decode prog_5_method_17_code 52 = .ok (.iaload, 1) := by decide +kernel
theorem d_Pan_takeSea_53 : decode prog_5_method_17_code 53 = .ok (.ireturn, 1) := by decide +kernel
theorem d_Pan_letOn_0 : decode prog_5_method_18_code 0 = .ok (.aload_n 0, 1) := by decide +kernel
theorem d_Pan_letOn_1 : decode prog_5_method_18_code 1 = .ok (.getfield 28, 3) := by decide +kernel
theorem d_Pan_letOn_4 : decode prog_5_method_18_code 4 = .ok (.iload_n 1, 1) := by decide +kernel
theorem d_Pan_letOn_5 : decode prog_5_method_18_code 5 = .ok (.invokevirtual 78, 3) := by decide +kernel
theorem d_Pan_letOn_8 : decode prog_5_method_18_code 8 = .ok (.ifCond .ne 5, 3) := by decide +kernel
theorem d_Pan_letOn_11 : decode prog_5_method_18_code 11 = .ok (.iconst (-1), 1) := by decide +kernel
theorem d_Pan_letOn_12 : decode prog_5_method_18_code 12 = .ok (.ireturn, 1) := by decide +kernel
theorem d_Pan_letOn_13 : decode prog_5_method_18_code 13 = .ok (.iload_n 2, 1) := by decide +kernel
theorem d_Pan_letOn_14 : decode prog_5_method_18_code 14 = .ok (.iconst 1, 1) := by decide +kernel
theorem d_Pan_letOn_15 : decode prog_5_method_18_code 15 = .ok (.bipush 9, 2) := by decide +kernel
theorem d_Pan_letOn_17 : decode prog_5_method_18_code 17 = .ok (.invokestatic 67, 3) := by decide +kernel
theorem d_Pan_letOn_20 : decode prog_5_method_18_code 20 = .ok (.ifCond .ne 6, 3) := by decide +kernel
theorem d_Pan_letOn_23 : decode prog_5_method_18_code 23 = .ok (.bipush (-2), 2) := by decide +kernel
theorem d_Pan_letOn_25 : decode prog_5_method_18_code 25 = .ok (.ireturn, 1) := by decide +kernel
theorem d_Pan_letOn_26 : decode prog_5_method_18_code 26 = .ok (.aload_n 0, 1) := by decide +kernel
theorem d_Pan_letOn_27 : decode prog_5_method_18_code 27 = .ok (.getfield 9, 3) := by decide +kernel
theorem d_Pan_letOn_30 : decode prog_5_method_18_code 30 = .ok (.iload_n 1, 1) := by decide +kernel
theorem d_Pan_letOn_31 : decode prog_5_method_18_code 31 = .ok (.iaload, 1) := by decide +kernel
theorem d_Pan_letOn_32 : decode prog_5_method_18_code 32 = .ok (.iload_n 2, 1) := by decide +kernel
theorem d_Pan_letOn_33 : decode prog_5_method_18_code 33 = .ok (.if_icmp .ge 6, 3) := by decide +kernel
theorem d_Pan_letOn_36 : decode prog_5_method_18_code 36 = .ok (.bipush (-3), 2) := by decide +kernel
theorem d_Pan_letOn_38 : decode prog_5_method_18_code 38 = .ok (.ireturn, 1) := by decide +kernel
theorem d_Pan_letOn_39 : decode prog_5_method_18_code 39 = .ok (.aload_n 0, 1) := by decide +kernel
theorem d_Pan_letOn_40 : decode prog_5_method_18_code 40 = .ok (.iload_n 1, 1) := by decide +kernel
theorem d_Pan_letOn_41 : decode prog_5_method_18_code 41 = .ok (.iconst 1, 1) := by decide +kernel
theorem d_Pan_letOn_42 : decode prog_5_method_18_code 42 = .ok (.iadd, 1) := by decide +kernel
theorem d_Pan_letOn_43 : decode prog_5_method_18_code 43 = .ok (.invokevirtual 71, 3) := by decide +kernel
theorem d_Pan_letOn_46 : decode prog_5_method_18_code 46 = .ok (.iload_n 2, 1) := by decide +kernel
theorem d_Pan_letOn_47 : decode prog_5_method_18_code 47 = .ok (.if_icmp .ge 6, 3) := by decide +kernel
theorem d_Pan_letOn_50 : decode prog_5_method_18_code 50 = .ok (.bipush (-4), 2) := by decide +kernel
theorem d_Pan_letOn_52 : decode prog_5_method_18_code 52 = .ok (.ireturn, 1) := by decide +kernel
theorem d_Pan_letOn_53 : decode prog_5_method_18_code 53 = .ok (.aload_n 0, 1) := by decide +kernel
theorem d_Pan_letOn_54 : decode prog_5_method_18_code 54 = .ok (.iload_n 1, 1) := by decide +kernel
theorem d_Pan_letOn_55 : decode prog_5_method_18_code 55 = .ok (.iload_n 2, 1) := by decide +kernel
theorem d_Pan_letOn_56 : decode prog_5_method_18_code 56 = .ok (.invokevirtual 81, 3) := by decide +kernel
theorem d_Pan_letOn_59 : decode prog_5_method_18_code 59 = .ok (.istore_n 3, 1) := by decide +kernel
theorem d_Pan_letOn_60 : decode prog_5_method_18_code 60 = .ok (.aload_n 0, 1) := by decide +kernel
theorem d_Pan_letOn_61 : decode prog_5_method_18_code 61 = .ok (.iload_n 1, 1) := by decide +kernel
theorem d_Pan_letOn_62 : decode prog_5_method_18_code 62 = .ok (.iconst 1, 1) := by decide +kernel
theorem d_Pan_letOn_63 : decode prog_5_method_18_code 63 = .ok (.iadd, 1) := by decide +kernel
theorem d_Pan_letOn_64 : decode prog_5_method_18_code 64 = .ok (.iload_n 2, 1) := by decide +kernel
theorem d_Pan_letOn_65 : decode prog_5_method_18_code 65 = .ok (.iload_n 3, 1) := by decide +kernel
theorem d_Pan_letOn_66 : decode prog_5_method_18_code 66 = .ok (.invokevirtual 74, 3) := by decide +kernel
theorem d_Pan_letOn_69 : decode prog_5_method_18_code 69 = .ok (.iload_n 3, 1) := by decide +kernel
theorem d_Pan_letOn_70 : decode prog_5_method_18_code 70 = .ok (.ireturn, 1) := by decide +kernel
theorem d_Pan_turnGate_0 : decode prog_5_method_19_code 0 = .ok (.aload_n 0, 1) := by decide +kernel
theorem d_Pan_turnGate_1 : decode prog_5_method_19_code 1 = .ok (.getfield 28, 3) := by decide +kernel
theorem d_Pan_turnGate_4 : decode prog_5_method_19_code 4 = .ok (.iload_n 1, 1) := by decide +kernel
theorem d_Pan_turnGate_5 : decode prog_5_method_19_code 5 = .ok (.invokevirtual 78, 3) := by decide +kernel
theorem d_Pan_turnGate_8 : decode prog_5_method_19_code 8 = .ok (.ifCond .ne 5, 3) := by decide +kernel
theorem d_Pan_turnGate_11 : decode prog_5_method_19_code 11 = .ok (.iconst (-1), 1) := by decide +kernel
theorem d_Pan_turnGate_12 : decode prog_5_method_19_code 12 = .ok (.ireturn, 1) := by decide +kernel
theorem d_Pan_turnGate_13 : decode prog_5_method_19_code 13 = .ok (.aload_n 0, 1) := by decide +kernel
theorem d_Pan_turnGate_14 : decode prog_5_method_19_code 14 = .ok (.iload_n 1, 1) := by decide +kernel
theorem d_Pan_turnGate_15 : decode prog_5_method_19_code 15 = .ok (.aload_n 0, 1) := by decide +kernel
theorem d_Pan_turnGate_16 : decode prog_5_method_19_code 16 = .ok (.iload_n 1, 1) := by decide +kernel
theorem d_Pan_turnGate_17 : decode prog_5_method_19_code 17 = .ok (.invokevirtual 58, 3) := by decide +kernel
theorem d_Pan_turnGate_20 : decode prog_5_method_19_code 20 = .ok (.ifCond .ne 7, 3) := by decide +kernel
theorem d_Pan_turnGate_23 : decode prog_5_method_19_code 23 = .ok (.iconst 1, 1) := by decide +kernel
theorem d_Pan_turnGate_24 : decode prog_5_method_19_code 24 = .ok (.goto 4, 3) := by decide +kernel
theorem d_Pan_turnGate_27 : decode prog_5_method_19_code 27 = .ok (.iconst 0, 1) := by decide +kernel
theorem d_Pan_turnGate_28 : decode prog_5_method_19_code 28 = .ok (.invokevirtual 84, 3) := by decide +kernel
theorem d_Pan_turnGate_31 : decode prog_5_method_19_code 31 = .ok (.aload_n 0, 1) := by decide +kernel
theorem d_Pan_turnGate_32 : decode prog_5_method_19_code 32 = .ok (.iload_n 1, 1) := by decide +kernel
theorem d_Pan_turnGate_33 : decode prog_5_method_19_code 33 = .ok (.invokevirtual 58, 3) := by decide +kernel
theorem d_Pan_turnGate_36 : decode prog_5_method_19_code 36 = .ok (.ifCond .eq 7, 3) := by decide +kernel
theorem d_Pan_turnGate_39 : decode prog_5_method_19_code 39 = .ok (.iconst 1, 1) := by decide +kernel
theorem d_Pan_turnGate_40 : decode prog_5_method_19_code 40 = .ok (.goto 4, 3) := by decide +kernel
theorem d_Pan_turnGate_43 : decode prog_5_method_19_code 43 = .ok (.iconst 0, 1) := by decide +kernel
theorem d_Pan_turnGate_44 : decode prog_5_method_19_code 44 = .ok (.ireturn, 1) := by decide +kernel
theorem d_Pan_rakeUp_0 : decode prog_5_method_20_code 0 = .ok (.aload_n 0, 1) := by decide +kernel
theorem d_Pan_rakeUp_1 : decode prog_5_method_20_code 1 = .ok (.getfield 28, 3) := by decide +kernel
theorem d_Pan_rakeUp_4 : decode prog_5_method_20_code 4 = .ok (.iload_n 1, 1) := by decide +kernel
theorem d_Pan_rakeUp_5 : decode prog_5_method_20_code 5 = .ok (.invokevirtual 36, 3) := by decide +kernel
theorem d_Pan_rakeUp_8 : decode prog_5_method_20_code 8 = .ok (.ifCond .ne 5, 3) := by decide +kernel
theorem d_Pan_rakeUp_11 : decode prog_5_method_20_code 11 = .ok (.iconst (-1), 1) := by decide +kernel
theorem d_Pan_rakeUp_12 : decode prog_5_method_20_code 12 = .ok (.ireturn, 1) := by decide +kernel
theorem d_Pan_rakeUp_13 : decode prog_5_method_20_code 13 = .ok (.aload_n 0, 1) := by decide +kernel
theorem d_Pan_rakeUp_14 : decode prog_5_method_20_code 14 = .ok (.iload_n 1, 1) := by decide +kernel
theorem d_Pan_rakeUp_15 : decode prog_5_method_20_code 15 = .ok (.invokevirtual 55, 3) := by decide +kernel
theorem d_Pan_rakeUp_18 : decode prog_5_method_20_code 18 = .ok (.ifCond .ne 6, 3) := by decide +kernel
theorem d_Pan_rakeUp_21 : decode prog_5_method_20_code 21 = .ok (.bipush (-3), 2) := by decide +kernel
theorem d_Pan_rakeUp_23 : decode prog_5_method_20_code 23 = .ok (.ireturn, 1) := by decide +kernel
theorem d_Pan_rakeUp_24 : decode prog_5_method_20_code 24 = .ok (.aload_n 0, 1) := by decide +kernel
theorem d_Pan_rakeUp_25 : decode prog_5_method_20_code 25 = .ok (.iload_n 1, 1) := by decide +kernel
theorem d_Pan_rakeUp_26 : decode prog_5_method_20_code 26 = .ok (.invokevirtual 52, 3) := by decide +kernel
theorem d_Pan_rakeUp_29 : decode prog_5_method_20_code 29 = .ok (.istore_n 2, 1) := by decide +kernel
theorem d_Pan_rakeUp_30 : decode prog_5_method_20_code 30 = .ok (.aload_n 0, 1) := by decide +kernel
theorem d_Pan_rakeUp_31 : decode prog_5_method_20_code 31 = .ok (.getfield 15, 3) := by decide +kernel
theorem d_Pan_rakeUp_34 : decode prog_5_method_20_code 34 = .ok (.iload_n 1, 1) := by decide +kernel
theorem d_Pan_rakeUp_35 : decode prog_5_method_20_code 35 = .ok (.dup2, 1) := by decide +kernel
theorem d_Pan_rakeUp_36 : decode prog_5_method_20_code 36 = .ok (.iaload, 1) := by decide +kernel
theorem d_Pan_rakeUp_37 : decode prog_5_method_20_code 37 = .ok (.iload_n 2, 1) := by decide +kernel
theorem d_Pan_rakeUp_38 : decode prog_5_method_20_code 38 = .ok (.isub, 1) := by decide +kernel
theorem d_Pan_rakeUp_39 : decode prog_5_method_20_code 39 = .ok (.iastore, 1) := by decide +kernel
theorem d_Pan_rakeUp_40 : decode prog_5_method_20_code 40 = .ok (.aload_n 0, 1) := by decide +kernel
theorem d_Pan_rakeUp_41 : decode prog_5_method_20_code 41 = .ok (.sipush 9999, 3) := by decide +kernel
theorem d_Pan_rakeUp_44 : decode prog_5_method_20_code 44 = .ok (.aload_n 0, 1) := by decide +kernel
theorem d_Pan_rakeUp_45 : decode prog_5_method_20_code 45 = .ok (.getfield 22, 3) := by decide +kernel
theorem d_Pan_rakeUp_48 : decode prog_5_method_20_code 48 = .ok (.iload_n 2, 1) := by decide +kernel
theorem d_Pan_rakeUp_49 : decode prog_5_method_20_code 49 = .ok (.iadd, 1) := by decide +kernel
theorem d_Pan_rakeUp_50 : decode prog_5_method_20_code 50 = .ok (.invokestatic 61, 3) := by decide +kernel
theorem d_Pan_rakeUp_53 : decode prog_5_method_20_code 53 = .ok (.putfield 22, 3) := by decide +kernel
theorem d_Pan_rakeUp_56 : decode prog_5_method_20_code 56 = .ok (.iload_n 2, 1) := by decide +kernel
theorem d_Pan_rakeUp_57 : decode prog_5_method_20_code 57 = .ok (.ireturn, 1) := by decide +kernel
theorem d_Pan_rain_0 : decode prog_5_method_22_code 0 = .ok (.iconst 0, 1) := by decide +kernel
theorem d_Pan_rain_1 : decode prog_5_method_22_code 1 = .ok (.istore_n 2, 1) := by decide +kernel
theorem d_Pan_rain_2 : decode prog_5_method_22_code 2 = .ok (.iload_n 2, 1) := by decide +kernel
theorem d_Pan_rain_3 : decode prog_5_method_22_code 3 = .ok (.aload_n 0, 1) := by decide +kernel
theorem d_Pan_rain_4 : decode prog_5_method_22_code 4 = .ok (.getfield 28, 3) := by decide +kernel
theorem d_Pan_rain_7 : decode prog_5_method_22_code 7 = .ok (.getfield 49, 3) := by decide +kernel
theorem d_Pan_rain_10 : decode prog_5_method_22_code 10 = .ok (.if_icmp .ge 27, 3) := by decide +kernel
theorem d_Pan_rain_13 : decode prog_5_method_22_code 13 = .ok (.aload_n 0, 1) := by decide +kernel
theorem d_Pan_rain_14 : decode prog_5_method_22_code 14 = .ok (.getfield 9, 3) := by decide +kernel
theorem d_Pan_rain_17 : decode prog_5_method_22_code 17 = .ok (.iload_n 2, 1) := by decide +kernel
theorem d_Pan_rain_18 : decode prog_5_method_22_code 18 = .ok (.dup2, 1) := by decide +kernel
theorem d_Pan_rain_19 : decode prog_5_method_22_code 19 = .ok (.iaload, 1) := by decide +kernel
theorem d_Pan_rain_20 : decode prog_5_method_22_code 20 = .ok (.iload_n 1, 1) := by decide +kernel
theorem d_Pan_rain_21 : decode prog_5_method_22_code 21 = .ok (.aload_n 0, 1) := by decide +kernel
theorem d_Pan_rain_22 : decode prog_5_method_22_code 22 = .ok (.iload_n 2, 1) := by decide +kernel
theorem d_Pan_rain_23 : decode prog_5_method_22_code 23 = .ok (.invokevirtual 71, 3) := by decide +kernel
theorem d_Pan_rain_26 : decode prog_5_method_22_code 26 = .ok (.invokestatic 61, 3) := by decide +kernel
theorem d_Pan_rain_29 : decode prog_5_method_22_code 29 = .ok (.iadd, 1) := by decide +kernel
theorem d_Pan_rain_30 : decode prog_5_method_22_code 30 = .ok (.iastore, 1) := by decide +kernel
theorem d_Pan_rain_31 : decode prog_5_method_22_code 31 = .ok (.iinc 2 1, 3) := by decide +kernel
theorem d_Pan_rain_34 : decode prog_5_method_22_code 34 = .ok (.goto (-32), 3) := by decide +kernel
theorem d_Pan_rain_37 : decode prog_5_method_22_code 37 = .ok (.return_, 1) := by decide +kernel
theorem d_Pan_shine_0 : decode prog_5_method_23_code 0 = .ok (.iconst 0, 1) := by decide +kernel
theorem d_Pan_shine_1 : decode prog_5_method_23_code 1 = .ok (.istore_n 2, 1) := by decide +kernel
theorem d_Pan_shine_2 : decode prog_5_method_23_code 2 = .ok (.iload_n 2, 1) := by decide +kernel
theorem d_Pan_shine_3 : decode prog_5_method_23_code 3 = .ok (.aload_n 0, 1) := by decide +kernel
theorem d_Pan_shine_4 : decode prog_5_method_23_code 4 = .ok (.getfield 28, 3) := by decide +kernel
theorem d_Pan_shine_7 : decode prog_5_method_23_code 7 = .ok (.getfield 49, 3) := by decide +kernel
theorem d_Pan_shine_10 : decode prog_5_method_23_code 10 = .ok (.if_icmp .ge 48, 3) := by decide +kernel
theorem d_Pan_shine_13 : decode prog_5_method_23_code 13 = .ok (.aload_n 0, 1) := by decide +kernel
theorem d_Pan_shine_14 : decode prog_5_method_23_code 14 = .ok (.getfield 28, 3) := by decide +kernel
theorem d_Pan_shine_17 : decode prog_5_method_23_code 17 = .ok (.getfield 95, 3) := by decide +kernel
theorem d_Pan_shine_20 : decode prog_5_method_23_code 20 = .ok (.iload_n 2, 1) := by decide +kernel
theorem d_Pan_shine_21 : decode prog_5_method_23_code 21 = .ok (.iaload, 1) := by decide +kernel
theorem d_Pan_shine_22 : decode prog_5_method_23_code 22 = .ok (.iconst 2, 1) := by decide +kernel
theorem d_Pan_shine_23 : decode prog_5_method_23_code 23 = .ok (.if_icmp .ne 9, 3) := by decide +kernel
theorem d_Pan_shine_26 : decode prog_5_method_23_code 26 = .ok (.iload_n 1, 1) := by decide +kernel
theorem d_Pan_shine_27 : decode prog_5_method_23_code 27 = .ok (.iconst 1, 1) := by decide +kernel
theorem d_Pan_shine_28 : decode prog_5_method_23_code 28 = .ok (.iadd, 1) := by decide +kernel
theorem d_Pan_shine_29 : decode prog_5_method_23_code 29 = .ok (.goto 4, 3) := by decide +kernel
theorem d_Pan_shine_32 : decode prog_5_method_23_code 32 = .ok (.iload_n 1, 1) := by decide +kernel
theorem d_Pan_shine_33 : decode prog_5_method_23_code 33 = .ok (.istore_n 3, 1) := by decide +kernel
theorem d_Pan_shine_34 : decode prog_5_method_23_code 34 = .ok (.aload_n 0, 1) := by decide +kernel
theorem d_Pan_shine_35 : decode prog_5_method_23_code 35 = .ok (.getfield 9, 3) := by decide +kernel
theorem d_Pan_shine_38 : decode prog_5_method_23_code 38 = .ok (.iload_n 2, 1) := by decide +kernel
theorem d_Pan_shine_39 : decode prog_5_method_23_code 39 = .ok (.iconst 0, 1) := by decide +kernel
theorem d_Pan_shine_40 : decode prog_5_method_23_code 40 = .ok (.aload_n 0, 1) := by decide +kernel
theorem d_Pan_shine_41 : decode prog_5_method_23_code 41 = .ok (.getfield 9, 3) := by decide +kernel
theorem d_Pan_shine_44 : decode prog_5_method_23_code 44 = .ok (.iload_n 2, 1) := by decide +kernel
theorem d_Pan_shine_45 : decode prog_5_method_23_code 45 = .ok (.iaload, 1) := by decide +kernel
theorem d_Pan_shine_46 : decode prog_5_method_23_code 46 = .ok (.iload_n 3, 1) := by decide +kernel
theorem d_Pan_shine_47 : decode prog_5_method_23_code 47 = .ok (.isub, 1) := by decide +kernel
theorem d_Pan_shine_48 : decode prog_5_method_23_code 48 = .ok (.invokestatic 107, 3) := by decide +kernel
theorem d_Pan_shine_51 : decode prog_5_method_23_code 51 = .ok (.iastore, 1) := by decide +kernel
theorem d_Pan_shine_52 : decode prog_5_method_23_code 52 = .ok (.iinc 2 1, 3) := by decide +kernel
theorem d_Pan_shine_55 : decode prog_5_method_23_code 55 = .ok (.goto (-53), 3) := by decide +kernel
theorem d_Pan_shine_58 : decode prog_5_method_23_code 58 = .ok (.return_, 1) := by decide +kernel
theorem d_Pan_passDay_0 : decode prog_5_method_21_code 0 = .ok (.iconst 0, 1) := by decide +kernel
theorem d_Pan_passDay_1 : decode prog_5_method_21_code 1 = .ok (.istore_n 2, 1) := by decide +kernel
theorem d_Pan_passDay_2 : decode prog_5_method_21_code 2 = .ok (.iload_n 2, 1) := by decide +kernel
theorem d_Pan_passDay_3 : decode prog_5_method_21_code 3 = .ok (.aload_n 0, 1) := by decide +kernel
theorem d_Pan_passDay_4 : decode prog_5_method_21_code 4 = .ok (.getfield 28, 3) := by decide +kernel
theorem d_Pan_passDay_7 : decode prog_5_method_21_code 7 = .ok (.invokevirtual 88, 3) := by decide +kernel
theorem d_Pan_passDay_10 : decode prog_5_method_21_code 10 = .ok (.if_icmp .ge 24, 3) := by decide +kernel
theorem d_Pan_passDay_13 : decode prog_5_method_21_code 13 = .ok (.aload_n 0, 1) := by decide +kernel
theorem d_Pan_passDay_14 : decode prog_5_method_21_code 14 = .ok (.iload_n 2, 1) := by decide +kernel
theorem d_Pan_passDay_15 : decode prog_5_method_21_code 15 = .ok (.invokevirtual 58, 3) := by decide +kernel
theorem d_Pan_passDay_18 : decode prog_5_method_21_code 18 = .ok (.ifCond .eq 10, 3) := by decide +kernel
theorem d_Pan_passDay_21 : decode prog_5_method_21_code 21 = .ok (.aload_n 0, 1) := by decide +kernel
theorem d_Pan_passDay_22 : decode prog_5_method_21_code 22 = .ok (.iload_n 2, 1) := by decide +kernel
theorem d_Pan_passDay_23 : decode prog_5_method_21_code 23 = .ok (.iconst 1, 1) := by decide +kernel
theorem d_Pan_passDay_24 : decode prog_5_method_21_code 24 = .ok (.invokevirtual 92, 3) := by decide +kernel
theorem d_Pan_passDay_27 : decode prog_5_method_21_code 27 = .ok (.pop, 1) := by decide +kernel
theorem d_Pan_passDay_28 : decode prog_5_method_21_code 28 = .ok (.iinc 2 1, 3) := by decide +kernel
theorem d_Pan_passDay_31 : decode prog_5_method_21_code 31 = .ok (.goto (-29), 3) := by decide +kernel
theorem d_Pan_passDay_34 : decode prog_5_method_21_code 34 = .ok (.iconst 0, 1) := by decide +kernel
theorem d_Pan_passDay_35 : decode prog_5_method_21_code 35 = .ok (.istore_n 2, 1) := by decide +kernel
theorem d_Pan_passDay_36 : decode prog_5_method_21_code 36 = .ok (.iload_n 2, 1) := by decide +kernel
theorem d_Pan_passDay_37 : decode prog_5_method_21_code 37 = .ok (.aload_n 0, 1) := by decide +kernel
theorem d_Pan_passDay_38 : decode prog_5_method_21_code 38 = .ok (.getfield 28, 3) := by decide +kernel
theorem d_Pan_passDay_41 : decode prog_5_method_21_code 41 = .ok (.getfield 49, 3) := by decide +kernel
theorem d_Pan_passDay_44 : decode prog_5_method_21_code 44 = .ok (.if_icmp .ge 29, 3) := by decide +kernel
theorem d_Pan_passDay_47 : decode prog_5_method_21_code 47 = .ok (.aload_n 0, 1) := by decide +kernel
theorem d_Pan_passDay_48 : decode prog_5_method_21_code 48 = .ok (.getfield 28, 3) := by decide +kernel
theorem d_Pan_passDay_51 : decode prog_5_method_21_code 51 = .ok (.getfield 95, 3) := by decide +kernel
theorem d_Pan_passDay_54 : decode prog_5_method_21_code 54 = .ok (.iload_n 2, 1) := by decide +kernel
theorem d_Pan_passDay_55 : decode prog_5_method_21_code 55 = .ok (.iaload, 1) := by decide +kernel
theorem d_Pan_passDay_56 : decode prog_5_method_21_code 56 = .ok (.iconst 3, 1) := by decide +kernel
theorem d_Pan_passDay_57 : decode prog_5_method_21_code 57 = .ok (.if_icmp .ne 10, 3) := by decide +kernel
theorem d_Pan_passDay_60 : decode prog_5_method_21_code 60 = .ok (.aload_n 0, 1) := by decide +kernel
theorem d_Pan_passDay_61 : decode prog_5_method_21_code 61 = .ok (.iload_n 2, 1) := by decide +kernel
theorem d_Pan_passDay_62 : decode prog_5_method_21_code 62 = .ok (.iconst 1, 1) := by decide +kernel
theorem d_Pan_passDay_63 : decode prog_5_method_21_code 63 = .ok (.invokevirtual 81, 3) := by decide +kernel
theorem d_Pan_passDay_66 : decode prog_5_method_21_code 66 = .ok (.pop, 1) := by decide +kernel
theorem d_Pan_passDay_67 : decode prog_5_method_21_code 67 = .ok (.iinc 2 1, 3) := by decide +kernel
theorem d_Pan_passDay_70 : decode prog_5_method_21_code 70 = .ok (.goto (-34), 3) := by decide +kernel
theorem d_Pan_passDay_73 : decode prog_5_method_21_code 73 = .ok (.aload_n 0, 1) := by decide +kernel
theorem d_Pan_passDay_74 : decode prog_5_method_21_code 74 = .ok (.getfield 28, 3) := by decide +kernel
theorem d_Pan_passDay_77 : decode prog_5_method_21_code 77 = .ok (.aload_n 0, 1) := by decide +kernel
theorem d_Pan_passDay_78 : decode prog_5_method_21_code 78 = .ok (.getfield 25, 3) := by decide +kernel
theorem d_Pan_passDay_81 : decode prog_5_method_21_code 81 = .ok (.invokevirtual 98, 3) := by decide +kernel
theorem d_Pan_passDay_84 : decode prog_5_method_21_code 84 = .ok (.istore_n 2, 1) := by decide +kernel
theorem d_Pan_passDay_85 : decode prog_5_method_21_code 85 = .ok (.iload_n 2, 1) := by decide +kernel
theorem d_Pan_passDay_86 : decode prog_5_method_21_code 86 = .ok (.ifCond .ge 12, 3) := by decide +kernel
theorem d_Pan_passDay_89 : decode prog_5_method_21_code 89 = .ok (.aload_n 0, 1) := by decide +kernel
theorem d_Pan_passDay_90 : decode prog_5_method_21_code 90 = .ok (.iload_n 2, 1) := by decide +kernel
theorem d_Pan_passDay_91 : decode prog_5_method_21_code 91 = .ok (.ineg, 1) := by decide +kernel
theorem d_Pan_passDay_92 : decode prog_5_method_21_code 92 = .ok (.invokevirtual 101, 3) := by decide +kernel
theorem d_Pan_passDay_95 : decode prog_5_method_21_code 95 = .ok (.goto 16, 3) := by decide +kernel
theorem d_Pan_passDay_98 : decode prog_5_method_21_code 98 = .ok (.iload_n 2, 1) := by decide +kernel
theorem d_Pan_passDay_99 : decode prog_5_method_21_code 99 = .ok (.ifCond .le 12, 3) := by decide +kernel
theorem d_Pan_passDay_102 : decode prog_5_method_21_code 102 = .ok (.iload_n 1, 1) := by decide +kernel
theorem d_Pan_passDay_103 : decode prog_5_method_21_code 103 = .ok (.ifCond .ne 8, 3) := by decide +kernel
theorem d_Pan_passDay_106 : decode prog_5_method_21_code 106 = .ok (.aload_n 0, 1) := by decide +kernel
theorem d_Pan_passDay_107 : decode prog_5_method_21_code 107 = .ok (.iload_n 2, 1) := by decide +kernel
theorem d_Pan_passDay_108 : decode prog_5_method_21_code 108 = .ok (.invokevirtual 104, 3) := by decide +kernel
theorem d_Pan_passDay_111 : decode prog_5_method_21_code 111 = .ok (.aload_n 0, 1) := by decide +kernel
theorem d_Pan_passDay_112 : decode prog_5_method_21_code 112 = .ok (.dup, 1) := by decide +kernel
theorem d_Pan_passDay_113 : decode prog_5_method_21_code 113 = .ok (.getfield 25, 3) := by decide +kernel
theorem d_Pan_passDay_116 : decode prog_5_method_21_code 116 = .ok (.iconst 1, 1) := by decide +kernel
theorem d_Pan_passDay_117 : decode prog_5_method_21_code 117 = .ok (.iadd, 1) := by decide +kernel
theorem d_Pan_passDay_118 : decode prog_5_method_21_code 118 = .ok (.putfield 25, 3) := by decide +kernel
theorem d_Pan_passDay_121 : decode prog_5_method_21_code 121 = .ok (.return_, 1) := by decide +kernel
theorem d_Pan_passDays_0 : decode prog_5_method_24_code 0 = .ok (.iconst 0, 1) := by decide +kernel
theorem d_Pan_passDays_1 : decode prog_5_method_24_code 1 = .ok (.istore_n 2, 1) := by decide +kernel
theorem d_Pan_passDays_2 : decode prog_5_method_24_code 2 = .ok (.iload_n 2, 1) := by decide +kernel
theorem d_Pan_passDays_3 : decode prog_5_method_24_code 3 = .ok (.iload_n 1, 1) := by decide +kernel
theorem d_Pan_passDays_4 : decode prog_5_method_24_code 4 = .ok (.if_icmp .ge 14, 3) := by decide +kernel
theorem d_Pan_passDays_7 : decode prog_5_method_24_code 7 = .ok (.aload_n 0, 1) := by decide +kernel
theorem d_Pan_passDays_8 : decode prog_5_method_24_code 8 = .ok (.iconst 0, 1) := by decide +kernel
theorem d_Pan_passDays_9 : decode prog_5_method_24_code 9 = .ok (.invokevirtual 110, 3) := by decide +kernel
theorem d_Pan_passDays_12 : decode prog_5_method_24_code 12 = .ok (.iinc 2 1, 3) := by decide +kernel
theorem d_Pan_passDays_15 : decode prog_5_method_24_code 15 = .ok (.goto (-13), 3) := by decide +kernel
theorem d_Pan_passDays_18 : decode prog_5_method_24_code 18 = .ok (.return_, 1) := by decide +kernel
theorem d_Pan_crustBehind_0 : decode prog_5_method_25_code 0 = .ok (.aload_n 0, 1) := by decide +kernel
theorem d_Pan_crustBehind_1 : decode prog_5_method_25_code 1 = .ok (.iload_n 1, 1) := by decide +kernel
theorem d_Pan_crustBehind_2 : decode prog_5_method_25_code 2 = .ok (.invokevirtual 114, 3) := by decide +kernel
theorem d_Pan_crustBehind_5 : decode prog_5_method_25_code 5 = .ok (.aload_n 0, 1) := by decide +kernel
theorem d_Pan_crustBehind_6 : decode prog_5_method_25_code 6 = .ok (.invokevirtual 117, 3) := by decide +kernel
theorem d_Pan_crustBehind_9 : decode prog_5_method_25_code 9 = .ok (.ireturn, 1) := by decide +kernel
theorem d_Pan_isDone_0 : decode prog_5_method_26_code 0 = .ok (.iload_n 2, 1) := by decide +kernel
theorem d_Pan_isDone_1 : decode prog_5_method_26_code 1 = .ok (.ifCond .ne 7, 3) := by decide +kernel
theorem d_Pan_isDone_4 : decode prog_5_method_26_code 4 = .ok (.iconst 1, 1) := by decide +kernel
theorem d_Pan_isDone_5 : decode prog_5_method_26_code 5 = .ok (.goto 4, 3) := by decide +kernel
theorem d_Pan_isDone_8 : decode prog_5_method_26_code 8 = .ok (.iconst 0, 1) := by decide +kernel
theorem d_Pan_isDone_9 : decode prog_5_method_26_code 9 = .ok (.istore 4, 2) := by decide +kernel
theorem d_Pan_isDone_11 : decode prog_5_method_26_code 11 = .ok (.iload_n 1, 1) := by decide +kernel
theorem d_Pan_isDone_12 : decode prog_5_method_26_code 12 = .ok (.tableswitch 190 0 6 #[44, 62, 81, 96, 115, 134, 161], 44) := by decide +kernel
theorem d_Pan_isDone_56 : decode prog_5_method_26_code 56 = .ok (.iload 4, 2) := by decide +kernel
theorem d_Pan_isDone_58 : decode prog_5_method_26_code 58 = .ok (.ifCond .eq 7, 3) := by decide +kernel
theorem d_Pan_isDone_61 : decode prog_5_method_26_code 61 = .ok (.iload_n 3, 1) := by decide +kernel
theorem d_Pan_isDone_62 : decode prog_5_method_26_code 62 = .ok (.ifCond .eq 5, 3) := by decide +kernel
theorem d_Pan_isDone_65 : decode prog_5_method_26_code 65 = .ok (.iconst 0, 1) := by decide +kernel
theorem d_Pan_isDone_66 : decode prog_5_method_26_code 66 = .ok (.ireturn, 1) := by decide +kernel
theorem d_Pan_isDone_67 : decode prog_5_method_26_code 67 = .ok (.aload_n 0, 1) := by decide +kernel
theorem d_Pan_isDone_68 : decode prog_5_method_26_code 68 = .ok (.iconst 0, 1) := by decide +kernel
theorem d_Pan_isDone_69 : decode prog_5_method_26_code 69 = .ok (.invokevirtual 110, 3) := by decide +kernel
theorem d_Pan_isDone_72 : decode prog_5_method_26_code 72 = .ok (.iconst 1, 1) := by decide +kernel
theorem d_Pan_isDone_73 : decode prog_5_method_26_code 73 = .ok (.ireturn, 1) := by decide +kernel
theorem d_Pan_isDone_74 : decode prog_5_method_26_code 74 = .ok (.iload 4, 2) := by decide +kernel
theorem d_Pan_isDone_76 : decode prog_5_method_26_code 76 = .ok (.ifCond .eq 15, 3) := by decide +kernel
theorem d_Pan_isDone_79 : decode prog_5_method_26_code 79 = .ok (.aload_n 0, 1) := by decide +kernel
theorem d_Pan_isDone_80 : decode prog_5_method_26_code 80 = .ok (.iload_n 3, 1) := by decide +kernel
theorem d_Pan_isDone_81 : decode prog_5_method_26_code 81 = .ok (.invokevirtual 120, 3) := by decide +kernel
theorem d_Pan_isDone_84 : decode prog_5_method_26_code 84 = .ok (.ifCond .lt 7, 3) := by decide +kernel
theorem d_Pan_isDone_87 : decode prog_5_method_26_code 87 = .ok (.iconst 1, 1) := by decide +kernel
theorem d_Pan_isDone_88 : decode prog_5_method_26_code 88 = .ok (.goto 4, 3) := by decide +kernel
theorem d_Pan_isDone_91 : decode prog_5_method_26_code 91 = .ok (.iconst 0, 1) := by decide +kernel
theorem d_Pan_isDone_92 : decode prog_5_method_26_code 92 = .ok (.ireturn, 1) := by decide +kernel
theorem d_Pan_isDone_93 : decode prog_5_method_26_code 93 = .ok (.aload_n 0, 1) := by decide +kernel
theorem d_Pan_isDone_94 : decode prog_5_method_26_code 94 = .ok (.iload_n 2, 1) := by decide +kernel
theorem d_Pan_isDone_95 : decode prog_5_method_26_code 95 = .ok (.iload_n 3, 1) := by decide +kernel
theorem d_Pan_isDone_96 : decode prog_5_method_26_code 96 = .ok (.invokevirtual 92, 3) := by decide +kernel
theorem d_Pan_isDone_99 : decode prog_5_method_26_code 99 = .ok (.ifCond .lt 7, 3) := by decide +kernel
theorem d_Pan_isDone_102 : decode prog_5_method_26_code 102 = .ok (.iconst 1, 1) := by decide +kernel
theorem d_Pan_isDone_103 : decode prog_5_method_26_code 103 = .ok (.goto 4, 3) := by decide +kernel
theorem d_Pan_isDone_106 : decode prog_5_method_26_code 106 = .ok (.iconst 0, 1) := by decide +kernel
theorem d_Pan_isDone_107 : decode prog_5_method_26_code 107 = .ok (.ireturn, 1) := by decide +kernel
theorem d_Pan_isDone_108 : decode prog_5_method_26_code 108 = .ok (.iload 4, 2) := by decide +kernel
theorem d_Pan_isDone_110 : decode prog_5_method_26_code 110 = .ok (.ifCond .eq 15, 3) := by decide +kernel
theorem d_Pan_isDone_113 : decode prog_5_method_26_code 113 = .ok (.aload_n 0, 1) := by decide +kernel
theorem d_Pan_isDone_114 : decode prog_5_method_26_code 114 = .ok (.iload_n 3, 1) := by decide +kernel
theorem d_Pan_isDone_115 : decode prog_5_method_26_code 115 = .ok (.invokevirtual 123, 3) := by decide +kernel
theorem d_Pan_isDone_118 : decode prog_5_method_26_code 118 = .ok (.ifCond .lt 7, 3) := by decide +kernel
theorem d_Pan_isDone_121 : decode prog_5_method_26_code 121 = .ok (.iconst 1, 1) := by decide +kernel
theorem d_Pan_isDone_122 : decode prog_5_method_26_code 122 = .ok (.goto 4, 3) := by decide +kernel
theorem d_Pan_isDone_125 : decode prog_5_method_26_code 125 = .ok (.iconst 0, 1) := by decide +kernel
theorem d_Pan_isDone_126 : decode prog_5_method_26_code 126 = .ok (.ireturn, 1) := by decide +kernel
theorem d_Pan_isDone_127 : decode prog_5_method_26_code 127 = .ok (.iload 4, 2) := by decide +kernel
theorem d_Pan_isDone_129 : decode prog_5_method_26_code 129 = .ok (.ifCond .eq 15, 3) := by decide +kernel
theorem d_Pan_isDone_132 : decode prog_5_method_26_code 132 = .ok (.aload_n 0, 1) := by decide +kernel
theorem d_Pan_isDone_133 : decode prog_5_method_26_code 133 = .ok (.iload_n 3, 1) := by decide +kernel
theorem d_Pan_isDone_134 : decode prog_5_method_26_code 134 = .ok (.invokevirtual 126, 3) := by decide +kernel
theorem d_Pan_isDone_137 : decode prog_5_method_26_code 137 = .ok (.ifCond .lt 7, 3) := by decide +kernel
theorem d_Pan_isDone_140 : decode prog_5_method_26_code 140 = .ok (.iconst 1, 1) := by decide +kernel
theorem d_Pan_isDone_141 : decode prog_5_method_26_code 141 = .ok (.goto 4, 3) := by decide +kernel
theorem d_Pan_isDone_144 : decode prog_5_method_26_code 144 = .ok (.iconst 0, 1) := by decide +kernel
theorem d_Pan_isDone_145 : decode prog_5_method_26_code 145 = .ok (.ireturn, 1) := by decide +kernel
theorem d_Pan_isDone_146 : decode prog_5_method_26_code 146 = .ok (.aload_n 0, 1) := by decide +kernel
theorem d_Pan_isDone_147 : decode prog_5_method_26_code 147 = .ok (.getfield 28, 3) := by decide +kernel
theorem d_Pan_isDone_150 : decode prog_5_method_26_code 150 = .ok (.iload_n 2, 1) := by decide +kernel
theorem d_Pan_isDone_151 : decode prog_5_method_26_code 151 = .ok (.invokevirtual 36, 3) := by decide +kernel
theorem d_Pan_isDone_154 : decode prog_5_method_26_code 154 = .ok (.ifCond .eq 17, 3) := by decide +kernel
theorem d_Pan_isDone_157 : decode prog_5_method_26_code 157 = .ok (.aload_n 0, 1) := by decide +kernel
theorem d_Pan_isDone_158 : decode prog_5_method_26_code 158 = .ok (.getfield 9, 3) := by decide +kernel
theorem d_Pan_isDone_161 : decode prog_5_method_26_code 161 = .ok (.iload_n 2, 1) := by decide +kernel
theorem d_Pan_isDone_162 : decode prog_5_method_26_code 162 = .ok (.iaload, 1) := by decide +kernel
theorem d_Pan_isDone_163 : decode prog_5_method_26_code 163 = .ok (.iload_n 3, 1) := by decide +kernel
theorem d_Pan_isDone_164 : decode prog_5_method_26_code 164 = .ok (.if_icmp .lt 7, 3) := by decide +kernel
theorem d_Pan_isDone_167 : decode prog_5_method_26_code 167 = .ok (.iconst 1, 1) := by decide +kernel
theorem d_Pan_isDone_168 : decode prog_5_method_26_code 168 = .ok (.goto 4, 3) := by decide +kernel
theorem d_Pan_isDone_171 : decode prog_5_method_26_code 171 = .ok (.iconst 0, 1) := by decide +kernel
theorem d_Pan_isDone_172 : decode prog_5_method_26_code 172 = .ok (.ireturn, 1) := by decide +kernel
theorem d_Pan_isDone_173 : decode prog_5_method_26_code 173 = .ok (.aload_n 0, 1) := by decide +kernel
theorem d_Pan_isDone_174 : decode prog_5_method_26_code 174 = .ok (.getfield 28, 3) := by decide +kernel
theorem d_Pan_isDone_177 : decode prog_5_method_26_code 177 = .ok (.iload_n 2, 1) := by decide +kernel
theorem d_Pan_isDone_178 : decode prog_5_method_26_code 178 = .ok (.invokevirtual 36, 3) := by decide +kernel
theorem d_Pan_isDone_181 : decode prog_5_method_26_code 181 = .ok (.ifCond .eq 19, 3) := by decide +kernel
theorem d_Pan_isDone_184 : decode prog_5_method_26_code 184 = .ok (.aload_n 0, 1) := by decide +kernel
theorem d_Pan_isDone_185 : decode prog_5_method_26_code 185 = .ok (.iload_n 2, 1) := by decide +kernel
theorem d_Pan_isDone_186 : decode prog_5_method_26_code 186 = .ok (.invokevirtual 52, 3) := by decide +kernel
theorem d_Pan_isDone_189 : decode prog_5_method_26_code 189 = .ok (.bipush 10, 2) := by decide +kernel
theorem d_Pan_isDone_191 : decode prog_5_method_26_code 191 = .ok (.iload_n 3, 1) := by decide +kernel
theorem d_Pan_isDone_192 : decode prog_5_method_26_code 192 = .ok (.imul, 1) := by decide +kernel
theorem d_Pan_isDone_193 : decode prog_5_method_26_code 193 = .ok (.if_icmp .lt 7, 3) := by decide +kernel
theorem d_Pan_isDone_196 : decode prog_5_method_26_code 196 = .ok (.iconst 1, 1) := by decide +kernel
theorem d_Pan_isDone_197 : decode prog_5_method_26_code 197 = .ok (.goto 4, 3) := by decide +kernel
theorem d_Pan_isDone_200 : decode prog_5_method_26_code 200 = .ok (.iconst 0, 1) := by decide +kernel
theorem d_Pan_isDone_201 : decode prog_5_method_26_code 201 = .ok (.ireturn, 1) := by decide +kernel
theorem d_Pan_isDone_202 : decode prog_5_method_26_code 202 = .ok (.iconst 0, 1) := by decide +kernel
theorem d_Pan_isDone_203 : decode prog_5_method_26_code 203 = .ok (.ireturn, 1) := by decide +kernel
theorem d_Pan_befall_0 : decode prog_5_method_27_code 0 = .ok (.iload_n 1, 1) := by decide +kernel
theorem d_Pan_befall_1 : decode prog_5_method_27_code 1 = .ok (.iconst 5, 1) := by decide +kernel
theorem d_Pan_befall_2 : decode prog_5_method_27_code 2 = .ok (.if_icmp .ge 12, 3) := by decide +kernel
theorem d_Pan_befall_5 : decode prog_5_method_27_code 5 = .ok (.aload_n 0, 1) := by decide +kernel
theorem d_Pan_befall_6 : decode prog_5_method_27_code 6 = .ok (.iload_n 1, 1) := by decide +kernel
theorem d_Pan_befall_7 : decode prog_5_method_27_code 7 = .ok (.invokevirtual 123, 3) := by decide +kernel
theorem d_Pan_befall_10 : decode prog_5_method_27_code 10 = .ok (.pop, 1) := by decide +kernel
theorem d_Pan_befall_11 : decode prog_5_method_27_code 11 = .ok (.goto 41, 3) := by decide +kernel
theorem d_Pan_befall_14 : decode prog_5_method_27_code 14 = .ok (.iload_n 1, 1) := by decide +kernel
theorem d_Pan_befall_15 : decode prog_5_method_27_code 15 = .ok (.bipush 10, 2) := by decide +kernel
theorem d_Pan_befall_17 : decode prog_5_method_27_code 17 = .ok (.if_icmp .ge 15, 3) := by decide +kernel
theorem d_Pan_befall_20 : decode prog_5_method_27_code 20 = .ok (.aload_n 0, 1) := by decide +kernel
theorem d_Pan_befall_21 : decode prog_5_method_27_code 21 = .ok (.iload_n 1, 1) := by decide +kernel
theorem d_Pan_befall_22 : decode prog_5_method_27_code 22 = .ok (.iconst 5, 1) := by decide +kernel
theorem d_Pan_befall_23 : decode prog_5_method_27_code 23 = .ok (.isub, 1) := by decide +kernel
theorem d_Pan_befall_24 : decode prog_5_method_27_code 24 = .ok (.iconst 1, 1) := by decide +kernel
theorem d_Pan_befall_25 : decode prog_5_method_27_code 25 = .ok (.invokevirtual 92, 3) := by decide +kernel
theorem d_Pan_befall_28 : decode prog_5_method_27_code 28 = .ok (.pop, 1) := by decide +kernel
theorem d_Pan_befall_29 : decode prog_5_method_27_code 29 = .ok (.goto 23, 3) := by decide +kernel
theorem d_Pan_befall_32 : decode prog_5_method_27_code 32 = .ok (.iload_n 1, 1) := by decide +kernel
theorem d_Pan_befall_33 : decode prog_5_method_27_code 33 = .ok (.bipush 12, 2) := by decide +kernel
theorem d_Pan_befall_35 : decode prog_5_method_27_code 35 = .ok (.if_icmp .ge 12, 3) := by decide +kernel
theorem d_Pan_befall_38 : decode prog_5_method_27_code 38 = .ok (.aload_n 0, 1) := by decide +kernel
theorem d_Pan_befall_39 : decode prog_5_method_27_code 39 = .ok (.iconst 3, 1) := by decide +kernel
theorem d_Pan_befall_40 : decode prog_5_method_27_code 40 = .ok (.invokevirtual 120, 3) := by decide +kernel
theorem d_Pan_befall_43 : decode prog_5_method_27_code 43 = .ok (.pop, 1) := by decide +kernel
theorem d_Pan_befall_44 : decode prog_5_method_27_code 44 = .ok (.goto 8, 3) := by decide +kernel
theorem d_Pan_befall_47 : decode prog_5_method_27_code 47 = .ok (.aload_n 0, 1) := by decide +kernel
theorem d_Pan_befall_48 : decode prog_5_method_27_code 48 = .ok (.iconst 0, 1) := by decide +kernel
theorem d_Pan_befall_49 : decode prog_5_method_27_code 49 = .ok (.invokevirtual 110, 3) := by decide +kernel
theorem d_Pan_befall_52 : decode prog_5_method_27_code 52 = .ok (.return_, 1) := by decide +kernel
theorem d_Int_bitCount_0 : decode prog_9_method_49_code 0 = .ok (.iload_n 0, 1) := by decide +kernel
theorem d_Int_bitCount_1 : decode prog_9_method_49_code 1 = .ok (.iload_n 0, 1) := by decide +kernel
theorem d_Int_bitCount_2 : decode prog_9_method_49_code 2 = .ok (.iconst 1, 1) := by decide +kernel
theorem d_Int_bitCount_3 : decode prog_9_method_49_code 3 = .ok (.iushr, 1) := by decide +kernel
theorem d_Int_bitCount_4 : decode prog_9_method_49_code 4 = .ok (.ldc_w 265, 3) := by decide +kernel
theorem d_Int_bitCount_7 : decode prog_9_method_49_code 7 = .ok (.iand, 1) := by decide +kernel
theorem d_Int_bitCount_8 : decode prog_9_method_49_code 8 = .ok (.isub, 1) := by decide +kernel
theorem d_Int_bitCount_9 : decode prog_9_method_49_code 9 = .ok (.istore_n 0, 1) := by decide +kernel
theorem d_Int_bitCount_10 : decode prog_9_method_49_code 10 = .ok (.iload_n 0, 1) := by decide +kernel
theorem d_Int_bitCount_11 : decode prog_9_method_49_code 11 = .ok (.ldc_w 266, 3) := by decide +kernel
theorem d_Int_bitCount_14 : decode prog_9_method_49_code 14 = .ok (.iand, 1) := by decide +kernel
theorem d_Int_bitCount_15 : decode prog_9_method_49_code 15 = .ok (.iload_n 0, 1) := by decide +kernel
theorem d_Int_bitCount_16 : decode prog_9_method_49_code 16 = .ok (.iconst 2, 1) := by decide +kernel
theorem d_Int_bitCount_17 : decode prog_9_method_49_code 17 = .ok (.iushr, 1) := by decide +kernel
theorem d_Int_bitCount_18 : decode prog_9_method_49_code 18 = .ok (.ldc_w 266, 3) := by decide +kernel
theorem d_Int_bitCount_21 : decode prog_9_method_49_code 21 = .ok (.iand, 1) := by decide +kernel
theorem d_Int_bitCount_22 : decode prog_9_method_49_code 22 = .ok (.iadd, 1) := by decide +kernel
theorem d_Int_bitCount_23 : decode prog_9_method_49_code 23 = .ok (.istore_n 0, 1) := by decide +kernel
theorem d_Int_bitCount_24 : decode prog_9_method_49_code 24 = .ok (.iload_n 0, 1) := by decide +kernel
theorem d_Int_bitCount_25 : decode prog_9_method_49_code 25 = .ok (.iload_n 0, 1) := by decide +kernel
theorem d_Int_bitCount_26 : decode prog_9_method_49_code 26 = .ok (.iconst 4, 1) := by decide +kernel
theorem d_Int_bitCount_27 : decode prog_9_method_49_code 27 = .ok (.iushr, 1) := by decide +kernel
theorem d_Int_bitCount_28 : decode prog_9_method_49_code 28 = .ok (.iadd, 1) := by decide +kernel
theorem d_Int_bitCount_29 : decode prog_9_method_49_code 29 = .ok (.ldc_w 267, 3) := by decide +kernel
theorem d_Int_bitCount_32 : decode prog_9_method_49_code 32 = .ok (.iand, 1) := by decide +kernel
theorem d_Int_bitCount_33 : decode prog_9_method_49_code 33 = .ok (.istore_n 0, 1) := by decide +kernel
theorem d_Int_bitCount_34 : decode prog_9_method_49_code 34 = .ok (.iload_n 0, 1) := by decide +kernel
theorem d_Int_bitCount_35 : decode prog_9_method_49_code 35 = .ok (.iload_n 0, 1) := by decide +kernel
theorem d_Int_bitCount_36 : decode prog_9_method_49_code 36 = .ok (.bipush 8, 2) := by decide +kernel
theorem d_Int_bitCount_38 : decode prog_9_method_49_code 38 = .ok (.iushr, 1) := by decide +kernel
theorem d_Int_bitCount_39 : decode prog_9_method_49_code 39 = .ok (.iadd, 1) := by decide +kernel
theorem d_Int_bitCount_40 : decode prog_9_method_49_code 40 = .ok (.istore_n 0, 1) := by decide +kernel
theorem d_Int_bitCount_41 : decode prog_9_method_49_code 41 = .ok (.iload_n 0, 1) := by decide +kernel
theorem d_Int_bitCount_42 : decode prog_9_method_49_code 42 = .ok (.iload_n 0, 1) := by decide +kernel
theorem d_Int_bitCount_43 : decode prog_9_method_49_code 43 = .ok (.bipush 16, 2) := by decide +kernel
theorem d_Int_bitCount_45 : decode prog_9_method_49_code 45 = .ok (.iushr, 1) := by decide +kernel
theorem d_Int_bitCount_46 : decode prog_9_method_49_code 46 = .ok (.iadd, 1) := by decide +kernel
theorem d_Int_bitCount_47 : decode prog_9_method_49_code 47 = .ok (.istore_n 0, 1) := by decide +kernel
theorem d_Int_bitCount_48 : decode prog_9_method_49_code 48 = .ok (.iload_n 0, 1) := by decide +kernel
theorem d_Int_bitCount_49 : decode prog_9_method_49_code 49 = .ok (.bipush 63, 2) := by decide +kernel
theorem d_Int_bitCount_51 : decode prog_9_method_49_code 51 = .ok (.iand, 1) := by decide +kernel
theorem d_Int_bitCount_52 : decode prog_9_method_49_code 52 = .ok (.ireturn, 1) := by decide +kernel
