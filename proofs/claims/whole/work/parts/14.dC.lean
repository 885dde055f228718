theorem d_Mod_in_0 : decode prog_8_method_3_code 0 = .ok (.lload_n 0, 1) := by decide +kernel
theorem d_Mod_in_1 : decode prog_8_method_3_code 1 = .ok (.lload_n 2, 1) := by decide +kernel
theorem d_Mod_in_2 : decode prog_8_method_3_code 2 = .ok (.lcmp, 1) := by decide +kernel
theorem d_Mod_in_3 : decode prog_8_method_3_code 3 = .ok (.ifCond .lt 14, 3) := by decide +kernel
theorem d_Mod_in_6 : decode prog_8_method_3_code 6 = .ok (.lload_n 0, 1) := by decide +kernel
theorem d_Mod_in_7 : decode prog_8_method_3_code 7 = .ok (.lload 4, 2) := by decide +kernel
theorem d_Mod_in_9 : decode prog_8_method_3_code 9 = .ok (.lcmp, 1) := by decide +kernel
theorem d_Mod_in_10 : decode prog_8_method_3_code 10 = .ok (.ifCond .gt 7, 3) := by decide +kernel
theorem d_Mod_in_13 : decode prog_8_method_3_code 13 = .ok (.iconst 1, 1) := by decide +kernel
theorem d_Mod_in_14 : decode prog_8_method_3_code 14 = .ok (.goto 4, 3) := by decide +kernel
theorem d_Mod_in_17 : decode prog_8_method_3_code 17 = .ok (.iconst 0, 1) := by decide +kernel
theorem d_Mod_in_18 : decode prog_8_method_3_code 18 = .ok (.ireturn, 1) := by decide +kernel
theorem d_Mod_has_0 : decode prog_8_method_4_code 0 = .ok (.iload_n 0, 1) := by decide +kernel
theorem d_Mod_has_1 : decode prog_8_method_4_code 1 = .ok (.iload_n 1, 1) := by decide +kernel
theorem d_Mod_has_2 : decode prog_8_method_4_code 2 = .ok (.ishr, 1) := by decide +kernel
theorem d_Mod_has_3 : decode prog_8_method_4_code 3 = .ok (.iconst 1, 1) := by decide +kernel
theorem d_Mod_has_4 : decode prog_8_method_4_code 4 = .ok (.iand, 1) := by decide +kernel
theorem d_Mod_has_5 : decode prog_8_method_4_code 5 = .ok (.iconst 1, 1) := by decide +kernel
theorem d_Mod_has_6 : decode prog_8_method_4_code 6 = .ok (.if_icmp .ne 7, 3) := by decide +kernel
theorem d_Mod_has_9 : decode prog_8_method_4_code 9 = .ok (.iconst 1, 1) := by decide +kernel
theorem d_Mod_has_10 : decode prog_8_method_4_code 10 = .ok (.goto 4, 3) := by decide +kernel
theorem d_Mod_has_13 : decode prog_8_method_4_code 13 = .ok (.iconst 0, 1) := by decide +kernel
theorem d_Mod_has_14 : decode prog_8_method_4_code 14 = .ok (.ireturn, 1) := by decide +kernel
theorem d_Mod_many_0 : decode prog_8_method_5_code 0 = .ok (.iconst 0, 1) := by decide +kernel
theorem d_Mod_many_1 : decode prog_8_method_5_code 1 = .ok (.istore_n 1, 1) := by decide +kernel
theorem d_Mod_many_2 : decode prog_8_method_5_code 2 = .ok (.iconst 0, 1) := by decide +kernel
theorem d_Mod_many_3 : decode prog_8_method_5_code 3 = .ok (.istore_n 2, 1) := by decide +kernel
theorem d_Mod_many_4 : decode prog_8_method_5_code 4 = .ok (.iload_n 2, 1) := by decide +kernel
theorem d_Mod_many_5 : decode prog_8_method_5_code 5 = .ok (.bipush 6, 2) := by decide +kernel
theorem d_Mod_many_7 : decode prog_8_method_5_code 7 = .ok (.if_icmp .ge 17, 3) := by decide +kernel
theorem d_Mod_many_10 : decode prog_8_method_5_code 10 = .ok (.iload_n 1, 1) := by decide +kernel
theorem d_Mod_many_11 : decode prog_8_method_5_code 11 = .ok (.iload_n 0, 1) := by decide +kernel
theorem d_Mod_many_12 : decode prog_8_method_5_code 12 = .ok (.iload_n 2, 1) := by decide +kernel
theorem d_Mod_many_13 : decode prog_8_method_5_code 13 = .ok (.ishr, 1) := by decide +kernel
theorem d_Mod_many_14 : decode prog_8_method_5_code 14 = .ok (.iconst 1, 1) := by decide +kernel
theorem d_Mod_many_15 : decode prog_8_method_5_code 15 = .ok (.iand, 1) := by decide +kernel
theorem d_Mod_many_16 : decode prog_8_method_5_code 16 = .ok (.iadd, 1) := by decide +kernel
theorem d_Mod_many_17 : decode prog_8_method_5_code 17 = .ok (.istore_n 1, 1) := by decide +kernel
theorem d_Mod_many_18 : decode prog_8_method_5_code 18 = .ok (.iinc 2 1, 3) := by decide +kernel
theorem d_Mod_many_21 : decode prog_8_method_5_code 21 = .ok (.goto (-17), 3) := by decide +kernel
theorem d_Mod_many_24 : decode prog_8_method_5_code 24 = .ok (.iload_n 1, 1) := by decide +kernel
theorem d_Mod_many_25 : decode prog_8_method_5_code 25 = .ok (.ireturn, 1) := by decide +kernel
theorem d_Mod_power_0 : decode prog_8_method_6_code 0 = .ok (.iconst 1, 1) := by decide +kernel
theorem d_Mod_power_1 : decode prog_8_method_6_code 1 = .ok (.istore_n 2, 1) := by decide +kernel
theorem d_Mod_power_2 : decode prog_8_method_6_code 2 = .ok (.iconst 0, 1) := by decide +kernel
theorem d_Mod_power_3 : decode prog_8_method_6_code 3 = .ok (.istore_n 3, 1) := by decide +kernel
theorem d_Mod_power_4 : decode prog_8_method_6_code 4 = .ok (.iload_n 3, 1) := by decide +kernel
theorem d_Mod_power_5 : decode prog_8_method_6_code 5 = .ok (.iload_n 1, 1) := by decide +kernel
theorem d_Mod_power_6 : decode prog_8_method_6_code 6 = .ok (.if_icmp .ge 13, 3) := by decide +kernel
theorem d_Mod_power_9 : decode prog_8_method_6_code 9 = .ok (.iload_n 2, 1) := by decide +kernel
theorem d_Mod_power_10 : decode prog_8_method_6_code 10 = .ok (.iload_n 0, 1) := by decide +kernel
theorem d_Mod_power_11 : decode prog_8_method_6_code 11 = .ok (.imul, 1) := by decide +kernel
theorem d_Mod_power_12 : decode prog_8_method_6_code 12 = .ok (.istore_n 2, 1) := by decide +kernel
theorem d_Mod_power_13 : decode prog_8_method_6_code 13 = .ok (.iinc 3 1, 3) := by decide +kernel
theorem d_Mod_power_16 : decode prog_8_method_6_code 16 = .ok (.goto (-12), 3) := by decide +kernel
theorem d_Mod_power_19 : decode prog_8_method_6_code 19 = .ok (.iload_n 2, 1) := by decide +kernel
theorem d_Mod_power_20 : decode prog_8_method_6_code 20 = .ok (.ireturn, 1) := by decide +kernel
theorem d_Mod_noPan_0 : decode prog_8_method_7_code 0 = .ok (.iload_n 1, 1) := by decide +kernel
theorem d_Mod_noPan_1 : decode prog_8_method_7_code 1 = .ok (.i2l, 1) := by decide +kernel
theorem d_Mod_noPan_2 : decode prog_8_method_7_code 2 = .ok (.lconst 0, 1) := by decide +kernel
theorem d_Mod_noPan_3 : decode prog_8_method_7_code 3 = .ok (.aload_n 0, 1) := by decide +kernel
theorem d_Mod_noPan_4 : decode prog_8_method_7_code 4 = .ok (.getfield 60, 3) := by decide +kernel
theorem d_Mod_noPan_7 : decode prog_8_method_7_code 7 = .ok (.iconst 1, 1) := by decide +kernel
theorem d_Mod_noPan_8 : decode prog_8_method_7_code 8 = .ok (.isub, 1) := by decide +kernel
theorem d_Mod_noPan_9 : decode prog_8_method_7_code 9 = .ok (.i2l, 1) := by decide +kernel
theorem d_Mod_noPan_10 : decode prog_8_method_7_code 10 = .ok (.invokestatic 63, 3) := by decide +kernel
theorem d_Mod_noPan_13 : decode prog_8_method_7_code 13 = .ok (.ifCond .ne 7, 3) := by decide +kernel
theorem d_Mod_noPan_16 : decode prog_8_method_7_code 16 = .ok (.iconst 1, 1) := by decide +kernel
theorem d_Mod_noPan_17 : decode prog_8_method_7_code 17 = .ok (.goto 4, 3) := by decide +kernel
theorem d_Mod_noPan_20 : decode prog_8_method_7_code 20 = .ok (.iconst 0, 1) := by decide +kernel
theorem d_Mod_noPan_21 : decode prog_8_method_7_code 21 = .ok (.ireturn, 1) := by decide +kernel
theorem d_Mod_noGate_0 : decode prog_8_method_8_code 0 = .ok (.iload_n 1, 1) := by decide +kernel
theorem d_Mod_noGate_1 : decode prog_8_method_8_code 1 = .ok (.i2l, 1) := by decide +kernel
theorem d_Mod_noGate_2 : decode prog_8_method_8_code 2 = .ok (.lconst 0, 1) := by decide +kernel
theorem d_Mod_noGate_3 : decode prog_8_method_8_code 3 = .ok (.aload_n 0, 1) := by decide +kernel
theorem d_Mod_noGate_4 : decode prog_8_method_8_code 4 = .ok (.getfield 60, 3) := by decide +kernel
theorem d_Mod_noGate_7 : decode prog_8_method_8_code 7 = .ok (.iconst 2, 1) := by decide +kernel
theorem d_Mod_noGate_8 : decode prog_8_method_8_code 8 = .ok (.isub, 1) := by decide +kernel
theorem d_Mod_noGate_9 : decode prog_8_method_8_code 9 = .ok (.i2l, 1) := by decide +kernel
theorem d_Mod_noGate_10 : decode prog_8_method_8_code 10 = .ok (.invokestatic 63, 3) := by decide +kernel
theorem d_Mod_noGate_13 : decode prog_8_method_8_code 13 = .ok (.ifCond .ne 7, 3) := by decide +kernel
theorem d_Mod_noGate_16 : decode prog_8_method_8_code 16 = .ok (.iconst 1, 1) := by decide +kernel
theorem d_Mod_noGate_17 : decode prog_8_method_8_code 17 = .ok (.goto 4, 3) := by decide +kernel
theorem d_Mod_noGate_20 : decode prog_8_method_8_code 20 = .ok (.iconst 0, 1) := by decide +kernel
theorem d_Mod_noGate_21 : decode prog_8_method_8_code 21 = .ok (.ireturn, 1) := by decide +kernel
theorem d_Mod_write_0 : decode prog_8_method_9_code 0 = .ok (.aload_n 0, 1) := by decide +kernel
theorem d_Mod_write_1 : decode prog_8_method_9_code 1 = .ok (.iconst 0, 1) := by decide +kernel
theorem d_Mod_write_2 : decode prog_8_method_9_code 2 = .ok (.putfield 56, 3) := by decide +kernel
theorem d_Mod_write_5 : decode prog_8_method_9_code 5 = .ok (.iload_n 1, 1) := by decide +kernel
theorem d_Mod_write_6 : decode prog_8_method_9_code 6 = .ok (.i2l, 1) := by decide +kernel
theorem d_Mod_write_7 : decode prog_8_method_9_code 7 = .ok (.lconst 0, 1) := by decide +kernel
theorem d_Mod_write_8 : decode prog_8_method_9_code 8 = .ok (.ldc2_w 67, 3) := by decide +kernel
theorem d_Mod_write_11 : decode prog_8_method_9_code 11 = .ok (.invokestatic 63, 3) := by decide +kernel
theorem d_Mod_write_14 : decode prog_8_method_9_code 14 = .ok (.ifCond .ne 6, 3) := by decide +kernel
theorem d_Mod_write_17 : decode prog_8_method_9_code 17 = .ok (.bipush (-2), 2) := by decide +kernel
theorem d_Mod_write_19 : decode prog_8_method_9_code 19 = .ok (.ireturn, 1) := by decide +kernel
theorem d_Mod_write_20 : decode prog_8_method_9_code 20 = .ok (.aload_n 0, 1) := by decide +kernel
theorem d_Mod_write_21 : decode prog_8_method_9_code 21 = .ok (.getfield 69, 3) := by decide +kernel
theorem d_Mod_write_24 : decode prog_8_method_9_code 24 = .ok (.bipush 36, 2) := by decide +kernel
theorem d_Mod_write_26 : decode prog_8_method_9_code 26 = .ok (.if_icmp .ne 6, 3) := by decide +kernel
theorem d_Mod_write_29 : decode prog_8_method_9_code 29 = .ok (.bipush (-4), 2) := by decide +kernel
theorem d_Mod_write_31 : decode prog_8_method_9_code 31 = .ok (.ireturn, 1) := by decide +kernel
theorem d_Mod_write_32 : decode prog_8_method_9_code 32 = .ok (.aload_n 0, 1) := by decide +kernel
theorem d_Mod_write_33 : decode prog_8_method_9_code 33 = .ok (.getfield 7, 3) := by decide +kernel
theorem d_Mod_write_36 : decode prog_8_method_9_code 36 = .ok (.aload_n 0, 1) := by decide +kernel
theorem d_Mod_write_37 : decode prog_8_method_9_code 37 = .ok (.getfield 69, 3) := by decide +kernel
theorem d_Mod_write_40 : decode prog_8_method_9_code 40 = .ok (.iload_n 1, 1) := by decide +kernel
theorem d_Mod_write_41 : decode prog_8_method_9_code 41 = .ok (.iastore, 1) := by decide +kernel
theorem d_Mod_write_42 : decode prog_8_method_9_code 42 = .ok (.aload_n 0, 1) := by decide +kernel
theorem d_Mod_write_43 : decode prog_8_method_9_code 43 = .ok (.dup, 1) := by decide +kernel
theorem d_Mod_write_44 : decode prog_8_method_9_code 44 = .ok (.getfield 69, 3) := by decide +kernel
theorem d_Mod_write_47 : decode prog_8_method_9_code 47 = .ok (.iconst 1, 1) := by decide +kernel
theorem d_Mod_write_48 : decode prog_8_method_9_code 48 = .ok (.iadd, 1) := by decide +kernel
theorem d_Mod_write_49 : decode prog_8_method_9_code 49 = .ok (.putfield 69, 3) := by decide +kernel
theorem d_Mod_write_52 : decode prog_8_method_9_code 52 = .ok (.aload_n 0, 1) := by decide +kernel
theorem d_Mod_write_53 : decode prog_8_method_9_code 53 = .ok (.getfield 69, 3) := by decide +kernel
theorem d_Mod_write_56 : decode prog_8_method_9_code 56 = .ok (.ireturn, 1) := by decide +kernel
theorem d_Mod_wipe_0 : decode prog_8_method_10_code 0 = .ok (.aload_n 0, 1) := by decide +kernel
theorem d_Mod_wipe_1 : decode prog_8_method_10_code 1 = .ok (.iconst 0, 1) := by decide +kernel
theorem d_Mod_wipe_2 : decode prog_8_method_10_code 2 = .ok (.putfield 56, 3) := by decide +kernel
theorem d_Mod_wipe_5 : decode prog_8_method_10_code 5 = .ok (.aload_n 0, 1) := by decide +kernel
theorem d_Mod_wipe_6 : decode prog_8_method_10_code 6 = .ok (.getfield 69, 3) := by decide +kernel
theorem d_Mod_wipe_9 : decode prog_8_method_10_code 9 = .ok (.istore_n 1, 1) := by decide +kernel
theorem d_Mod_wipe_10 : decode prog_8_method_10_code 10 = .ok (.aload_n 0, 1) := by decide +kernel
theorem d_Mod_wipe_11 : decode prog_8_method_10_code 11 = .ok (.iconst 0, 1) := by decide +kernel
theorem d_Mod_wipe_12 : decode prog_8_method_10_code 12 = .ok (.putfield 69, 3) := by decide +kernel
theorem d_Mod_wipe_15 : decode prog_8_method_10_code 15 = .ok (.iload_n 1, 1) := by decide +kernel
theorem d_Mod_wipe_16 : decode prog_8_method_10_code 16 = .ok (.ireturn, 1) := by decide +kernel
theorem d_Mod_figure_0 : decode prog_8_method_11_code 0 = .ok (.aload_n 0, 1) := by decide +kernel
theorem d_Mod_figure_1 : decode prog_8_method_11_code 1 = .ok (.getfield 72, 3) := by decide +kernel
theorem d_Mod_figure_4 : decode prog_8_method_11_code 4 = .ok (.aload_n 0, 1) := by decide +kernel
theorem d_Mod_figure_5 : decode prog_8_method_11_code 5 = .ok (.getfield 69, 3) := by decide +kernel
theorem d_Mod_figure_8 : decode prog_8_method_11_code 8 = .ok (.if_icmp .eq 26, 3) := by decide +kernel
theorem d_Mod_figure_11 : decode prog_8_method_11_code 11 = .ok (.aload_n 0, 1) := by decide +kernel
theorem d_Mod_figure_12 : decode prog_8_method_11_code 12 = .ok (.getfield 7, 3) := by decide +kernel
theorem d_Mod_figure_15 : decode prog_8_method_11_code 15 = .ok (.aload_n 0, 1) := by decide +kernel
theorem d_Mod_figure_16 : decode prog_8_method_11_code 16 = .ok (.getfield 72, 3) := by decide +kernel
theorem d_Mod_figure_19 : decode prog_8_method_11_code 19 = .ok (.iaload, 1) := by decide +kernel
theorem d_Mod_figure_20 : decode prog_8_method_11_code 20 = .ok (.bipush 48, 2) := by decide +kernel
theorem d_Mod_figure_22 : decode prog_8_method_11_code 22 = .ok (.isub, 1) := by decide +kernel
theorem d_Mod_figure_23 : decode prog_8_method_11_code 23 = .ok (.i2l, 1) := by decide +kernel
theorem d_Mod_figure_24 : decode prog_8_method_11_code 24 = .ok (.iload_n 1, 1) := by decide +kernel
theorem d_Mod_figure_25 : decode prog_8_method_11_code 25 = .ok (.i2l, 1) := by decide +kernel
theorem d_Mod_figure_26 : decode prog_8_method_11_code 26 = .ok (.iload_n 2, 1) := by decide +kernel
theorem d_Mod_figure_27 : decode prog_8_method_11_code 27 = .ok (.i2l, 1) := by decide +kernel
theorem d_Mod_figure_28 : decode prog_8_method_11_code 28 = .ok (.invokestatic 63, 3) := by decide +kernel
theorem d_Mod_figure_31 : decode prog_8_method_11_code 31 = .ok (.ifCond .ne 6, 3) := by decide +kernel
theorem d_Mod_figure_34 : decode prog_8_method_11_code 34 = .ok (.bipush (-9), 2) := by decide +kernel
theorem d_Mod_figure_36 : decode prog_8_method_11_code 36 = .ok (.ireturn, 1) := by decide +kernel
theorem d_Mod_figure_37 : decode prog_8_method_11_code 37 = .ok (.aload_n 0, 1) := by decide +kernel
theorem d_Mod_figure_38 : decode prog_8_method_11_code 38 = .ok (.dup, 1) := by decide +kernel
theorem d_Mod_figure_39 : decode prog_8_method_11_code 39 = .ok (.getfield 72, 3) := by decide +kernel
theorem d_Mod_figure_42 : decode prog_8_method_11_code 42 = .ok (.iconst 1, 1) := by decide +kernel
theorem d_Mod_figure_43 : decode prog_8_method_11_code 43 = .ok (.iadd, 1) := by decide +kernel
theorem d_Mod_figure_44 : decode prog_8_method_11_code 44 = .ok (.putfield 72, 3) := by decide +kernel
theorem d_Mod_figure_47 : decode prog_8_method_11_code 47 = .ok (.aload_n 0, 1) := by decide +kernel
theorem d_Mod_figure_48 : decode prog_8_method_11_code 48 = .ok (.getfield 7, 3) := by decide +kernel
theorem d_Mod_figure_51 : decode prog_8_method_11_code 51 = .ok (.aload_n 0, 1) := by decide +kernel
theorem d_Mod_figure_52 : decode prog_8_method_11_code 52 = .ok (.getfield 72, 3) := by decide +kernel
theorem d_Mod_figure_55 : decode prog_8_method_11_code 55 = .ok (.iconst 1, 1) := by decide +kernel
theorem d_Mod_figure_56 : decode prog_8_method_11_code 56 = .ok (.isub, 1) := by decide +kernel
theorem d_Mod_figure_57 : decode prog_8_method_11_code 57 = .ok (.iaload, 1) := by decide +kernel
theorem d_Mod_figure_58 : decode prog_8_method_11_code 58 = .ok (.bipush 48, 2) := by decide +kernel
theorem d_Mod_figure_60 : decode prog_8_method_11_code 60 = .ok (.isub, 1) := by decide +kernel
theorem d_Mod_figure_61 : decode prog_8_method_11_code 61 = .ok (.ireturn, 1) := by decide +kernel
theorem d_Mod_readOnePan_0 : decode prog_8_method_12_code 0 = .ok (.aload_n 0, 1) := by decide +kernel
theorem d_Mod_readOnePan_1 : decode prog_8_method_12_code 1 = .ok (.iconst 0, 1) := by decide +kernel
theorem d_Mod_readOnePan_2 : decode prog_8_method_12_code 2 = .ok (.iconst 3, 1) := by decide +kernel
theorem d_Mod_readOnePan_3 : decode prog_8_method_12_code 3 = .ok (.invokevirtual 75, 3) := by decide +kernel
theorem d_Mod_readOnePan_6 : decode prog_8_method_12_code 6 = .ok (.istore_n 1, 1) := by decide +kernel
theorem d_Mod_readOnePan_7 : decode prog_8_method_12_code 7 = .ok (.iload_n 1, 1) := by decide +kernel
theorem d_Mod_readOnePan_8 : decode prog_8_method_12_code 8 = .ok (.bipush (-9), 2) := by decide +kernel
theorem d_Mod_readOnePan_10 : decode prog_8_method_12_code 10 = .ok (.if_icmp .ne 8, 3) := by decide +kernel
theorem d_Mod_readOnePan_13 : decode prog_8_method_12_code 13 = .ok (.bipush (-9), 2) := by decide +kernel
theorem d_Mod_readOnePan_15 : decode prog_8_method_12_code 15 = .ok (.goto 10, 3) := by decide +kernel
theorem d_Mod_readOnePan_18 : decode prog_8_method_12_code 18 = .ok (.aload_n 0, 1) := by decide +kernel
theorem d_Mod_readOnePan_19 : decode prog_8_method_12_code 19 = .ok (.iconst 0, 1) := by decide +kernel
theorem d_Mod_readOnePan_20 : decode prog_8_method_12_code 20 = .ok (.bipush 6, 2) := by decide +kernel
theorem d_Mod_readOnePan_22 : decode prog_8_method_12_code 22 = .ok (.invokevirtual 75, 3) := by decide +kernel
theorem d_Mod_readOnePan_25 : decode prog_8_method_12_code 25 = .ok (.istore_n 2, 1) := by decide +kernel
theorem d_Mod_readOnePan_26 : decode prog_8_method_12_code 26 = .ok (.iload_n 2, 1) := by decide +kernel
theorem d_Mod_readOnePan_27 : decode prog_8_method_12_code 27 = .ok (.bipush (-9), 2) := by decide +kernel
theorem d_Mod_readOnePan_29 : decode prog_8_method_12_code 29 = .ok (.if_icmp .ne 8, 3) := by decide +kernel
theorem d_Mod_readOnePan_32 : decode prog_8_method_12_code 32 = .ok (.bipush (-9), 2) := by decide +kernel
theorem d_Mod_readOnePan_34 : decode prog_8_method_12_code 34 = .ok (.goto 10, 3) := by decide +kernel
theorem d_Mod_readOnePan_37 : decode prog_8_method_12_code 37 = .ok (.aload_n 0, 1) := by decide +kernel
theorem d_Mod_readOnePan_38 : decode prog_8_method_12_code 38 = .ok (.iconst 0, 1) := by decide +kernel
theorem d_Mod_readOnePan_39 : decode prog_8_method_12_code 39 = .ok (.bipush 9, 2) := by decide +kernel
theorem d_Mod_readOnePan_41 : decode prog_8_method_12_code 41 = .ok (.invokevirtual 75, 3) := by decide +kernel
theorem d_Mod_readOnePan_44 : decode prog_8_method_12_code 44 = .ok (.istore_n 3, 1) := by decide +kernel
theorem d_Mod_readOnePan_45 : decode prog_8_method_12_code 45 = .ok (.iload_n 3, 1) := by decide +kernel
theorem d_Mod_readOnePan_46 : decode prog_8_method_12_code 46 = .ok (.bipush (-9), 2) := by decide +kernel
theorem d_Mod_readOnePan_48 : decode prog_8_method_12_code 48 = .ok (.if_icmp .ne 5, 3) := by decide +kernel
theorem d_Mod_readOnePan_51 : decode prog_8_method_12_code 51 = .ok (.iconst 0, 1) := by decide +kernel
theorem d_Mod_readOnePan_52 : decode prog_8_method_12_code 52 = .ok (.ireturn, 1) := by decide +kernel
theorem d_Mod_readOnePan_53 : decode prog_8_method_12_code 53 = .ok (.aload_n 0, 1) := by decide +kernel
theorem d_Mod_readOnePan_54 : decode prog_8_method_12_code 54 = .ok (.getfield 19, 3) := by decide +kernel
theorem d_Mod_readOnePan_57 : decode prog_8_method_12_code 57 = .ok (.iconst 3, 1) := by decide +kernel
theorem d_Mod_readOnePan_58 : decode prog_8_method_12_code 58 = .ok (.aload_n 0, 1) := by decide +kernel
theorem d_Mod_readOnePan_59 : decode prog_8_method_12_code 59 = .ok (.getfield 79, 3) := by decide +kernel
theorem d_Mod_readOnePan_62 : decode prog_8_method_12_code 62 = .ok (.imul, 1) := by decide +kernel
theorem d_Mod_readOnePan_63 : decode prog_8_method_12_code 63 = .ok (.iload_n 1, 1) := by decide +kernel
theorem d_Mod_readOnePan_64 : decode prog_8_method_12_code 64 = .ok (.iastore, 1) := by decide +kernel
theorem d_Mod_readOnePan_65 : decode prog_8_method_12_code 65 = .ok (.aload_n 0, 1) := by decide +kernel
theorem d_Mod_readOnePan_66 : decode prog_8_method_12_code 66 = .ok (.getfield 19, 3) := by decide +kernel
theorem d_Mod_readOnePan_69 : decode prog_8_method_12_code 69 = .ok (.iconst 3, 1) := by decide +kernel
theorem d_Mod_readOnePan_70 : decode prog_8_method_12_code 70 = .ok (.aload_n 0, 1) := by decide +kernel
theorem d_Mod_readOnePan_71 : decode prog_8_method_12_code 71 = .ok (.getfield 79, 3) := by decide +kernel
theorem d_Mod_readOnePan_74 : decode prog_8_method_12_code 74 = .ok (.imul, 1) := by decide +kernel
theorem d_Mod_readOnePan_75 : decode prog_8_method_12_code 75 = .ok (.iconst 1, 1) := by decide +kernel
theorem d_Mod_readOnePan_76 : decode prog_8_method_12_code 76 = .ok (.iadd, 1) := by decide +kernel
theorem d_Mod_readOnePan_77 : decode prog_8_method_12_code 77 = .ok (.iload_n 2, 1) := by decide +kernel
theorem d_Mod_readOnePan_78 : decode prog_8_method_12_code 78 = .ok (.iastore, 1) := by decide +kernel
theorem d_Mod_readOnePan_79 : decode prog_8_method_12_code 79 = .ok (.aload_n 0, 1) := by decide +kernel
theorem d_Mod_readOnePan_80 : decode prog_8_method_12_code 80 = .ok (.getfield 19, 3) := by decide +kernel
theorem d_Mod_readOnePan_83 : decode prog_8_method_12_code 83 = .ok (.iconst 3, 1) := by decide +kernel
theorem d_Mod_readOnePan_84 : decode prog_8_method_12_code 84 = .ok (.aload_n 0, 1) := by decide +kernel
theorem d_Mod_readOnePan_85 : decode prog_8_method_12_code 85 = .ok (.getfield 79, 3) := by decide +kernel
theorem d_Mod_readOnePan_88 : decode prog_8_method_12_code 88 = .ok (.imul, 1) := by decide +kernel
theorem d_Mod_readOnePan_89 : decode prog_8_method_12_code 89 = .ok (.iconst 2, 1) := by decide +kernel
theorem d_Mod_readOnePan_90 : decode prog_8_method_12_code 90 = .ok (.iadd, 1) := by decide +kernel
theorem d_Mod_readOnePan_91 : decode prog_8_method_12_code 91 = .ok (.bipush 10, 2) := by decide +kernel
theorem d_Mod_readOnePan_93 : decode prog_8_method_12_code 93 = .ok (.iload_n 3, 1) := by decide +kernel
theorem d_Mod_readOnePan_94 : decode prog_8_method_12_code 94 = .ok (.imul, 1) := by decide +kernel
theorem d_Mod_readOnePan_95 : decode prog_8_method_12_code 95 = .ok (.iastore, 1) := by decide +kernel
theorem d_Mod_readOnePan_96 : decode prog_8_method_12_code 96 = .ok (.aload_n 0, 1) := by decide +kernel
theorem d_Mod_readOnePan_97 : decode prog_8_method_12_code 97 = .ok (.dup, 1) := by decide +kernel
theorem d_Mod_readOnePan_98 : decode prog_8_method_12_code 98 = .ok (.getfield 79, 3) := by decide +kernel
theorem d_Mod_readOnePan_101 : decode prog_8_method_12_code 101 = .ok (.iconst 1, 1) := by decide +kernel
theorem d_Mod_readOnePan_102 : decode prog_8_method_12_code 102 = .ok (.iadd, 1) := by decide +kernel
theorem d_Mod_readOnePan_103 : decode prog_8_method_12_code 103 = .ok (.putfield 79, 3) := by decide +kernel
theorem d_Mod_readOnePan_106 : decode prog_8_method_12_code 106 = .ok (.iconst 1, 1) := by decide +kernel
theorem d_Mod_readOnePan_107 : decode prog_8_method_12_code 107 = .ok (.ireturn, 1) := by decide +kernel
theorem d_Mod_readOneSky_0 : decode prog_8_method_13_code 0 = .ok (.aload_n 0, 1) := by decide +kernel
theorem d_Mod_readOneSky_1 : decode prog_8_method_13_code 1 = .ok (.iload_n 1, 1) := by decide +kernel
theorem d_Mod_readOneSky_2 : decode prog_8_method_13_code 2 = .ok (.ifCond .eq 7, 3) := by decide +kernel
theorem d_Mod_readOneSky_5 : decode prog_8_method_13_code 5 = .ok (.iconst 1, 1) := by decide +kernel
theorem d_Mod_readOneSky_6 : decode prog_8_method_13_code 6 = .ok (.goto 4, 3) := by decide +kernel
theorem d_Mod_readOneSky_9 : decode prog_8_method_13_code 9 = .ok (.iconst 0, 1) := by decide +kernel
theorem d_Mod_readOneSky_10 : decode prog_8_method_13_code 10 = .ok (.iconst 4, 1) := by decide +kernel
theorem d_Mod_readOneSky_11 : decode prog_8_method_13_code 11 = .ok (.invokevirtual 75, 3) := by decide +kernel
theorem d_Mod_readOneSky_14 : decode prog_8_method_13_code 14 = .ok (.istore_n 2, 1) := by decide +kernel
theorem d_Mod_readOneSky_15 : decode prog_8_method_13_code 15 = .ok (.iload_n 2, 1) := by decide +kernel
theorem d_Mod_readOneSky_16 : decode prog_8_method_13_code 16 = .ok (.bipush (-9), 2) := by decide +kernel
theorem d_Mod_readOneSky_18 : decode prog_8_method_13_code 18 = .ok (.if_icmp .ne 5, 3) := by decide +kernel
theorem d_Mod_readOneSky_21 : decode prog_8_method_13_code 21 = .ok (.iconst 0, 1) := by decide +kernel
theorem d_Mod_readOneSky_22 : decode prog_8_method_13_code 22 = .ok (.ireturn, 1) := by decide +kernel
theorem d_Mod_readOneSky_23 : decode prog_8_method_13_code 23 = .ok (.aload_n 0, 1) := by decide +kernel
theorem d_Mod_readOneSky_24 : decode prog_8_method_13_code 24 = .ok (.getfield 22, 3) := by decide +kernel
theorem d_Mod_readOneSky_27 : decode prog_8_method_13_code 27 = .ok (.aload_n 0, 1) := by decide +kernel
theorem d_Mod_readOneSky_28 : decode prog_8_method_13_code 28 = .ok (.getfield 82, 3) := by decide +kernel
theorem d_Mod_readOneSky_31 : decode prog_8_method_13_code 31 = .ok (.iload_n 1, 1) := by decide +kernel
theorem d_Mod_readOneSky_32 : decode prog_8_method_13_code 32 = .ok (.ifCond .eq 8, 3) := by decide +kernel
theorem d_Mod_readOneSky_35 : decode prog_8_method_13_code 35 = .ok (.iload_n 2, 1) := by decide +kernel
theorem d_Mod_readOneSky_36 : decode prog_8_method_13_code 36 = .ok (.ineg, 1) := by decide +kernel
theorem d_Mod_readOneSky_37 : decode prog_8_method_13_code 37 = .ok (.goto 4, 3) := by decide +kernel
theorem d_Mod_readOneSky_40 : decode prog_8_method_13_code 40 = .ok (.iload_n 2, 1) := by decide +kernel
theorem d_Mod_readOneSky_41 : decode prog_8_method_13_code 41 = .ok (.iastore, 1) := by decide +kernel
theorem d_Mod_readOneSky_42 : decode prog_8_method_13_code 42 = .ok (.aload_n 0, 1) := by decide +kernel
theorem d_Mod_readOneSky_43 : decode prog_8_method_13_code 43 = .ok (.dup, 1) := by decide +kernel
theorem d_Mod_readOneSky_44 : decode prog_8_method_13_code 44 = .ok (.getfield 82, 3) := by decide +kernel
theorem d_Mod_readOneSky_47 : decode prog_8_method_13_code 47 = .ok (.iconst 1, 1) := by decide +kernel
theorem d_Mod_readOneSky_48 : decode prog_8_method_13_code 48 = .ok (.iadd, 1) := by decide +kernel
theorem d_Mod_readOneSky_49 : decode prog_8_method_13_code 49 = .ok (.putfield 82, 3) := by decide +kernel
theorem d_Mod_readOneSky_52 : decode prog_8_method_13_code 52 = .ok (.iconst 1, 1) := by decide +kernel
theorem d_Mod_readOneSky_53 : decode prog_8_method_13_code 53 = .ok (.ireturn, 1) := by decide +kernel
theorem d_Mod_readThing_0 : decode prog_8_method_14_code 0 = .ok (.aload_n 0, 1) := by decide +kernel
theorem d_Mod_readThing_1 : decode prog_8_method_14_code 1 = .ok (.getfield 7, 3) := by decide +kernel
theorem d_Mod_readThing_4 : decode prog_8_method_14_code 4 = .ok (.aload_n 0, 1) := by decide +kernel
theorem d_Mod_readThing_5 : decode prog_8_method_14_code 5 = .ok (.getfield 72, 3) := by decide +kernel
theorem d_Mod_readThing_8 : decode prog_8_method_14_code 8 = .ok (.iaload, 1) := by decide +kernel
theorem d_Mod_readThing_9 : decode prog_8_method_14_code 9 = .ok (.istore_n 1, 1) := by decide +kernel
theorem d_Mod_readThing_10 : decode prog_8_method_14_code 10 = .ok (.aload_n 0, 1) := by decide +kernel
theorem d_Mod_readThing_11 : decode prog_8_method_14_code 11 = .ok (.dup, 1) := by decide +kernel
theorem d_Mod_readThing_12 : decode prog_8_method_14_code 12 = .ok (.getfield 72, 3) := by decide +kernel
theorem d_Mod_readThing_15 : decode prog_8_method_14_code 15 = .ok (.iconst 1, 1) := by decide +kernel
theorem d_Mod_readThing_16 : decode prog_8_method_14_code 16 = .ok (.iadd, 1) := by decide +kernel
theorem d_Mod_readThing_17 : decode prog_8_method_14_code 17 = .ok (.putfield 72, 3) := by decide +kernel
theorem d_Mod_readThing_20 : decode prog_8_method_14_code 20 = .ok (.iload_n 1, 1) := by decide +kernel
theorem d_Mod_readThing_21 : decode prog_8_method_14_code 21 = .ok (.bipush 78, 2) := by decide +kernel
theorem d_Mod_readThing_23 : decode prog_8_method_14_code 23 = .ok (.if_icmp .ne 17, 3) := by decide +kernel
theorem d_Mod_readThing_26 : decode prog_8_method_14_code 26 = .ok (.aload_n 0, 1) := by decide +kernel
theorem d_Mod_readThing_27 : decode prog_8_method_14_code 27 = .ok (.getfield 79, 3) := by decide +kernel
theorem d_Mod_readThing_30 : decode prog_8_method_14_code 30 = .ok (.bipush 6, 2) := by decide +kernel
theorem d_Mod_readThing_32 : decode prog_8_method_14_code 32 = .ok (.if_icmp .ge 8, 3) := by decide +kernel
theorem d_Mod_readThing_35 : decode prog_8_method_14_code 35 = .ok (.aload_n 0, 1) := by decide +kernel
theorem d_Mod_readThing_36 : decode prog_8_method_14_code 36 = .ok (.invokevirtual 85, 3) := by decide +kernel
theorem d_Mod_readThing_39 : decode prog_8_method_14_code 39 = .ok (.ireturn, 1) := by decide +kernel
theorem d_Mod_readThing_40 : decode prog_8_method_14_code 40 = .ok (.iload_n 1, 1) := by decide +kernel
theorem d_Mod_readThing_41 : decode prog_8_method_14_code 41 = .ok (.bipush 83, 2) := by decide +kernel
theorem d_Mod_readThing_43 : decode prog_8_method_14_code 43 = .ok (.if_icmp .eq 9, 3) := by decide +kernel
theorem d_Mod_readThing_46 : decode prog_8_method_14_code 46 = .ok (.iload_n 1, 1) := by decide +kernel
theorem d_Mod_readThing_47 : decode prog_8_method_14_code 47 = .ok (.bipush 82, 2) := by decide +kernel
theorem d_Mod_readThing_49 : decode prog_8_method_14_code 49 = .ok (.if_icmp .ne 27, 3) := by decide +kernel
theorem d_Mod_readThing_52 : decode prog_8_method_14_code 52 = .ok (.aload_n 0, 1) := by decide +kernel
theorem d_Mod_readThing_53 : decode prog_8_method_14_code 53 = .ok (.getfield 82, 3) := by decide +kernel
theorem d_Mod_readThing_56 : decode prog_8_method_14_code 56 = .ok (.iconst 5, 1) := by decide +kernel
theorem d_Mod_readThing_57 : decode prog_8_method_14_code 57 = .ok (.if_icmp .ge 19, 3) := by decide +kernel
theorem d_Mod_readThing_60 : decode prog_8_method_14_code 60 = .ok (.aload_n 0, 1) := by decide +kernel
theorem d_Mod_readThing_61 : decode prog_8_method_14_code 61 = .ok (.iload_n 1, 1) := by decide +kernel
theorem d_Mod_readThing_62 : decode prog_8_method_14_code 62 = .ok (.bipush 82, 2) := by decide +kernel
theorem d_Mod_readThing_64 : decode prog_8_method_14_code 64 = .ok (.if_icmp .ne 7, 3) := by decide +kernel
theorem d_Mod_readThing_67 : decode prog_8_method_14_code 67 = .ok (.iconst 1, 1) := by decide +kernel
theorem d_Mod_readThing_68 : decode prog_8_method_14_code 68 = .ok (.goto 4, 3) := by decide +kernel
theorem d_Mod_readThing_71 : decode prog_8_method_14_code 71 = .ok (.iconst 0, 1) := by decide +kernel
theorem d_Mod_readThing_72 : decode prog_8_method_14_code 72 = .ok (.invokevirtual 89, 3) := by decide +kernel
theorem d_Mod_readThing_75 : decode prog_8_method_14_code 75 = .ok (.ireturn, 1) := by decide +kernel
theorem d_Mod_readThing_76 : decode prog_8_method_14_code 76 = .ok (.aload_n 0, 1) := by decide +kernel
theorem d_Mod_readThing_77 : decode prog_8_method_14_code 77 = .ok (.dup, 1) := by decide +kernel
theorem d_Mod_readThing_78 : decode prog_8_method_14_code 78 = .ok (.getfield 72, 3) := by decide +kernel
theorem d_Mod_readThing_81 : decode prog_8_method_14_code 81 = .ok (.iconst 1, 1) := by decide +kernel
theorem d_Mod_readThing_82 : decode prog_8_method_14_code 82 = .ok (.isub, 1) := by decide +kernel
theorem d_Mod_readThing_83 : decode prog_8_method_14_code 83 = .ok (.putfield 72, 3) := by decide +kernel
theorem d_Mod_readThing_86 : decode prog_8_method_14_code 86 = .ok (.iconst 0, 1) := by decide +kernel
theorem d_Mod_readThing_87 : decode prog_8_method_14_code 87 = .ok (.ireturn, 1) := by decide +kernel
theorem d_Mod_readMarsh_0 : decode prog_8_method_15_code 0 = .ok (.aload_n 0, 1) := by decide +kernel
theorem d_Mod_readMarsh_1 : decode prog_8_method_15_code 1 = .ok (.iconst 0, 1) := by decide +kernel
theorem d_Mod_readMarsh_2 : decode prog_8_method_15_code 2 = .ok (.putfield 72, 3) := by decide +kernel
theorem d_Mod_readMarsh_5 : decode prog_8_method_15_code 5 = .ok (.aload_n 0, 1) := by decide +kernel
theorem d_Mod_readMarsh_6 : decode prog_8_method_15_code 6 = .ok (.iconst 0, 1) := by decide +kernel
theorem d_Mod_readMarsh_7 : decode prog_8_method_15_code 7 = .ok (.putfield 79, 3) := by decide +kernel
theorem d_Mod_readMarsh_10 : decode prog_8_method_15_code 10 = .ok (.aload_n 0, 1) := by decide +kernel
theorem d_Mod_readMarsh_11 : decode prog_8_method_15_code 11 = .ok (.iconst 0, 1) := by decide +kernel
theorem d_Mod_readMarsh_12 : decode prog_8_method_15_code 12 = .ok (.putfield 82, 3) := by decide +kernel
theorem d_Mod_readMarsh_15 : decode prog_8_method_15_code 15 = .ok (.aload_n 0, 1) := by decide +kernel
theorem d_Mod_readMarsh_16 : decode prog_8_method_15_code 16 = .ok (.getfield 69, 3) := by decide +kernel
theorem d_Mod_readMarsh_19 : decode prog_8_method_15_code 19 = .ok (.ifCond .eq 14, 3) := by decide +kernel
theorem d_Mod_readMarsh_22 : decode prog_8_method_15_code 22 = .ok (.aload_n 0, 1) := by decide +kernel
theorem d_Mod_readMarsh_23 : decode prog_8_method_15_code 23 = .ok (.getfield 7, 3) := by decide +kernel
theorem d_Mod_readMarsh_26 : decode prog_8_method_15_code 26 = .ok (.iconst 0, 1) := by decide +kernel
theorem d_Mod_readMarsh_27 : decode prog_8_method_15_code 27 = .ok (.iaload, 1) := by decide +kernel
theorem d_Mod_readMarsh_28 : decode prog_8_method_15_code 28 = .ok (.bipush 77, 2) := by decide +kernel
theorem d_Mod_readMarsh_30 : decode prog_8_method_15_code 30 = .ok (.if_icmp .eq 5, 3) := by decide +kernel
theorem d_Mod_readMarsh_33 : decode prog_8_method_15_code 33 = .ok (.iconst 0, 1) := by decide +kernel
theorem d_Mod_readMarsh_34 : decode prog_8_method_15_code 34 = .ok (.ireturn, 1) := by decide +kernel
theorem d_Mod_readMarsh_35 : decode prog_8_method_15_code 35 = .ok (.aload_n 0, 1) := by decide +kernel
theorem d_Mod_readMarsh_36 : decode prog_8_method_15_code 36 = .ok (.iconst 1, 1) := by decide +kernel
theorem d_Mod_readMarsh_37 : decode prog_8_method_15_code 37 = .ok (.putfield 72, 3) := by decide +kernel
theorem d_Mod_readMarsh_40 : decode prog_8_method_15_code 40 = .ok (.aload_n 0, 1) := by decide +kernel
theorem d_Mod_readMarsh_41 : decode prog_8_method_15_code 41 = .ok (.getfield 72, 3) := by decide +kernel
theorem d_Mod_readMarsh_44 : decode prog_8_method_15_code 44 = .ok (.aload_n 0, 1) := by decide +kernel
theorem d_Mod_readMarsh_45 : decode prog_8_method_15_code 45 = .ok (.getfield 69, 3) := by decide +kernel
theorem d_Mod_readMarsh_48 : decode prog_8_method_15_code 48 = .ok (.if_icmp .ge 15, 3) := by decide +kernel
theorem d_Mod_readMarsh_51 : decode prog_8_method_15_code 51 = .ok (.aload_n 0, 1) := by decide +kernel
theorem d_Mod_readMarsh_52 : decode prog_8_method_15_code 52 = .ok (.invokevirtual 93, 3) := by decide +kernel
theorem d_Mod_readMarsh_55 : decode prog_8_method_15_code 55 = .ok (.ifCond .ne (-15), 3) := by decide +kernel
theorem d_Mod_readMarsh_58 : decode prog_8_method_15_code 58 = .ok (.aload_n 0, 1) := by decide +kernel
theorem d_Mod_readMarsh_59 : decode prog_8_method_15_code 59 = .ok (.getfield 72, 3) := by decide +kernel
theorem d_Mod_readMarsh_62 : decode prog_8_method_15_code 62 = .ok (.ireturn, 1) := by decide +kernel
theorem d_Mod_readMarsh_63 : decode prog_8_method_15_code 63 = .ok (.bipush (-9), 2) := by decide +kernel
theorem d_Mod_readMarsh_65 : decode prog_8_method_15_code 65 = .ok (.ireturn, 1) := by decide +kernel
theorem d_Mod_fault_0 : decode prog_8_method_16_code 0 = .ok (.aload_n 0, 1) := by decide +kernel
theorem d_Mod_fault_1 : decode prog_8_method_16_code 1 = .ok (.iconst 0, 1) := by decide +kernel
theorem d_Mod_fault_2 : decode prog_8_method_16_code 2 = .ok (.putfield 56, 3) := by decide +kernel
theorem d_Mod_fault_5 : decode prog_8_method_16_code 5 = .ok (.aload_n 0, 1) := by decide +kernel
theorem d_Mod_fault_6 : decode prog_8_method_16_code 6 = .ok (.invokevirtual 96, 3) := by decide +kernel
theorem d_Mod_fault_9 : decode prog_8_method_16_code 9 = .ok (.ireturn, 1) := by decide +kernel
theorem d_Mod_marsh_0 : decode prog_8_method_17_code 0 = .ok (.aload_n 0, 1) := by decide +kernel
theorem d_Mod_marsh_1 : decode prog_8_method_17_code 1 = .ok (.iconst 0, 1) := by decide +kernel
theorem d_Mod_marsh_2 : decode prog_8_method_17_code 2 = .ok (.putfield 56, 3) := by decide +kernel
theorem d_Mod_marsh_5 : decode prog_8_method_17_code 5 = .ok (.aload_n 0, 1) := by decide +kernel
theorem d_Mod_marsh_6 : decode prog_8_method_17_code 6 = .ok (.invokevirtual 96, 3) := by decide +kernel
theorem d_Mod_marsh_9 : decode prog_8_method_17_code 9 = .ok (.bipush (-9), 2) := by decide +kernel
theorem d_Mod_marsh_11 : decode prog_8_method_17_code 11 = .ok (.if_icmp .eq 6, 3) := by decide +kernel
theorem d_Mod_marsh_14 : decode prog_8_method_17_code 14 = .ok (.bipush (-3), 2) := by decide +kernel
theorem d_Mod_marsh_16 : decode prog_8_method_17_code 16 = .ok (.ireturn, 1) := by decide +kernel
theorem d_Mod_marsh_17 : decode prog_8_method_17_code 17 = .ok (.aload_n 0, 1) := by decide +kernel
theorem d_Mod_marsh_18 : decode prog_8_method_17_code 18 = .ok (.aload_n 0, 1) := by decide +kernel
theorem d_Mod_marsh_19 : decode prog_8_method_17_code 19 = .ok (.getfield 79, 3) := by decide +kernel
theorem d_Mod_marsh_22 : decode prog_8_method_17_code 22 = .ok (.putfield 60, 3) := by decide +kernel
theorem d_Mod_marsh_25 : decode prog_8_method_17_code 25 = .ok (.aload_n 0, 1) := by decide +kernel
theorem d_Mod_marsh_26 : decode prog_8_method_17_code 26 = .ok (.aload_n 0, 1) := by decide +kernel
theorem d_Mod_marsh_27 : decode prog_8_method_17_code 27 = .ok (.getfield 82, 3) := by decide +kernel
theorem d_Mod_marsh_30 : decode prog_8_method_17_code 30 = .ok (.putfield 100, 3) := by decide +kernel
theorem d_Mod_marsh_33 : decode prog_8_method_17_code 33 = .ok (.iconst 0, 1) := by decide +kernel
theorem d_Mod_marsh_34 : decode prog_8_method_17_code 34 = .ok (.istore_n 1, 1) := by decide +kernel
theorem d_Mod_marsh_35 : decode prog_8_method_17_code 35 = .ok (.iload_n 1, 1) := by decide +kernel
theorem d_Mod_marsh_36 : decode prog_8_method_17_code 36 = .ok (.bipush 15, 2) := by decide +kernel
theorem d_Mod_marsh_38 : decode prog_8_method_17_code 38 = .ok (.if_icmp .ge 16, 3) := by decide +kernel
theorem d_Mod_marsh_41 : decode prog_8_method_17_code 41 = .ok (.aload_n 0, 1) := by decide +kernel
theorem d_Mod_marsh_42 : decode prog_8_method_17_code 42 = .ok (.getfield 25, 3) := by decide +kernel
theorem d_Mod_marsh_45 : decode prog_8_method_17_code 45 = .ok (.iload_n 1, 1) := by decide +kernel
theorem d_Mod_marsh_46 : decode prog_8_method_17_code 46 = .ok (.iconst 0, 1) := by decide +kernel
theorem d_Mod_marsh_47 : decode prog_8_method_17_code 47 = .ok (.iastore, 1) := by decide +kernel
theorem d_Mod_marsh_48 : decode prog_8_method_17_code 48 = .ok (.iinc 1 1, 3) := by decide +kernel
theorem d_Mod_marsh_51 : decode prog_8_method_17_code 51 = .ok (.goto (-16), 3) := by decide +kernel
theorem d_Mod_marsh_54 : decode prog_8_method_17_code 54 = .ok (.iconst 0, 1) := by decide +kernel
theorem d_Mod_marsh_55 : decode prog_8_method_17_code 55 = .ok (.istore_n 1, 1) := by decide +kernel
theorem d_Mod_marsh_56 : decode prog_8_method_17_code 56 = .ok (.iload_n 1, 1) := by decide +kernel
theorem d_Mod_marsh_57 : decode prog_8_method_17_code 57 = .ok (.aload_n 0, 1) := by decide +kernel
theorem d_Mod_marsh_58 : decode prog_8_method_17_code 58 = .ok (.getfield 60, 3) := by decide +kernel
theorem d_Mod_marsh_61 : decode prog_8_method_17_code 61 = .ok (.if_icmp .ge 58, 3) := by decide +kernel
theorem d_Mod_marsh_64 : decode prog_8_method_17_code 64 = .ok (.aload_n 0, 1) := by decide +kernel
theorem d_Mod_marsh_65 : decode prog_8_method_17_code 65 = .ok (.getfield 13, 3) := by decide +kernel
theorem d_Mod_marsh_68 : decode prog_8_method_17_code 68 = .ok (.iload_n 1, 1) := by decide +kernel
theorem d_Mod_marsh_69 : decode prog_8_method_17_code 69 = .ok (.aload_n 0, 1) := by decide +kernel
theorem d_Mod_marsh_70 : decode prog_8_method_17_code 70 = .ok (.getfield 19, 3) := by decide +kernel
theorem d_Mod_marsh_73 : decode prog_8_method_17_code 73 = .ok (.iconst 3, 1) := by decide +kernel
theorem d_Mod_marsh_74 : decode prog_8_method_17_code 74 = .ok (.iload_n 1, 1) := by decide +kernel
theorem d_Mod_marsh_75 : decode prog_8_method_17_code 75 = .ok (.imul, 1) := by decide +kernel
theorem d_Mod_marsh_76 : decode prog_8_method_17_code 76 = .ok (.iaload, 1) := by decide +kernel
theorem d_Mod_marsh_77 : decode prog_8_method_17_code 77 = .ok (.iastore, 1) := by decide +kernel
theorem d_Mod_marsh_78 : decode prog_8_method_17_code 78 = .ok (.aload_n 0, 1) := by decide +kernel
theorem d_Mod_marsh_79 : decode prog_8_method_17_code 79 = .ok (.getfield 25, 3) := by decide +kernel
theorem d_Mod_marsh_82 : decode prog_8_method_17_code 82 = .ok (.iload_n 1, 1) := by decide +kernel
theorem d_Mod_marsh_83 : decode prog_8_method_17_code 83 = .ok (.aload_n 0, 1) := by decide +kernel
theorem d_Mod_marsh_84 : decode prog_8_method_17_code 84 = .ok (.getfield 19, 3) := by decide +kernel
theorem d_Mod_marsh_87 : decode prog_8_method_17_code 87 = .ok (.iconst 3, 1) := by decide +kernel
theorem d_Mod_marsh_88 : decode prog_8_method_17_code 88 = .ok (.iload_n 1, 1) := by decide +kernel
theorem d_Mod_marsh_89 : decode prog_8_method_17_code 89 = .ok (.imul, 1) := by decide +kernel
theorem d_Mod_marsh_90 : decode prog_8_method_17_code 90 = .ok (.iconst 1, 1) := by decide +kernel
theorem d_Mod_marsh_91 : decode prog_8_method_17_code 91 = .ok (.iadd, 1) := by decide +kernel
theorem d_Mod_marsh_92 : decode prog_8_method_17_code 92 = .ok (.iaload, 1) := by decide +kernel
theorem d_Mod_marsh_93 : decode prog_8_method_17_code 93 = .ok (.iastore, 1) := by decide +kernel
theorem d_Mod_marsh_94 : decode prog_8_method_17_code 94 = .ok (.aload_n 0, 1) := by decide +kernel
theorem d_Mod_marsh_95 : decode prog_8_method_17_code 95 = .ok (.getfield 25, 3) := by decide +kernel
theorem d_Mod_marsh_98 : decode prog_8_method_17_code 98 = .ok (.bipush 6, 2) := by decide +kernel
theorem d_Mod_marsh_100 : decode prog_8_method_17_code 100 = .ok (.iload_n 1, 1) := by decide +kernel
theorem d_Mod_marsh_101 : decode prog_8_method_17_code 101 = .ok (.iadd, 1) := by decide +kernel
theorem d_Mod_marsh_102 : decode prog_8_method_17_code 102 = .ok (.aload_n 0, 1) := by decide +kernel
theorem d_Mod_marsh_103 : decode prog_8_method_17_code 103 = .ok (.getfield 19, 3) := by decide +kernel
theorem d_Mod_marsh_106 : decode prog_8_method_17_code 106 = .ok (.iconst 3, 1) := by decide +kernel
theorem d_Mod_marsh_107 : decode prog_8_method_17_code 107 = .ok (.iload_n 1, 1) := by decide +kernel
theorem d_Mod_marsh_108 : decode prog_8_method_17_code 108 = .ok (.imul, 1) := by decide +kernel
theorem d_Mod_marsh_109 : decode prog_8_method_17_code 109 = .ok (.iconst 2, 1) := by decide +kernel
theorem d_Mod_marsh_110 : decode prog_8_method_17_code 110 = .ok (.iadd, 1) := by decide +kernel
theorem d_Mod_marsh_111 : decode prog_8_method_17_code 111 = .ok (.iaload, 1) := by decide +kernel
theorem d_Mod_marsh_112 : decode prog_8_method_17_code 112 = .ok (.iastore, 1) := by decide +kernel
theorem d_Mod_marsh_113 : decode prog_8_method_17_code 113 = .ok (.iinc 1 1, 3) := by decide +kernel
theorem d_Mod_marsh_116 : decode prog_8_method_17_code 116 = .ok (.goto (-60), 3) := by decide +kernel
theorem d_Mod_marsh_119 : decode prog_8_method_17_code 119 = .ok (.iconst 0, 1) := by decide +kernel
theorem d_Mod_marsh_120 : decode prog_8_method_17_code 120 = .ok (.istore_n 1, 1) := by decide +kernel
theorem d_Mod_marsh_121 : decode prog_8_method_17_code 121 = .ok (.iload_n 1, 1) := by decide +kernel
theorem d_Mod_marsh_122 : decode prog_8_method_17_code 122 = .ok (.aload_n 0, 1) := by decide +kernel
theorem d_Mod_marsh_123 : decode prog_8_method_17_code 123 = .ok (.getfield 100, 3) := by decide +kernel
theorem d_Mod_marsh_126 : decode prog_8_method_17_code 126 = .ok (.if_icmp .ge 21, 3) := by decide +kernel
theorem d_Mod_marsh_129 : decode prog_8_method_17_code 129 = .ok (.aload_n 0, 1) := by decide +kernel
theorem d_Mod_marsh_130 : decode prog_8_method_17_code 130 = .ok (.getfield 16, 3) := by decide +kernel
theorem d_Mod_marsh_133 : decode prog_8_method_17_code 133 = .ok (.iload_n 1, 1) := by decide +kernel
theorem d_Mod_marsh_134 : decode prog_8_method_17_code 134 = .ok (.aload_n 0, 1) := by decide +kernel
theorem d_Mod_marsh_135 : decode prog_8_method_17_code 135 = .ok (.getfield 22, 3) := by decide +kernel
theorem d_Mod_marsh_138 : decode prog_8_method_17_code 138 = .ok (.iload_n 1, 1) := by decide +kernel
theorem d_Mod_marsh_139 : decode prog_8_method_17_code 139 = .ok (.iaload, 1) := by decide +kernel
theorem d_Mod_marsh_140 : decode prog_8_method_17_code 140 = .ok (.iastore, 1) := by decide +kernel
theorem d_Mod_marsh_141 : decode prog_8_method_17_code 141 = .ok (.iinc 1 1, 3) := by decide +kernel
theorem d_Mod_marsh_144 : decode prog_8_method_17_code 144 = .ok (.goto (-23), 3) := by decide +kernel
theorem d_Mod_marsh_147 : decode prog_8_method_17_code 147 = .ok (.aload_n 0, 1) := by decide +kernel
theorem d_Mod_marsh_148 : decode prog_8_method_17_code 148 = .ok (.iconst 0, 1) := by decide +kernel
theorem d_Mod_marsh_149 : decode prog_8_method_17_code 149 = .ok (.putfield 103, 3) := by decide +kernel
theorem d_Mod_marsh_152 : decode prog_8_method_17_code 152 = .ok (.aload_n 0, 1) := by decide +kernel
theorem d_Mod_marsh_153 : decode prog_8_method_17_code 153 = .ok (.getfield 37, 3) := by decide +kernel
theorem d_Mod_marsh_156 : decode prog_8_method_17_code 156 = .ok (.iconst 0, 1) := by decide +kernel
theorem d_Mod_marsh_157 : decode prog_8_method_17_code 157 = .ok (.iconst 0, 1) := by decide +kernel
theorem d_Mod_marsh_158 : decode prog_8_method_17_code 158 = .ok (.bastore, 1) := by decide +kernel
theorem d_Mod_marsh_159 : decode prog_8_method_17_code 159 = .ok (.aload_n 0, 1) := by decide +kernel
theorem d_Mod_marsh_160 : decode prog_8_method_17_code 160 = .ok (.getfield 37, 3) := by decide +kernel
theorem d_Mod_marsh_163 : decode prog_8_method_17_code 163 = .ok (.iconst 1, 1) := by decide +kernel
theorem d_Mod_marsh_164 : decode prog_8_method_17_code 164 = .ok (.iconst 0, 1) := by decide +kernel
theorem d_Mod_marsh_165 : decode prog_8_method_17_code 165 = .ok (.bastore, 1) := by decide +kernel
theorem d_Mod_marsh_166 : decode prog_8_method_17_code 166 = .ok (.bipush 10, 2) := by decide +kernel
theorem d_Mod_marsh_168 : decode prog_8_method_17_code 168 = .ok (.aload_n 0, 1) := by decide +kernel
theorem d_Mod_marsh_169 : decode prog_8_method_17_code 169 = .ok (.getfield 60, 3) := by decide +kernel
theorem d_Mod_marsh_172 : decode prog_8_method_17_code 172 = .ok (.imul, 1) := by decide +kernel
theorem d_Mod_marsh_173 : decode prog_8_method_17_code 173 = .ok (.aload_n 0, 1) := by decide +kernel
theorem d_Mod_marsh_174 : decode prog_8_method_17_code 174 = .ok (.getfield 100, 3) := by decide +kernel
theorem d_Mod_marsh_177 : decode prog_8_method_17_code 177 = .ok (.iadd, 1) := by decide +kernel
theorem d_Mod_marsh_178 : decode prog_8_method_17_code 178 = .ok (.ireturn, 1) := by decide +kernel
theorem d_Mod_room_0 : decode prog_8_method_18_code 0 = .ok (.aload_n 0, 1) := by decide +kernel
theorem d_Mod_room_1 : decode prog_8_method_18_code 1 = .ok (.getfield 13, 3) := by decide +kernel
theorem d_Mod_room_4 : decode prog_8_method_18_code 4 = .ok (.iload_n 2, 1) := by decide +kernel
theorem d_Mod_room_5 : decode prog_8_method_18_code 5 = .ok (.iaload, 1) := by decide +kernel
theorem d_Mod_room_6 : decode prog_8_method_18_code 6 = .ok (.iconst 1, 1) := by decide +kernel
theorem d_Mod_room_7 : decode prog_8_method_18_code 7 = .ok (.if_icmp .ne 8, 3) := by decide +kernel
theorem d_Mod_room_10 : decode prog_8_method_18_code 10 = .ok (.bipush 9, 2) := by decide +kernel
theorem d_Mod_room_12 : decode prog_8_method_18_code 12 = .ok (.goto 5, 3) := by decide +kernel
theorem d_Mod_room_15 : decode prog_8_method_18_code 15 = .ok (.bipush 6, 2) := by decide +kernel
theorem d_Mod_room_17 : decode prog_8_method_18_code 17 = .ok (.aload_n 1, 1) := by decide +kernel
theorem d_Mod_room_18 : decode prog_8_method_18_code 18 = .ok (.iload_n 2, 1) := by decide +kernel
theorem d_Mod_room_19 : decode prog_8_method_18_code 19 = .ok (.iaload, 1) := by decide +kernel
theorem d_Mod_room_20 : decode prog_8_method_18_code 20 = .ok (.isub, 1) := by decide +kernel
theorem d_Mod_room_21 : decode prog_8_method_18_code 21 = .ok (.ireturn, 1) := by decide +kernel
theorem d_Mod_brine_0 : decode prog_8_method_19_code 0 = .ok (.aload_n 0, 1) := by decide +kernel
theorem d_Mod_brine_1 : decode prog_8_method_19_code 1 = .ok (.bipush 6, 2) := by decide +kernel
theorem d_Mod_brine_3 : decode prog_8_method_19_code 3 = .ok (.iload_n 1, 1) := by decide +kernel
theorem d_Mod_brine_4 : decode prog_8_method_19_code 4 = .ok (.iadd, 1) := by decide +kernel
theorem d_Mod_brine_5 : decode prog_8_method_19_code 5 = .ok (.iaload, 1) := by decide +kernel
theorem d_Mod_brine_6 : decode prog_8_method_19_code 6 = .ok (.bipush 8, 2) := by decide +kernel
theorem d_Mod_brine_8 : decode prog_8_method_19_code 8 = .ok (.aload_n 0, 1) := by decide +kernel
theorem d_Mod_brine_9 : decode prog_8_method_19_code 9 = .ok (.iload_n 1, 1) := by decide +kernel
theorem d_Mod_brine_10 : decode prog_8_method_19_code 10 = .ok (.iaload, 1) := by decide +kernel
theorem d_Mod_brine_11 : decode prog_8_method_19_code 11 = .ok (.imul, 1) := by decide +kernel
theorem d_Mod_brine_12 : decode prog_8_method_19_code 12 = .ok (.if_icmp .ge 12, 3) := by decide +kernel
theorem d_Mod_brine_15 : decode prog_8_method_19_code 15 = .ok (.aload_n 0, 1) := by decide +kernel
theorem d_Mod_brine_16 : decode prog_8_method_19_code 16 = .ok (.bipush 6, 2) := by decide +kernel
theorem d_Mod_brine_18 : decode prog_8_method_19_code 18 = .ok (.iload_n 1, 1) := by decide +kernel
theorem d_Mod_brine_19 : decode prog_8_method_19_code 19 = .ok (.iadd, 1) := by decide +kernel
theorem d_Mod_brine_20 : decode prog_8_method_19_code 20 = .ok (.iaload, 1) := by decide +kernel
theorem d_Mod_brine_21 : decode prog_8_method_19_code 21 = .ok (.goto 9, 3) := by decide +kernel
theorem d_Mod_brine_24 : decode prog_8_method_19_code 24 = .ok (.bipush 8, 2) := by decide +kernel
theorem d_Mod_brine_26 : decode prog_8_method_19_code 26 = .ok (.aload_n 0, 1) := by decide +kernel
theorem d_Mod_brine_27 : decode prog_8_method_19_code 27 = .ok (.iload_n 1, 1) := by decide +kernel
theorem d_Mod_brine_28 : decode prog_8_method_19_code 28 = .ok (.iaload, 1) := by decide +kernel
theorem d_Mod_brine_29 : decode prog_8_method_19_code 29 = .ok (.imul, 1) := by decide +kernel
theorem d_Mod_brine_30 : decode prog_8_method_19_code 30 = .ok (.ireturn, 1) := by decide +kernel
theorem d_Mod_crustOf_0 : decode prog_8_method_20_code 0 = .ok (.aload_n 0, 1) := by decide +kernel
theorem d_Mod_crustOf_1 : decode prog_8_method_20_code 1 = .ok (.bipush 6, 2) := by decide +kernel
theorem d_Mod_crustOf_3 : decode prog_8_method_20_code 3 = .ok (.iload_n 1, 1) := by decide +kernel
theorem d_Mod_crustOf_4 : decode prog_8_method_20_code 4 = .ok (.iadd, 1) := by decide +kernel
theorem d_Mod_crustOf_5 : decode prog_8_method_20_code 5 = .ok (.iaload, 1) := by decide +kernel
theorem d_Mod_crustOf_6 : decode prog_8_method_20_code 6 = .ok (.aload_n 0, 1) := by decide +kernel
theorem d_Mod_crustOf_7 : decode prog_8_method_20_code 7 = .ok (.iload_n 1, 1) := by decide +kernel
theorem d_Mod_crustOf_8 : decode prog_8_method_20_code 8 = .ok (.invokestatic 106, 3) := by decide +kernel
theorem d_Mod_crustOf_11 : decode prog_8_method_20_code 11 = .ok (.isub, 1) := by decide +kernel
theorem d_Mod_crustOf_12 : decode prog_8_method_20_code 12 = .ok (.ireturn, 1) := by decide +kernel
theorem d_Mod_crustOfAll_0 : decode prog_8_method_21_code 0 = .ok (.iconst 0, 1) := by decide +kernel
theorem d_Mod_crustOfAll_1 : decode prog_8_method_21_code 1 = .ok (.istore_n 2, 1) := by decide +kernel
theorem d_Mod_crustOfAll_2 : decode prog_8_method_21_code 2 = .ok (.iconst 0, 1) := by decide +kernel
theorem d_Mod_crustOfAll_3 : decode prog_8_method_21_code 3 = .ok (.istore_n 3, 1) := by decide +kernel
theorem d_Mod_crustOfAll_4 : decode prog_8_method_21_code 4 = .ok (.iload_n 3, 1) := by decide +kernel
theorem d_Mod_crustOfAll_5 : decode prog_8_method_21_code 5 = .ok (.aload_n 0, 1) := by decide +kernel
theorem d_Mod_crustOfAll_6 : decode prog_8_method_21_code 6 = .ok (.getfield 60, 3) := by decide +kernel
theorem d_Mod_crustOfAll_9 : decode prog_8_method_21_code 9 = .ok (.if_icmp .ge 17, 3) := by decide +kernel
theorem d_Mod_crustOfAll_12 : decode prog_8_method_21_code 12 = .ok (.iload_n 2, 1) := by decide +kernel
theorem d_Mod_crustOfAll_13 : decode prog_8_method_21_code 13 = .ok (.aload_n 1, 1) := by decide +kernel
theorem d_Mod_crustOfAll_14 : decode prog_8_method_21_code 14 = .ok (.iload_n 3, 1) := by decide +kernel
theorem d_Mod_crustOfAll_15 : decode prog_8_method_21_code 15 = .ok (.invokestatic 110, 3) := by decide +kernel
theorem d_Mod_crustOfAll_18 : decode prog_8_method_21_code 18 = .ok (.iadd, 1) := by decide +kernel
theorem d_Mod_crustOfAll_19 : decode prog_8_method_21_code 19 = .ok (.istore_n 2, 1) := by decide +kernel
theorem d_Mod_crustOfAll_20 : decode prog_8_method_21_code 20 = .ok (.iinc 3 1, 3) := by decide +kernel
theorem d_Mod_crustOfAll_23 : decode prog_8_method_21_code 23 = .ok (.goto (-19), 3) := by decide +kernel
theorem d_Mod_crustOfAll_26 : decode prog_8_method_21_code 26 = .ok (.iload_n 2, 1) := by decide +kernel
theorem d_Mod_crustOfAll_27 : decode prog_8_method_21_code 27 = .ok (.ireturn, 1) := by decide +kernel
theorem d_Mod_flow_0 : decode prog_8_method_22_code 0 = .ok (.aload_n 0, 1) := by decide +kernel
theorem d_Mod_flow_1 : decode prog_8_method_22_code 1 = .ok (.iload_n 1, 1) := by decide +kernel
theorem d_Mod_flow_2 : decode prog_8_method_22_code 2 = .ok (.invokestatic 106, 3) := by decide +kernel
theorem d_Mod_flow_5 : decode prog_8_method_22_code 5 = .ok (.iload_n 2, 1) := by decide +kernel
theorem d_Mod_flow_6 : decode prog_8_method_22_code 6 = .ok (.imul, 1) := by decide +kernel
theorem d_Mod_flow_7 : decode prog_8_method_22_code 7 = .ok (.aload_n 0, 1) := by decide +kernel
theorem d_Mod_flow_8 : decode prog_8_method_22_code 8 = .ok (.iload_n 1, 1) := by decide +kernel
theorem d_Mod_flow_9 : decode prog_8_method_22_code 9 = .ok (.iaload, 1) := by decide +kernel
theorem d_Mod_flow_10 : decode prog_8_method_22_code 10 = .ok (.idiv, 1) := by decide +kernel
theorem d_Mod_flow_11 : decode prog_8_method_22_code 11 = .ok (.istore_n 3, 1) := by decide +kernel
theorem d_Mod_flow_12 : decode prog_8_method_22_code 12 = .ok (.aload_n 0, 1) := by decide +kernel
theorem d_Mod_flow_13 : decode prog_8_method_22_code 13 = .ok (.iload_n 1, 1) := by decide +kernel
theorem d_Mod_flow_14 : decode prog_8_method_22_code 14 = .ok (.dup2, 1) := by decide +kernel
theorem d_Mod_flow_15 : decode prog_8_method_22_code 15 = .ok (.iaload, 1) := by decide +kernel
theorem d_Mod_flow_16 : decode prog_8_method_22_code 16 = .ok (.iload_n 2, 1) := by decide +kernel
theorem d_Mod_flow_17 : decode prog_8_method_22_code 17 = .ok (.isub, 1) := by decide +kernel
theorem d_Mod_flow_18 : decode prog_8_method_22_code 18 = .ok (.iastore, 1) := by decide +kernel
theorem d_Mod_flow_19 : decode prog_8_method_22_code 19 = .ok (.aload_n 0, 1) := by decide +kernel
theorem d_Mod_flow_20 : decode prog_8_method_22_code 20 = .ok (.bipush 6, 2) := by decide +kernel
theorem d_Mod_flow_22 : decode prog_8_method_22_code 22 = .ok (.iload_n 1, 1) := by decide +kernel
theorem d_Mod_flow_23 : decode prog_8_method_22_code 23 = .ok (.iadd, 1) := by decide +kernel
theorem d_Mod_flow_24 : decode prog_8_method_22_code 24 = .ok (.dup2, 1) := by decide +kernel
theorem d_Mod_flow_25 : decode prog_8_method_22_code 25 = .ok (.iaload, 1) := by decide +kernel
theorem d_Mod_flow_26 : decode prog_8_method_22_code 26 = .ok (.iload_n 3, 1) := by decide +kernel
theorem d_Mod_flow_27 : decode prog_8_method_22_code 27 = .ok (.isub, 1) := by decide +kernel
theorem d_Mod_flow_28 : decode prog_8_method_22_code 28 = .ok (.iastore, 1) := by decide +kernel
theorem d_Mod_flow_29 : decode prog_8_method_22_code 29 = .ok (.iload_n 3, 1) := by decide +kernel
theorem d_Mod_flow_30 : decode prog_8_method_22_code 30 = .ok (.ireturn, 1) := by decide +kernel
theorem d_Mod_salted_0 : decode prog_8_method_23_code 0 = .ok (.aload_n 0, 1) := by decide +kernel
theorem d_Mod_salted_1 : decode prog_8_method_23_code 1 = .ok (.bipush 6, 2) := by decide +kernel
theorem d_Mod_salted_3 : decode prog_8_method_23_code 3 = .ok (.iload_n 1, 1) := by decide +kernel
theorem d_Mod_salted_4 : decode prog_8_method_23_code 4 = .ok (.iadd, 1) := by decide +kernel
theorem d_Mod_salted_5 : decode prog_8_method_23_code 5 = .ok (.iaload, 1) := by decide +kernel
theorem d_Mod_salted_6 : decode prog_8_method_23_code 6 = .ok (.iload_n 2, 1) := by decide +kernel
theorem d_Mod_salted_7 : decode prog_8_method_23_code 7 = .ok (.iadd, 1) := by decide +kernel
theorem d_Mod_salted_8 : decode prog_8_method_23_code 8 = .ok (.istore_n 3, 1) := by decide +kernel
theorem d_Mod_salted_9 : decode prog_8_method_23_code 9 = .ok (.aload_n 0, 1) := by decide +kernel
theorem d_Mod_salted_10 : decode prog_8_method_23_code 10 = .ok (.bipush 6, 2) := by decide +kernel
theorem d_Mod_salted_12 : decode prog_8_method_23_code 12 = .ok (.iload_n 1, 1) := by decide +kernel
theorem d_Mod_salted_13 : decode prog_8_method_23_code 13 = .ok (.iadd, 1) := by decide +kernel
theorem d_Mod_salted_14 : decode prog_8_method_23_code 14 = .ok (.iload_n 3, 1) := by decide +kernel
theorem d_Mod_salted_15 : decode prog_8_method_23_code 15 = .ok (.sipush 999, 3) := by decide +kernel
theorem d_Mod_salted_18 : decode prog_8_method_23_code 18 = .ok (.if_icmp .le 9, 3) := by decide +kernel
theorem d_Mod_salted_21 : decode prog_8_method_23_code 21 = .ok (.sipush 999, 3) := by decide +kernel
theorem d_Mod_salted_24 : decode prog_8_method_23_code 24 = .ok (.goto 4, 3) := by decide +kernel
theorem d_Mod_salted_27 : decode prog_8_method_23_code 27 = .ok (.iload_n 3, 1) := by decide +kernel
theorem d_Mod_salted_28 : decode prog_8_method_23_code 28 = .ok (.iastore, 1) := by decide +kernel
theorem d_Mod_salted_29 : decode prog_8_method_23_code 29 = .ok (.return_, 1) := by decide +kernel
theorem d_Mod_goLet_0 : decode prog_8_method_24_code 0 = .ok (.aload_n 0, 1) := by decide +kernel
theorem d_Mod_goLet_1 : decode prog_8_method_24_code 1 = .ok (.iload_n 1, 1) := by decide +kernel
theorem d_Mod_goLet_2 : decode prog_8_method_24_code 2 = .ok (.iload_n 2, 1) := by decide +kernel
theorem d_Mod_goLet_3 : decode prog_8_method_24_code 3 = .ok (.invokestatic 113, 3) := by decide +kernel
theorem d_Mod_goLet_6 : decode prog_8_method_24_code 6 = .ok (.istore_n 3, 1) := by decide +kernel
theorem d_Mod_goLet_7 : decode prog_8_method_24_code 7 = .ok (.aload_n 0, 1) := by decide +kernel
theorem d_Mod_goLet_8 : decode prog_8_method_24_code 8 = .ok (.iload_n 1, 1) := by decide +kernel
theorem d_Mod_goLet_9 : decode prog_8_method_24_code 9 = .ok (.iconst 1, 1) := by decide +kernel
theorem d_Mod_goLet_10 : decode prog_8_method_24_code 10 = .ok (.iadd, 1) := by decide +kernel
theorem d_Mod_goLet_11 : decode prog_8_method_24_code 11 = .ok (.dup2, 1) := by decide +kernel
theorem d_Mod_goLet_12 : decode prog_8_method_24_code 12 = .ok (.iaload, 1) := by decide +kernel
theorem d_Mod_goLet_13 : decode prog_8_method_24_code 13 = .ok (.iload_n 2, 1) := by decide +kernel
theorem d_Mod_goLet_14 : decode prog_8_method_24_code 14 = .ok (.iadd, 1) := by decide +kernel
theorem d_Mod_goLet_15 : decode prog_8_method_24_code 15 = .ok (.iastore, 1) := by decide +kernel
theorem d_Mod_goLet_16 : decode prog_8_method_24_code 16 = .ok (.aload_n 0, 1) := by decide +kernel
theorem d_Mod_goLet_17 : decode prog_8_method_24_code 17 = .ok (.iload_n 1, 1) := by decide +kernel
theorem d_Mod_goLet_18 : decode prog_8_method_24_code 18 = .ok (.iconst 1, 1) := by decide +kernel
theorem d_Mod_goLet_19 : decode prog_8_method_24_code 19 = .ok (.iadd, 1) := by decide +kernel
theorem d_Mod_goLet_20 : decode prog_8_method_24_code 20 = .ok (.iload_n 3, 1) := by decide +kernel
theorem d_Mod_goLet_21 : decode prog_8_method_24_code 21 = .ok (.invokestatic 117, 3) := by decide +kernel
theorem d_Mod_goLet_24 : decode prog_8_method_24_code 24 = .ok (.iload_n 3, 1) := by decide +kernel
theorem d_Mod_goLet_25 : decode prog_8_method_24_code 25 = .ok (.ireturn, 1) := by decide +kernel
theorem d_Mod_skyOf_0 : decode prog_8_method_25_code 0 = .ok (.aload_n 0, 1) := by decide +kernel
theorem d_Mod_skyOf_1 : decode prog_8_method_25_code 1 = .ok (.getfield 100, 3) := by decide +kernel
theorem d_Mod_skyOf_4 : decode prog_8_method_25_code 4 = .ok (.ifCond .ne 7, 3) := by decide +kernel
theorem d_Mod_skyOf_7 : decode prog_8_method_25_code 7 = .ok (.iconst 0, 1) := by decide +kernel
theorem d_Mod_skyOf_8 : decode prog_8_method_25_code 8 = .ok (.goto 17, 3) := by decide +kernel
theorem d_Mod_skyOf_11 : decode prog_8_method_25_code 11 = .ok (.aload_n 0, 1) := by decide +kernel
theorem d_Mod_skyOf_12 : decode prog_8_method_25_code 12 = .ok (.getfield 16, 3) := by decide +kernel
theorem d_Mod_skyOf_15 : decode prog_8_method_25_code 15 = .ok (.aload_n 1, 1) := by decide +kernel
theorem d_Mod_skyOf_16 : decode prog_8_method_25_code 16 = .ok (.bipush 14, 2) := by decide +kernel
theorem d_Mod_skyOf_18 : decode prog_8_method_25_code 18 = .ok (.iaload, 1) := by decide +kernel
theorem d_Mod_skyOf_19 : decode prog_8_method_25_code 19 = .ok (.aload_n 0, 1) := by decide +kernel
theorem d_Mod_skyOf_20 : decode prog_8_method_25_code 20 = .ok (.getfield 100, 3) := by decide +kernel
theorem d_Mod_skyOf_23 : decode prog_8_method_25_code 23 = .ok (.irem, 1) := by decide +kernel
theorem d_Mod_skyOf_24 : decode prog_8_method_25_code 24 = .ok (.iaload, 1) := by decide +kernel
theorem d_Mod_skyOf_25 : decode prog_8_method_25_code 25 = .ok (.ireturn, 1) := by decide +kernel
theorem d_Mod_weather_0 : decode prog_8_method_26_code 0 = .ok (.iload_n 3, 1) := by decide +kernel
theorem d_Mod_weather_1 : decode prog_8_method_26_code 1 = .ok (.ifCond .ge 34, 3) := by decide +kernel
theorem d_Mod_weather_4 : decode prog_8_method_26_code 4 = .ok (.aload_n 1, 1) := by decide +kernel
theorem d_Mod_weather_5 : decode prog_8_method_26_code 5 = .ok (.iload_n 2, 1) := by decide +kernel
theorem d_Mod_weather_6 : decode prog_8_method_26_code 6 = .ok (.dup2, 1) := by decide +kernel
theorem d_Mod_weather_7 : decode prog_8_method_26_code 7 = .ok (.iaload, 1) := by decide +kernel
theorem d_Mod_weather_8 : decode prog_8_method_26_code 8 = .ok (.aload_n 0, 1) := by decide +kernel
theorem d_Mod_weather_9 : decode prog_8_method_26_code 9 = .ok (.aload_n 1, 1) := by decide +kernel
theorem d_Mod_weather_10 : decode prog_8_method_26_code 10 = .ok (.iload_n 2, 1) := by decide +kernel
theorem d_Mod_weather_11 : decode prog_8_method_26_code 11 = .ok (.invokevirtual 121, 3) := by decide +kernel
theorem d_Mod_weather_14 : decode prog_8_method_26_code 14 = .ok (.iload_n 3, 1) := by decide +kernel
theorem d_Mod_weather_15 : decode prog_8_method_26_code 15 = .ok (.ineg, 1) := by decide +kernel
theorem d_Mod_weather_16 : decode prog_8_method_26_code 16 = .ok (.if_icmp .ge 12, 3) := by decide +kernel
theorem d_Mod_weather_19 : decode prog_8_method_26_code 19 = .ok (.aload_n 0, 1) := by decide +kernel
theorem d_Mod_weather_20 : decode prog_8_method_26_code 20 = .ok (.aload_n 1, 1) := by decide +kernel
theorem d_Mod_weather_21 : decode prog_8_method_26_code 21 = .ok (.iload_n 2, 1) := by decide +kernel
theorem d_Mod_weather_22 : decode prog_8_method_26_code 22 = .ok (.invokevirtual 121, 3) := by decide +kernel
theorem d_Mod_weather_25 : decode prog_8_method_26_code 25 = .ok (.goto 5, 3) := by decide +kernel
theorem d_Mod_weather_28 : decode prog_8_method_26_code 28 = .ok (.iload_n 3, 1) := by decide +kernel
theorem d_Mod_weather_29 : decode prog_8_method_26_code 29 = .ok (.ineg, 1) := by decide +kernel
theorem d_Mod_weather_30 : decode prog_8_method_26_code 30 = .ok (.iadd, 1) := by decide +kernel
theorem d_Mod_weather_31 : decode prog_8_method_26_code 31 = .ok (.iastore, 1) := by decide +kernel
theorem d_Mod_weather_32 : decode prog_8_method_26_code 32 = .ok (.goto 47, 3) := by decide +kernel
theorem d_Mod_weather_35 : decode prog_8_method_26_code 35 = .ok (.iload_n 3, 1) := by decide +kernel
theorem d_Mod_weather_36 : decode prog_8_method_26_code 36 = .ok (.iload_n 3, 1) := by decide +kernel
theorem d_Mod_weather_37 : decode prog_8_method_26_code 37 = .ok (.ifCond .le 17, 3) := by decide +kernel
theorem d_Mod_weather_40 : decode prog_8_method_26_code 40 = .ok (.aload_n 0, 1) := by decide +kernel
theorem d_Mod_weather_41 : decode prog_8_method_26_code 41 = .ok (.getfield 13, 3) := by decide +kernel
theorem d_Mod_weather_44 : decode prog_8_method_26_code 44 = .ok (.iload_n 2, 1) := by decide +kernel
theorem d_Mod_weather_45 : decode prog_8_method_26_code 45 = .ok (.iaload, 1) := by decide +kernel
theorem d_Mod_weather_46 : decode prog_8_method_26_code 46 = .ok (.iconst 2, 1) := by decide +kernel
theorem d_Mod_weather_47 : decode prog_8_method_26_code 47 = .ok (.if_icmp .ne 7, 3) := by decide +kernel
theorem d_Mod_weather_50 : decode prog_8_method_26_code 50 = .ok (.iconst 1, 1) := by decide +kernel
theorem d_Mod_weather_51 : decode prog_8_method_26_code 51 = .ok (.goto 4, 3) := by decide +kernel
theorem d_Mod_weather_54 : decode prog_8_method_26_code 54 = .ok (.iconst 0, 1) := by decide +kernel
theorem d_Mod_weather_55 : decode prog_8_method_26_code 55 = .ok (.iadd, 1) := by decide +kernel
theorem d_Mod_weather_56 : decode prog_8_method_26_code 56 = .ok (.istore 4, 2) := by decide +kernel
theorem d_Mod_weather_58 : decode prog_8_method_26_code 58 = .ok (.aload_n 1, 1) := by decide +kernel
theorem d_Mod_weather_59 : decode prog_8_method_26_code 59 = .ok (.iload_n 2, 1) := by decide +kernel
theorem d_Mod_weather_60 : decode prog_8_method_26_code 60 = .ok (.aload_n 1, 1) := by decide +kernel
theorem d_Mod_weather_61 : decode prog_8_method_26_code 61 = .ok (.iload_n 2, 1) := by decide +kernel
theorem d_Mod_weather_62 : decode prog_8_method_26_code 62 = .ok (.iaload, 1) := by decide +kernel
theorem d_Mod_weather_63 : decode prog_8_method_26_code 63 = .ok (.iload 4, 2) := by decide +kernel
theorem d_Mod_weather_65 : decode prog_8_method_26_code 65 = .ok (.if_icmp .ge 7, 3) := by decide +kernel
theorem d_Mod_weather_68 : decode prog_8_method_26_code 68 = .ok (.iconst 0, 1) := by decide +kernel
theorem d_Mod_weather_69 : decode prog_8_method_26_code 69 = .ok (.goto 9, 3) := by decide +kernel
theorem d_Mod_weather_72 : decode prog_8_method_26_code 72 = .ok (.aload_n 1, 1) := by decide +kernel
theorem d_Mod_weather_73 : decode prog_8_method_26_code 73 = .ok (.iload_n 2, 1) := by decide +kernel
theorem d_Mod_weather_74 : decode prog_8_method_26_code 74 = .ok (.iaload, 1) := by decide +kernel
theorem d_Mod_weather_75 : decode prog_8_method_26_code 75 = .ok (.iload 4, 2) := by decide +kernel
theorem d_Mod_weather_77 : decode prog_8_method_26_code 77 = .ok (.isub, 1) := by decide +kernel
theorem d_Mod_weather_78 : decode prog_8_method_26_code 78 = .ok (.iastore, 1) := by decide +kernel
theorem d_Mod_weather_79 : decode prog_8_method_26_code 79 = .ok (.return_, 1) := by decide +kernel
theorem d_Mod_goDay_0 : decode prog_8_method_27_code 0 = .ok (.iconst 0, 1) := by decide +kernel
theorem d_Mod_goDay_1 : decode prog_8_method_27_code 1 = .ok (.istore_n 3, 1) := by decide +kernel
theorem d_Mod_goDay_2 : decode prog_8_method_27_code 2 = .ok (.iload_n 3, 1) := by decide +kernel
theorem d_Mod_goDay_3 : decode prog_8_method_27_code 3 = .ok (.aload_n 0, 1) := by decide +kernel
theorem d_Mod_goDay_4 : decode prog_8_method_27_code 4 = .ok (.getfield 60, 3) := by decide +kernel
theorem d_Mod_goDay_7 : decode prog_8_method_27_code 7 = .ok (.iconst 1, 1) := by decide +kernel
theorem d_Mod_goDay_8 : decode prog_8_method_27_code 8 = .ok (.isub, 1) := by decide +kernel
theorem d_Mod_goDay_9 : decode prog_8_method_27_code 9 = .ok (.if_icmp .ge 44, 3) := by decide +kernel
theorem d_Mod_goDay_12 : decode prog_8_method_27_code 12 = .ok (.aload_n 1, 1) := by decide +kernel
theorem d_Mod_goDay_13 : decode prog_8_method_27_code 13 = .ok (.bipush 12, 2) := by decide +kernel
theorem d_Mod_goDay_15 : decode prog_8_method_27_code 15 = .ok (.iaload, 1) := by decide +kernel
theorem d_Mod_goDay_16 : decode prog_8_method_27_code 16 = .ok (.iload_n 3, 1) := by decide +kernel
theorem d_Mod_goDay_17 : decode prog_8_method_27_code 17 = .ok (.invokestatic 124, 3) := by decide +kernel
theorem d_Mod_goDay_20 : decode prog_8_method_27_code 20 = .ok (.ifCond .eq 27, 3) := by decide +kernel
theorem d_Mod_goDay_23 : decode prog_8_method_27_code 23 = .ok (.aload_n 1, 1) := by decide +kernel
theorem d_Mod_goDay_24 : decode prog_8_method_27_code 24 = .ok (.iload_n 3, 1) := by decide +kernel
theorem d_Mod_goDay_25 : decode prog_8_method_27_code 25 = .ok (.iaload, 1) := by decide +kernel
theorem d_Mod_goDay_26 : decode prog_8_method_27_code 26 = .ok (.ifCond .le 21, 3) := by decide +kernel
theorem d_Mod_goDay_29 : decode prog_8_method_27_code 29 = .ok (.aload_n 0, 1) := by decide +kernel
theorem d_Mod_goDay_30 : decode prog_8_method_27_code 30 = .ok (.aload_n 1, 1) := by decide +kernel
theorem d_Mod_goDay_31 : decode prog_8_method_27_code 31 = .ok (.iload_n 3, 1) := by decide +kernel
theorem d_Mod_goDay_32 : decode prog_8_method_27_code 32 = .ok (.iconst 1, 1) := by decide +kernel
theorem d_Mod_goDay_33 : decode prog_8_method_27_code 33 = .ok (.iadd, 1) := by decide +kernel
theorem d_Mod_goDay_34 : decode prog_8_method_27_code 34 = .ok (.invokevirtual 121, 3) := by decide +kernel
theorem d_Mod_goDay_37 : decode prog_8_method_27_code 37 = .ok (.ifCond .le 10, 3) := by decide +kernel
theorem d_Mod_goDay_40 : decode prog_8_method_27_code 40 = .ok (.aload_n 1, 1) := by decide +kernel
theorem d_Mod_goDay_41 : decode prog_8_method_27_code 41 = .ok (.iload_n 3, 1) := by decide +kernel
theorem d_Mod_goDay_42 : decode prog_8_method_27_code 42 = .ok (.iconst 1, 1) := by decide +kernel
theorem d_Mod_goDay_43 : decode prog_8_method_27_code 43 = .ok (.invokestatic 128, 3) := by decide +kernel
theorem d_Mod_goDay_46 : decode prog_8_method_27_code 46 = .ok (.pop, 1) := by decide +kernel
theorem d_Mod_goDay_47 : decode prog_8_method_27_code 47 = .ok (.iinc 3 1, 3) := by decide +kernel
theorem d_Mod_goDay_50 : decode prog_8_method_27_code 50 = .ok (.goto (-48), 3) := by decide +kernel
theorem d_Mod_goDay_53 : decode prog_8_method_27_code 53 = .ok (.iconst 0, 1) := by decide +kernel
theorem d_Mod_goDay_54 : decode prog_8_method_27_code 54 = .ok (.istore_n 3, 1) := by decide +kernel
theorem d_Mod_goDay_55 : decode prog_8_method_27_code 55 = .ok (.iload_n 3, 1) := by decide +kernel
theorem d_Mod_goDay_56 : decode prog_8_method_27_code 56 = .ok (.aload_n 0, 1) := by decide +kernel
theorem d_Mod_goDay_57 : decode prog_8_method_27_code 57 = .ok (.getfield 60, 3) := by decide +kernel
theorem d_Mod_goDay_60 : decode prog_8_method_27_code 60 = .ok (.if_icmp .ge 32, 3) := by decide +kernel
theorem d_Mod_goDay_63 : decode prog_8_method_27_code 63 = .ok (.aload_n 0, 1) := by decide +kernel
theorem d_Mod_goDay_64 : decode prog_8_method_27_code 64 = .ok (.getfield 13, 3) := by decide +kernel
theorem d_Mod_goDay_67 : decode prog_8_method_27_code 67 = .ok (.iload_n 3, 1) := by decide +kernel
theorem d_Mod_goDay_68 : decode prog_8_method_27_code 68 = .ok (.iaload, 1) := by decide +kernel
theorem d_Mod_goDay_69 : decode prog_8_method_27_code 69 = .ok (.iconst 3, 1) := by decide +kernel
theorem d_Mod_goDay_70 : decode prog_8_method_27_code 70 = .ok (.if_icmp .ne 16, 3) := by decide +kernel
theorem d_Mod_goDay_73 : decode prog_8_method_27_code 73 = .ok (.aload_n 1, 1) := by decide +kernel
theorem d_Mod_goDay_74 : decode prog_8_method_27_code 74 = .ok (.iload_n 3, 1) := by decide +kernel
theorem d_Mod_goDay_75 : decode prog_8_method_27_code 75 = .ok (.iaload, 1) := by decide +kernel
theorem d_Mod_goDay_76 : decode prog_8_method_27_code 76 = .ok (.ifCond .le 10, 3) := by decide +kernel
theorem d_Mod_goDay_79 : decode prog_8_method_27_code 79 = .ok (.aload_n 1, 1) := by decide +kernel
theorem d_Mod_goDay_80 : decode prog_8_method_27_code 80 = .ok (.iload_n 3, 1) := by decide +kernel
theorem d_Mod_goDay_81 : decode prog_8_method_27_code 81 = .ok (.iconst 1, 1) := by decide +kernel
theorem d_Mod_goDay_82 : decode prog_8_method_27_code 82 = .ok (.invokestatic 113, 3) := by decide +kernel
theorem d_Mod_goDay_85 : decode prog_8_method_27_code 85 = .ok (.pop, 1) := by decide +kernel
theorem d_Mod_goDay_86 : decode prog_8_method_27_code 86 = .ok (.iinc 3 1, 3) := by decide +kernel
theorem d_Mod_goDay_89 : decode prog_8_method_27_code 89 = .ok (.goto (-34), 3) := by decide +kernel
theorem d_Mod_goDay_92 : decode prog_8_method_27_code 92 = .ok (.aload_n 0, 1) := by decide +kernel
theorem d_Mod_goDay_93 : decode prog_8_method_27_code 93 = .ok (.aload_n 1, 1) := by decide +kernel
theorem d_Mod_goDay_94 : decode prog_8_method_27_code 94 = .ok (.invokevirtual 131, 3) := by decide +kernel
theorem d_Mod_goDay_97 : decode prog_8_method_27_code 97 = .ok (.istore_n 3, 1) := by decide +kernel
theorem d_Mod_goDay_98 : decode prog_8_method_27_code 98 = .ok (.iload_n 3, 1) := by decide +kernel
theorem d_Mod_goDay_99 : decode prog_8_method_27_code 99 = .ok (.ifCond .le 11, 3) := by decide +kernel
theorem d_Mod_goDay_102 : decode prog_8_method_27_code 102 = .ok (.iload_n 2, 1) := by decide +kernel
theorem d_Mod_goDay_103 : decode prog_8_method_27_code 103 = .ok (.ifCond .ne 7, 3) := by decide +kernel
theorem d_Mod_goDay_106 : decode prog_8_method_27_code 106 = .ok (.iconst 0, 1) := by decide +kernel
theorem d_Mod_goDay_107 : decode prog_8_method_27_code 107 = .ok (.goto 4, 3) := by decide +kernel
theorem d_Mod_goDay_110 : decode prog_8_method_27_code 110 = .ok (.iload_n 3, 1) := by decide +kernel
theorem d_Mod_goDay_111 : decode prog_8_method_27_code 111 = .ok (.istore_n 3, 1) := by decide +kernel
theorem d_Mod_goDay_112 : decode prog_8_method_27_code 112 = .ok (.iconst 0, 1) := by decide +kernel
theorem d_Mod_goDay_113 : decode prog_8_method_27_code 113 = .ok (.istore 4, 2) := by decide +kernel
theorem d_Mod_goDay_115 : decode prog_8_method_27_code 115 = .ok (.iload 4, 2) := by decide +kernel
theorem d_Mod_goDay_117 : decode prog_8_method_27_code 117 = .ok (.aload_n 0, 1) := by decide +kernel
theorem d_Mod_goDay_118 : decode prog_8_method_27_code 118 = .ok (.getfield 60, 3) := by decide +kernel
theorem d_Mod_goDay_121 : decode prog_8_method_27_code 121 = .ok (.if_icmp .ge 17, 3) := by decide +kernel
theorem d_Mod_goDay_124 : decode prog_8_method_27_code 124 = .ok (.aload_n 0, 1) := by decide +kernel
theorem d_Mod_goDay_125 : decode prog_8_method_27_code 125 = .ok (.aload_n 1, 1) := by decide +kernel
theorem d_Mod_goDay_126 : decode prog_8_method_27_code 126 = .ok (.iload 4, 2) := by decide +kernel
theorem d_Mod_goDay_128 : decode prog_8_method_27_code 128 = .ok (.iload_n 3, 1) := by decide +kernel
theorem d_Mod_goDay_129 : decode prog_8_method_27_code 129 = .ok (.invokevirtual 135, 3) := by decide +kernel
theorem d_Mod_goDay_132 : decode prog_8_method_27_code 132 = .ok (.iinc 4 1, 3) := by decide +kernel
theorem d_Mod_goDay_135 : decode prog_8_method_27_code 135 = .ok (.goto (-20), 3) := by decide +kernel
theorem d_Mod_goDay_138 : decode prog_8_method_27_code 138 = .ok (.aload_n 1, 1) := by decide +kernel
theorem d_Mod_goDay_139 : decode prog_8_method_27_code 139 = .ok (.bipush 14, 2) := by decide +kernel
theorem d_Mod_goDay_141 : decode prog_8_method_27_code 141 = .ok (.dup2, 1) := by decide +kernel
theorem d_Mod_goDay_142 : decode prog_8_method_27_code 142 = .ok (.iaload, 1) := by decide +kernel
theorem d_Mod_goDay_143 : decode prog_8_method_27_code 143 = .ok (.iconst 1, 1) := by decide +kernel
theorem d_Mod_goDay_144 : decode prog_8_method_27_code 144 = .ok (.iadd, 1) := by decide +kernel
theorem d_Mod_goDay_145 : decode prog_8_method_27_code 145 = .ok (.iastore, 1) := by decide +kernel
theorem d_Mod_goDay_146 : decode prog_8_method_27_code 146 = .ok (.return_, 1) := by decide +kernel
theorem d_Mod_goDays_0 : decode prog_8_method_28_code 0 = .ok (.iconst 0, 1) := by decide +kernel
theorem d_Mod_goDays_1 : decode prog_8_method_28_code 1 = .ok (.istore_n 3, 1) := by decide +kernel
theorem d_Mod_goDays_2 : decode prog_8_method_28_code 2 = .ok (.iload_n 3, 1) := by decide +kernel
theorem d_Mod_goDays_3 : decode prog_8_method_28_code 3 = .ok (.iload_n 2, 1) := by decide +kernel
theorem d_Mod_goDays_4 : decode prog_8_method_28_code 4 = .ok (.if_icmp .ge 15, 3) := by decide +kernel
theorem d_Mod_goDays_7 : decode prog_8_method_28_code 7 = .ok (.aload_n 0, 1) := by decide +kernel
theorem d_Mod_goDays_8 : decode prog_8_method_28_code 8 = .ok (.aload_n 1, 1) := by decide +kernel
theorem d_Mod_goDays_9 : decode prog_8_method_28_code 9 = .ok (.iconst 1, 1) := by decide +kernel
theorem d_Mod_goDays_10 : decode prog_8_method_28_code 10 = .ok (.invokevirtual 138, 3) := by decide +kernel
theorem d_Mod_goDays_13 : decode prog_8_method_28_code 13 = .ok (.iinc 3 1, 3) := by decide +kernel
theorem d_Mod_goDays_16 : decode prog_8_method_28_code 16 = .ok (.goto (-14), 3) := by decide +kernel
theorem d_Mod_goDays_19 : decode prog_8_method_28_code 19 = .ok (.return_, 1) := by decide +kernel
theorem d_Mod_canRake_0 : decode prog_8_method_29_code 0 = .ok (.aload_n 0, 1) := by decide +kernel
theorem d_Mod_canRake_1 : decode prog_8_method_29_code 1 = .ok (.iload_n 1, 1) := by decide +kernel
theorem d_Mod_canRake_2 : decode prog_8_method_29_code 2 = .ok (.iaload, 1) := by decide +kernel
theorem d_Mod_canRake_3 : decode prog_8_method_29_code 3 = .ok (.iconst 1, 1) := by decide +kernel
theorem d_Mod_canRake_4 : decode prog_8_method_29_code 4 = .ok (.if_icmp .gt 15, 3) := by decide +kernel
theorem d_Mod_canRake_7 : decode prog_8_method_29_code 7 = .ok (.aload_n 0, 1) := by decide +kernel
theorem d_Mod_canRake_8 : decode prog_8_method_29_code 8 = .ok (.iload_n 1, 1) := by decide +kernel
theorem d_Mod_canRake_9 : decode prog_8_method_29_code 9 = .ok (.invokestatic 110, 3) := by decide +kernel
theorem d_Mod_canRake_12 : decode prog_8_method_29_code 12 = .ok (.ifCond .le 7, 3) := by decide +kernel
theorem d_Mod_canRake_15 : decode prog_8_method_29_code 15 = .ok (.iconst 1, 1) := by decide +kernel
theorem d_Mod_canRake_16 : decode prog_8_method_29_code 16 = .ok (.goto 4, 3) := by decide +kernel
theorem d_Mod_canRake_19 : decode prog_8_method_29_code 19 = .ok (.iconst 0, 1) := by decide +kernel
theorem d_Mod_canRake_20 : decode prog_8_method_29_code 20 = .ok (.ireturn, 1) := by decide +kernel
theorem d_Mod_ripeOnes_0 : decode prog_8_method_30_code 0 = .ok (.iconst 0, 1) := by decide +kernel
theorem d_Mod_ripeOnes_1 : decode prog_8_method_30_code 1 = .ok (.istore_n 2, 1) := by decide +kernel
theorem d_Mod_ripeOnes_2 : decode prog_8_method_30_code 2 = .ok (.iconst 0, 1) := by decide +kernel
theorem d_Mod_ripeOnes_3 : decode prog_8_method_30_code 3 = .ok (.istore_n 3, 1) := by decide +kernel
theorem d_Mod_ripeOnes_4 : decode prog_8_method_30_code 4 = .ok (.iload_n 3, 1) := by decide +kernel
theorem d_Mod_ripeOnes_5 : decode prog_8_method_30_code 5 = .ok (.aload_n 0, 1) := by decide +kernel
theorem d_Mod_ripeOnes_6 : decode prog_8_method_30_code 6 = .ok (.getfield 60, 3) := by decide +kernel
theorem d_Mod_ripeOnes_9 : decode prog_8_method_30_code 9 = .ok (.if_icmp .ge 27, 3) := by decide +kernel
theorem d_Mod_ripeOnes_12 : decode prog_8_method_30_code 12 = .ok (.iload_n 2, 1) := by decide +kernel
theorem d_Mod_ripeOnes_13 : decode prog_8_method_30_code 13 = .ok (.aload_n 1, 1) := by decide +kernel
theorem d_Mod_ripeOnes_14 : decode prog_8_method_30_code 14 = .ok (.iload_n 3, 1) := by decide +kernel
theorem d_Mod_ripeOnes_15 : decode prog_8_method_30_code 15 = .ok (.invokestatic 142, 3) := by decide +kernel
theorem d_Mod_ripeOnes_18 : decode prog_8_method_30_code 18 = .ok (.ifCond .eq 9, 3) := by decide +kernel
theorem d_Mod_ripeOnes_21 : decode prog_8_method_30_code 21 = .ok (.iconst 1, 1) := by decide +kernel
theorem d_Mod_ripeOnes_22 : decode prog_8_method_30_code 22 = .ok (.iload_n 3, 1) := by decide +kernel
theorem d_Mod_ripeOnes_23 : decode prog_8_method_30_code 23 = .ok (.ishl, 1) := by decide +kernel
theorem d_Mod_ripeOnes_24 : decode prog_8_method_30_code 24 = .ok (.goto 4, 3) := by decide +kernel
theorem d_Mod_ripeOnes_27 : decode prog_8_method_30_code 27 = .ok (.iconst 0, 1) := by decide +kernel
theorem d_Mod_ripeOnes_28 : decode prog_8_method_30_code 28 = .ok (.ior, 1) := by decide +kernel
theorem d_Mod_ripeOnes_29 : decode prog_8_method_30_code 29 = .ok (.istore_n 2, 1) := by decide +kernel
theorem d_Mod_ripeOnes_30 : decode prog_8_method_30_code 30 = .ok (.iinc 3 1, 3) := by decide +kernel
theorem d_Mod_ripeOnes_33 : decode prog_8_method_30_code 33 = .ok (.goto (-29), 3) := by decide +kernel
theorem d_Mod_ripeOnes_36 : decode prog_8_method_30_code 36 = .ok (.iload_n 2, 1) := by decide +kernel
theorem d_Mod_ripeOnes_37 : decode prog_8_method_30_code 37 = .ok (.ireturn, 1) := by decide +kernel
theorem d_Mod_sumFrom_0 : decode prog_8_method_31_code 0 = .ok (.iconst 0, 1) := by decide +kernel
theorem d_Mod_sumFrom_1 : decode prog_8_method_31_code 1 = .ok (.istore_n 2, 1) := by decide +kernel
theorem d_Mod_sumFrom_2 : decode prog_8_method_31_code 2 = .ok (.iconst 0, 1) := by decide +kernel
theorem d_Mod_sumFrom_3 : decode prog_8_method_31_code 3 = .ok (.istore_n 3, 1) := by decide +kernel
theorem d_Mod_sumFrom_4 : decode prog_8_method_31_code 4 = .ok (.iload_n 3, 1) := by decide +kernel
theorem d_Mod_sumFrom_5 : decode prog_8_method_31_code 5 = .ok (.aload_n 0, 1) := by decide +kernel
theorem d_Mod_sumFrom_6 : decode prog_8_method_31_code 6 = .ok (.getfield 60, 3) := by decide +kernel
theorem d_Mod_sumFrom_9 : decode prog_8_method_31_code 9 = .ok (.if_icmp .ge 20, 3) := by decide +kernel
theorem d_Mod_sumFrom_12 : decode prog_8_method_31_code 12 = .ok (.iload_n 2, 1) := by decide +kernel
theorem d_Mod_sumFrom_13 : decode prog_8_method_31_code 13 = .ok (.aload_n 0, 1) := by decide +kernel
theorem d_Mod_sumFrom_14 : decode prog_8_method_31_code 14 = .ok (.getfield 25, 3) := by decide +kernel
theorem d_Mod_sumFrom_17 : decode prog_8_method_31_code 17 = .ok (.iload_n 1, 1) := by decide +kernel
theorem d_Mod_sumFrom_18 : decode prog_8_method_31_code 18 = .ok (.iload_n 3, 1) := by decide +kernel
theorem d_Mod_sumFrom_19 : decode prog_8_method_31_code 19 = .ok (.iadd, 1) := by decide +kernel
theorem d_Mod_sumFrom_20 : decode prog_8_method_31_code 20 = .ok (.iaload, 1) := by decide +kernel
theorem d_Mod_sumFrom_21 : decode prog_8_method_31_code 21 = .ok (.iadd, 1) := by decide +kernel
theorem d_Mod_sumFrom_22 : decode prog_8_method_31_code 22 = .ok (.istore_n 2, 1) := by decide +kernel
theorem d_Mod_sumFrom_23 : decode prog_8_method_31_code 23 = .ok (.iinc 3 1, 3) := by decide +kernel
theorem d_Mod_sumFrom_26 : decode prog_8_method_31_code 26 = .ok (.goto (-22), 3) := by decide +kernel
theorem d_Mod_sumFrom_29 : decode prog_8_method_31_code 29 = .ok (.iload_n 2, 1) := by decide +kernel
theorem d_Mod_sumFrom_30 : decode prog_8_method_31_code 30 = .ok (.ireturn, 1) := by decide +kernel
theorem d_Mod_about_0 : decode prog_8_method_32_code 0 = .ok (.aload_n 0, 1) := by decide +kernel
theorem d_Mod_about_1 : decode prog_8_method_32_code 1 = .ok (.iconst 0, 1) := by decide +kernel
theorem d_Mod_about_2 : decode prog_8_method_32_code 2 = .ok (.putfield 56, 3) := by decide +kernel
theorem d_Mod_about_5 : decode prog_8_method_32_code 5 = .ok (.iload_n 1, 1) := by decide +kernel
theorem d_Mod_about_6 : decode prog_8_method_32_code 6 = .ok (.tableswitch 155 0 12 #[66, 71, 76, 84, 93, 101, 109, 115, 122, 131, 140, 145, 150], 66) := by decide +kernel
theorem d_Mod_about_72 : decode prog_8_method_32_code 72 = .ok (.aload_n 0, 1) := by decide +kernel
theorem d_Mod_about_73 : decode prog_8_method_32_code 73 = .ok (.getfield 60, 3) := by decide +kernel
theorem d_Mod_about_76 : decode prog_8_method_32_code 76 = .ok (.ireturn, 1) := by decide +kernel
theorem d_Mod_about_77 : decode prog_8_method_32_code 77 = .ok (.aload_n 0, 1) := by decide +kernel
theorem d_Mod_about_78 : decode prog_8_method_32_code 78 = .ok (.getfield 100, 3) := by decide +kernel
theorem d_Mod_about_81 : decode prog_8_method_32_code 81 = .ok (.ireturn, 1) := by decide +kernel
theorem d_Mod_about_82 : decode prog_8_method_32_code 82 = .ok (.aload_n 0, 1) := by decide +kernel
theorem d_Mod_about_83 : decode prog_8_method_32_code 83 = .ok (.getfield 25, 3) := by decide +kernel
theorem d_Mod_about_86 : decode prog_8_method_32_code 86 = .ok (.bipush 14, 2) := by decide +kernel
theorem d_Mod_about_88 : decode prog_8_method_32_code 88 = .ok (.iaload, 1) := by decide +kernel
theorem d_Mod_about_89 : decode prog_8_method_32_code 89 = .ok (.ireturn, 1) := by decide +kernel
theorem d_Mod_about_90 : decode prog_8_method_32_code 90 = .ok (.aload_n 0, 1) := by decide +kernel
theorem d_Mod_about_91 : decode prog_8_method_32_code 91 = .ok (.aload_n 0, 1) := by decide +kernel
theorem d_Mod_about_92 : decode prog_8_method_32_code 92 = .ok (.getfield 25, 3) := by decide +kernel
theorem d_Mod_about_95 : decode prog_8_method_32_code 95 = .ok (.invokevirtual 131, 3) := by decide +kernel
theorem d_Mod_about_98 : decode prog_8_method_32_code 98 = .ok (.ireturn, 1) := by decide +kernel
theorem d_Mod_about_99 : decode prog_8_method_32_code 99 = .ok (.aload_n 0, 1) := by decide +kernel
theorem d_Mod_about_100 : decode prog_8_method_32_code 100 = .ok (.getfield 25, 3) := by decide +kernel
theorem d_Mod_about_103 : decode prog_8_method_32_code 103 = .ok (.bipush 12, 2) := by decide +kernel
theorem d_Mod_about_105 : decode prog_8_method_32_code 105 = .ok (.iaload, 1) := by decide +kernel
theorem d_Mod_about_106 : decode prog_8_method_32_code 106 = .ok (.ireturn, 1) := by decide +kernel
theorem d_Mod_about_107 : decode prog_8_method_32_code 107 = .ok (.aload_n 0, 1) := by decide +kernel
theorem d_Mod_about_108 : decode prog_8_method_32_code 108 = .ok (.getfield 25, 3) := by decide +kernel
theorem d_Mod_about_111 : decode prog_8_method_32_code 111 = .ok (.bipush 13, 2) := by decide +kernel
theorem d_Mod_about_113 : decode prog_8_method_32_code 113 = .ok (.iaload, 1) := by decide +kernel
theorem d_Mod_about_114 : decode prog_8_method_32_code 114 = .ok (.ireturn, 1) := by decide +kernel
theorem d_Mod_about_115 : decode prog_8_method_32_code 115 = .ok (.aload_n 0, 1) := by decide +kernel
theorem d_Mod_about_116 : decode prog_8_method_32_code 116 = .ok (.iconst 0, 1) := by decide +kernel
theorem d_Mod_about_117 : decode prog_8_method_32_code 117 = .ok (.invokevirtual 146, 3) := by decide +kernel
theorem d_Mod_about_120 : decode prog_8_method_32_code 120 = .ok (.ireturn, 1) := by decide +kernel
theorem d_Mod_about_121 : decode prog_8_method_32_code 121 = .ok (.aload_n 0, 1) := by decide +kernel
theorem d_Mod_about_122 : decode prog_8_method_32_code 122 = .ok (.bipush 6, 2) := by decide +kernel
theorem d_Mod_about_124 : decode prog_8_method_32_code 124 = .ok (.invokevirtual 146, 3) := by decide +kernel
theorem d_Mod_about_127 : decode prog_8_method_32_code 127 = .ok (.ireturn, 1) := by decide +kernel
theorem d_Mod_about_128 : decode prog_8_method_32_code 128 = .ok (.aload_n 0, 1) := by decide +kernel
theorem d_Mod_about_129 : decode prog_8_method_32_code 129 = .ok (.aload_n 0, 1) := by decide +kernel
theorem d_Mod_about_130 : decode prog_8_method_32_code 130 = .ok (.getfield 25, 3) := by decide +kernel
theorem d_Mod_about_133 : decode prog_8_method_32_code 133 = .ok (.invokevirtual 150, 3) := by decide +kernel
theorem d_Mod_about_136 : decode prog_8_method_32_code 136 = .ok (.ireturn, 1) := by decide +kernel
theorem d_Mod_about_137 : decode prog_8_method_32_code 137 = .ok (.aload_n 0, 1) := by decide +kernel
theorem d_Mod_about_138 : decode prog_8_method_32_code 138 = .ok (.aload_n 0, 1) := by decide +kernel
theorem d_Mod_about_139 : decode prog_8_method_32_code 139 = .ok (.getfield 25, 3) := by decide +kernel
theorem d_Mod_about_142 : decode prog_8_method_32_code 142 = .ok (.invokevirtual 153, 3) := by decide +kernel
theorem d_Mod_about_145 : decode prog_8_method_32_code 145 = .ok (.ireturn, 1) := by decide +kernel
theorem d_Mod_about_146 : decode prog_8_method_32_code 146 = .ok (.aload_n 0, 1) := by decide +kernel
theorem d_Mod_about_147 : decode prog_8_method_32_code 147 = .ok (.getfield 103, 3) := by decide +kernel
theorem d_Mod_about_150 : decode prog_8_method_32_code 150 = .ok (.ireturn, 1) := by decide +kernel
theorem d_Mod_about_151 : decode prog_8_method_32_code 151 = .ok (.aload_n 0, 1) := by decide +kernel
theorem d_Mod_about_152 : decode prog_8_method_32_code 152 = .ok (.getfield 156, 3) := by decide +kernel
theorem d_Mod_about_155 : decode prog_8_method_32_code 155 = .ok (.ireturn, 1) := by decide +kernel
theorem d_Mod_about_156 : decode prog_8_method_32_code 156 = .ok (.aload_n 0, 1) := by decide +kernel
theorem d_Mod_about_157 : decode prog_8_method_32_code 157 = .ok (.getfield 69, 3) := by decide +kernel
theorem d_Mod_about_160 : decode prog_8_method_32_code 160 = .ok (.ireturn, 1) := by decide +kernel
theorem d_Mod_about_161 : decode prog_8_method_32_code 161 = .ok (.bipush (-2), 2) := by decide +kernel
theorem d_Mod_about_163 : decode prog_8_method_32_code 163 = .ok (.ireturn, 1) := by decide +kernel
theorem d_Mod_pan_0 : decode prog_8_method_33_code 0 = .ok (.aload_n 0, 1) := by decide +kernel
theorem d_Mod_pan_1 : decode prog_8_method_33_code 1 = .ok (.iconst 0, 1) := by decide +kernel
theorem d_Mod_pan_2 : decode prog_8_method_33_code 2 = .ok (.putfield 56, 3) := by decide +kernel
theorem d_Mod_pan_5 : decode prog_8_method_33_code 5 = .ok (.aload_n 0, 1) := by decide +kernel
theorem d_Mod_pan_6 : decode prog_8_method_33_code 6 = .ok (.iload_n 1, 1) := by decide +kernel
theorem d_Mod_pan_7 : decode prog_8_method_33_code 7 = .ok (.invokevirtual 159, 3) := by decide +kernel
theorem d_Mod_pan_10 : decode prog_8_method_33_code 10 = .ok (.ifCond .eq 5, 3) := by decide +kernel
theorem d_Mod_pan_13 : decode prog_8_method_33_code 13 = .ok (.iconst (-1), 1) := by decide +kernel
theorem d_Mod_pan_14 : decode prog_8_method_33_code 14 = .ok (.ireturn, 1) := by decide +kernel
theorem d_Mod_pan_15 : decode prog_8_method_33_code 15 = .ok (.iload_n 2, 1) := by decide +kernel
theorem d_Mod_pan_16 : decode prog_8_method_33_code 16 = .ok (.tableswitch 92 0 5 #[40, 47, 54, 64, 73, 82], 40) := by decide +kernel
theorem d_Mod_pan_56 : decode prog_8_method_33_code 56 = .ok (.aload_n 0, 1) := by decide +kernel
theorem d_Mod_pan_57 : decode prog_8_method_33_code 57 = .ok (.getfield 13, 3) := by decide +kernel
theorem d_Mod_pan_60 : decode prog_8_method_33_code 60 = .ok (.iload_n 1, 1) := by decide +kernel
theorem d_Mod_pan_61 : decode prog_8_method_33_code 61 = .ok (.iaload, 1) := by decide +kernel
theorem d_Mod_pan_62 : decode prog_8_method_33_code 62 = .ok (.ireturn, 1) := by decide +kernel
theorem d_Mod_pan_63 : decode prog_8_method_33_code 63 = .ok (.aload_n 0, 1) := by decide +kernel
theorem d_Mod_pan_64 : decode prog_8_method_33_code 64 = .ok (.getfield 25, 3) := by decide +kernel
theorem d_Mod_pan_67 : decode prog_8_method_33_code 67 = .ok (.iload_n 1, 1) := by decide +kernel
theorem d_Mod_pan_68 : decode prog_8_method_33_code 68 = .ok (.iaload, 1) := by decide +kernel
theorem d_Mod_pan_69 : decode prog_8_method_33_code 69 = .ok (.ireturn, 1) := by decide +kernel
theorem d_Mod_pan_70 : decode prog_8_method_33_code 70 = .ok (.aload_n 0, 1) := by decide +kernel
theorem d_Mod_pan_71 : decode prog_8_method_33_code 71 = .ok (.getfield 25, 3) := by decide +kernel
theorem d_Mod_pan_74 : decode prog_8_method_33_code 74 = .ok (.bipush 6, 2) := by decide +kernel
theorem d_Mod_pan_76 : decode prog_8_method_33_code 76 = .ok (.iload_n 1, 1) := by decide +kernel
theorem d_Mod_pan_77 : decode prog_8_method_33_code 77 = .ok (.iadd, 1) := by decide +kernel
theorem d_Mod_pan_78 : decode prog_8_method_33_code 78 = .ok (.iaload, 1) := by decide +kernel
theorem d_Mod_pan_79 : decode prog_8_method_33_code 79 = .ok (.ireturn, 1) := by decide +kernel
theorem d_Mod_pan_80 : decode prog_8_method_33_code 80 = .ok (.aload_n 0, 1) := by decide +kernel
theorem d_Mod_pan_81 : decode prog_8_method_33_code 81 = .ok (.getfield 25, 3) := by decide +kernel
theorem d_Mod_pan_84 : decode prog_8_method_33_code 84 = .ok (.iload_n 1, 1) := by decide +kernel
theorem d_Mod_pan_85 : decode prog_8_method_33_code 85 = .ok (.invokestatic 106, 3) := by decide +kernel
theorem d_Mod_pan_88 : decode prog_8_method_33_code 88 = .ok (.ireturn, 1) := by decide +kernel
theorem d_Mod_pan_89 : decode prog_8_method_33_code 89 = .ok (.aload_n 0, 1) := by decide +kernel
theorem d_Mod_pan_90 : decode prog_8_method_33_code 90 = .ok (.getfield 25, 3) := by decide +kernel
theorem d_Mod_pan_93 : decode prog_8_method_33_code 93 = .ok (.iload_n 1, 1) := by decide +kernel
theorem d_Mod_pan_94 : decode prog_8_method_33_code 94 = .ok (.invokestatic 110, 3) := by decide +kernel
theorem d_Mod_pan_97 : decode prog_8_method_33_code 97 = .ok (.ireturn, 1) := by decide +kernel
theorem d_Mod_pan_98 : decode prog_8_method_33_code 98 = .ok (.aload_n 0, 1) := by decide +kernel
theorem d_Mod_pan_99 : decode prog_8_method_33_code 99 = .ok (.aload_n 0, 1) := by decide +kernel
theorem d_Mod_pan_100 : decode prog_8_method_33_code 100 = .ok (.getfield 25, 3) := by decide +kernel
theorem d_Mod_pan_103 : decode prog_8_method_33_code 103 = .ok (.iload_n 1, 1) := by decide +kernel
theorem d_Mod_pan_104 : decode prog_8_method_33_code 104 = .ok (.invokevirtual 121, 3) := by decide +kernel
theorem d_Mod_pan_107 : decode prog_8_method_33_code 107 = .ok (.ireturn, 1) := by decide +kernel
theorem d_Mod_pan_108 : decode prog_8_method_33_code 108 = .ok (.bipush (-2), 2) := by decide +kernel
theorem d_Mod_pan_110 : decode prog_8_method_33_code 110 = .ok (.ireturn, 1) := by decide +kernel
theorem d_Mod_note_0 : decode prog_8_method_34_code 0 = .ok (.aload_n 0, 1) := by decide +kernel
theorem d_Mod_note_1 : decode prog_8_method_34_code 1 = .ok (.getfield 103, 3) := by decide +kernel
theorem d_Mod_note_4 : decode prog_8_method_34_code 4 = .ok (.bipush 14, 2) := by decide +kernel
theorem d_Mod_note_6 : decode prog_8_method_34_code 6 = .ok (.if_icmp .ne 43, 3) := by decide +kernel
theorem d_Mod_note_9 : decode prog_8_method_34_code 9 = .ok (.iconst 0, 1) := by decide +kernel
theorem d_Mod_note_10 : decode prog_8_method_34_code 10 = .ok (.istore_n 1, 1) := by decide +kernel
theorem d_Mod_note_11 : decode prog_8_method_34_code 11 = .ok (.iload_n 1, 1) := by decide +kernel
theorem d_Mod_note_12 : decode prog_8_method_34_code 12 = .ok (.sipush 195, 3) := by decide +kernel
theorem d_Mod_note_15 : decode prog_8_method_34_code 15 = .ok (.if_icmp .ge 24, 3) := by decide +kernel
theorem d_Mod_note_18 : decode prog_8_method_34_code 18 = .ok (.aload_n 0, 1) := by decide +kernel
theorem d_Mod_note_19 : decode prog_8_method_34_code 19 = .ok (.getfield 31, 3) := by decide +kernel
theorem d_Mod_note_22 : decode prog_8_method_34_code 22 = .ok (.iload_n 1, 1) := by decide +kernel
theorem d_Mod_note_23 : decode prog_8_method_34_code 23 = .ok (.aload_n 0, 1) := by decide +kernel
theorem d_Mod_note_24 : decode prog_8_method_34_code 24 = .ok (.getfield 31, 3) := by decide +kernel
theorem d_Mod_note_27 : decode prog_8_method_34_code 27 = .ok (.iload_n 1, 1) := by decide +kernel
theorem d_Mod_note_28 : decode prog_8_method_34_code 28 = .ok (.bipush 15, 2) := by decide +kernel
theorem d_Mod_note_30 : decode prog_8_method_34_code 30 = .ok (.iadd, 1) := by decide +kernel
theorem d_Mod_note_31 : decode prog_8_method_34_code 31 = .ok (.iaload, 1) := by decide +kernel
theorem d_Mod_note_32 : decode prog_8_method_34_code 32 = .ok (.iastore, 1) := by decide +kernel
theorem d_Mod_note_33 : decode prog_8_method_34_code 33 = .ok (.iinc 1 1, 3) := by decide +kernel
theorem d_Mod_note_36 : decode prog_8_method_34_code 36 = .ok (.goto (-25), 3) := by decide +kernel
theorem d_Mod_note_39 : decode prog_8_method_34_code 39 = .ok (.aload_n 0, 1) := by decide +kernel
theorem d_Mod_note_40 : decode prog_8_method_34_code 40 = .ok (.dup, 1) := by decide +kernel
theorem d_Mod_note_41 : decode prog_8_method_34_code 41 = .ok (.getfield 103, 3) := by decide +kernel
theorem d_Mod_note_44 : decode prog_8_method_34_code 44 = .ok (.iconst 1, 1) := by decide +kernel
theorem d_Mod_note_45 : decode prog_8_method_34_code 45 = .ok (.isub, 1) := by decide +kernel
theorem d_Mod_note_46 : decode prog_8_method_34_code 46 = .ok (.putfield 103, 3) := by decide +kernel
theorem d_Mod_note_49 : decode prog_8_method_34_code 49 = .ok (.iconst 0, 1) := by decide +kernel
theorem d_Mod_note_50 : decode prog_8_method_34_code 50 = .ok (.istore_n 1, 1) := by decide +kernel
theorem d_Mod_note_51 : decode prog_8_method_34_code 51 = .ok (.iload_n 1, 1) := by decide +kernel
theorem d_Mod_note_52 : decode prog_8_method_34_code 52 = .ok (.bipush 15, 2) := by decide +kernel
theorem d_Mod_note_54 : decode prog_8_method_34_code 54 = .ok (.if_icmp .ge 29, 3) := by decide +kernel
theorem d_Mod_note_57 : decode prog_8_method_34_code 57 = .ok (.aload_n 0, 1) := by decide +kernel
theorem d_Mod_note_58 : decode prog_8_method_34_code 58 = .ok (.getfield 31, 3) := by decide +kernel
theorem d_Mod_note_61 : decode prog_8_method_34_code 61 = .ok (.bipush 15, 2) := by decide +kernel
theorem d_Mod_note_63 : decode prog_8_method_34_code 63 = .ok (.aload_n 0, 1) := by decide +kernel
theorem d_Mod_note_64 : decode prog_8_method_34_code 64 = .ok (.getfield 103, 3) := by decide +kernel
theorem d_Mod_note_67 : decode prog_8_method_34_code 67 = .ok (.imul, 1) := by decide +kernel
theorem d_Mod_note_68 : decode prog_8_method_34_code 68 = .ok (.iload_n 1, 1) := by decide +kernel
theorem d_Mod_note_69 : decode prog_8_method_34_code 69 = .ok (.iadd, 1) := by decide +kernel
theorem d_Mod_note_70 : decode prog_8_method_34_code 70 = .ok (.aload_n 0, 1) := by decide +kernel
theorem d_Mod_note_71 : decode prog_8_method_34_code 71 = .ok (.getfield 25, 3) := by decide +kernel
theorem d_Mod_note_74 : decode prog_8_method_34_code 74 = .ok (.iload_n 1, 1) := by decide +kernel
theorem d_Mod_note_75 : decode prog_8_method_34_code 75 = .ok (.iaload, 1) := by decide +kernel
theorem d_Mod_note_76 : decode prog_8_method_34_code 76 = .ok (.iastore, 1) := by decide +kernel
theorem d_Mod_note_77 : decode prog_8_method_34_code 77 = .ok (.iinc 1 1, 3) := by decide +kernel
theorem d_Mod_note_80 : decode prog_8_method_34_code 80 = .ok (.goto (-29), 3) := by decide +kernel
theorem d_Mod_note_83 : decode prog_8_method_34_code 83 = .ok (.aload_n 0, 1) := by decide +kernel
theorem d_Mod_note_84 : decode prog_8_method_34_code 84 = .ok (.dup, 1) := by decide +kernel
theorem d_Mod_note_85 : decode prog_8_method_34_code 85 = .ok (.getfield 103, 3) := by decide +kernel
theorem d_Mod_note_88 : decode prog_8_method_34_code 88 = .ok (.iconst 1, 1) := by decide +kernel
theorem d_Mod_note_89 : decode prog_8_method_34_code 89 = .ok (.iadd, 1) := by decide +kernel
theorem d_Mod_note_90 : decode prog_8_method_34_code 90 = .ok (.putfield 103, 3) := by decide +kernel
theorem d_Mod_note_93 : decode prog_8_method_34_code 93 = .ok (.return_, 1) := by decide +kernel
theorem d_Mod_day_0 : decode prog_8_method_35_code 0 = .ok (.aload_n 0, 1) := by decide +kernel
theorem d_Mod_day_1 : decode prog_8_method_35_code 1 = .ok (.iconst 0, 1) := by decide +kernel
theorem d_Mod_day_2 : decode prog_8_method_35_code 2 = .ok (.putfield 56, 3) := by decide +kernel
theorem d_Mod_day_5 : decode prog_8_method_35_code 5 = .ok (.aload_n 0, 1) := by decide +kernel
theorem d_Mod_day_6 : decode prog_8_method_35_code 6 = .ok (.invokevirtual 163, 3) := by decide +kernel
theorem d_Mod_day_9 : decode prog_8_method_35_code 9 = .ok (.aload_n 0, 1) := by decide +kernel
theorem d_Mod_day_10 : decode prog_8_method_35_code 10 = .ok (.aload_n 0, 1) := by decide +kernel
theorem d_Mod_day_11 : decode prog_8_method_35_code 11 = .ok (.getfield 25, 3) := by decide +kernel
theorem d_Mod_day_14 : decode prog_8_method_35_code 14 = .ok (.iconst 1, 1) := by decide +kernel
theorem d_Mod_day_15 : decode prog_8_method_35_code 15 = .ok (.invokevirtual 138, 3) := by decide +kernel
theorem d_Mod_day_18 : decode prog_8_method_35_code 18 = .ok (.aload_n 0, 1) := by decide +kernel
theorem d_Mod_day_19 : decode prog_8_method_35_code 19 = .ok (.aload_n 0, 1) := by decide +kernel
theorem d_Mod_day_20 : decode prog_8_method_35_code 20 = .ok (.getfield 25, 3) := by decide +kernel
theorem d_Mod_day_23 : decode prog_8_method_35_code 23 = .ok (.invokevirtual 150, 3) := by decide +kernel
theorem d_Mod_day_26 : decode prog_8_method_35_code 26 = .ok (.ireturn, 1) := by decide +kernel
theorem d_Mod_goSea_0 : decode prog_8_method_36_code 0 = .ok (.aload_n 0, 1) := by decide +kernel
theorem d_Mod_goSea_1 : decode prog_8_method_36_code 1 = .ok (.iconst 0, 1) := by decide +kernel
theorem d_Mod_goSea_2 : decode prog_8_method_36_code 2 = .ok (.dup2, 1) := by decide +kernel
theorem d_Mod_goSea_3 : decode prog_8_method_36_code 3 = .ok (.iaload, 1) := by decide +kernel
theorem d_Mod_goSea_4 : decode prog_8_method_36_code 4 = .ok (.iload_n 1, 1) := by decide +kernel
theorem d_Mod_goSea_5 : decode prog_8_method_36_code 5 = .ok (.iadd, 1) := by decide +kernel
theorem d_Mod_goSea_6 : decode prog_8_method_36_code 6 = .ok (.iastore, 1) := by decide +kernel
theorem d_Mod_goSea_7 : decode prog_8_method_36_code 7 = .ok (.aload_n 0, 1) := by decide +kernel
theorem d_Mod_goSea_8 : decode prog_8_method_36_code 8 = .ok (.iconst 0, 1) := by decide +kernel
theorem d_Mod_goSea_9 : decode prog_8_method_36_code 9 = .ok (.iconst 2, 1) := by decide +kernel
theorem d_Mod_goSea_10 : decode prog_8_method_36_code 10 = .ok (.iload_n 1, 1) := by decide +kernel
theorem d_Mod_goSea_11 : decode prog_8_method_36_code 11 = .ok (.imul, 1) := by decide +kernel
theorem d_Mod_goSea_12 : decode prog_8_method_36_code 12 = .ok (.invokestatic 117, 3) := by decide +kernel
theorem d_Mod_goSea_15 : decode prog_8_method_36_code 15 = .ok (.return_, 1) := by decide +kernel
theorem d_Mod_sea_0 : decode prog_8_method_37_code 0 = .ok (.aload_n 0, 1) := by decide +kernel
theorem d_Mod_sea_1 : decode prog_8_method_37_code 1 = .ok (.iconst 0, 1) := by decide +kernel
theorem d_Mod_sea_2 : decode prog_8_method_37_code 2 = .ok (.putfield 56, 3) := by decide +kernel
theorem d_Mod_sea_5 : decode prog_8_method_37_code 5 = .ok (.aload_n 0, 1) := by decide +kernel
theorem d_Mod_sea_6 : decode prog_8_method_37_code 6 = .ok (.getfield 60, 3) := by decide +kernel
theorem d_Mod_sea_9 : decode prog_8_method_37_code 9 = .ok (.ifCond .ne 5, 3) := by decide +kernel
theorem d_Mod_sea_12 : decode prog_8_method_37_code 12 = .ok (.iconst (-1), 1) := by decide +kernel
theorem d_Mod_sea_13 : decode prog_8_method_37_code 13 = .ok (.ireturn, 1) := by decide +kernel
theorem d_Mod_sea_14 : decode prog_8_method_37_code 14 = .ok (.iload_n 1, 1) := by decide +kernel
theorem d_Mod_sea_15 : decode prog_8_method_37_code 15 = .ok (.i2l, 1) := by decide +kernel
theorem d_Mod_sea_16 : decode prog_8_method_37_code 16 = .ok (.lconst 1, 1) := by decide +kernel
theorem d_Mod_sea_17 : decode prog_8_method_37_code 17 = .ok (.ldc2_w 166, 3) := by decide +kernel
theorem d_Mod_sea_20 : decode prog_8_method_37_code 20 = .ok (.invokestatic 63, 3) := by decide +kernel
theorem d_Mod_sea_23 : decode prog_8_method_37_code 23 = .ok (.ifCond .ne 6, 3) := by decide +kernel
theorem d_Mod_sea_26 : decode prog_8_method_37_code 26 = .ok (.bipush (-2), 2) := by decide +kernel
theorem d_Mod_sea_28 : decode prog_8_method_37_code 28 = .ok (.ireturn, 1) := by decide +kernel
theorem d_Mod_sea_29 : decode prog_8_method_37_code 29 = .ok (.aload_n 0, 1) := by decide +kernel
theorem d_Mod_sea_30 : decode prog_8_method_37_code 30 = .ok (.aload_n 0, 1) := by decide +kernel
theorem d_Mod_sea_31 : decode prog_8_method_37_code 31 = .ok (.getfield 25, 3) := by decide +kernel
theorem d_Mod_sea_34 : decode prog_8_method_37_code 34 = .ok (.iconst 0, 1) := by decide +kernel
theorem d_Mod_sea_35 : decode prog_8_method_37_code 35 = .ok (.invokevirtual 121, 3) := by decide +kernel
theorem d_Mod_sea_38 : decode prog_8_method_37_code 38 = .ok (.iload_n 1, 1) := by decide +kernel
theorem d_Mod_sea_39 : decode prog_8_method_37_code 39 = .ok (.if_icmp .ge 6, 3) := by decide +kernel
theorem d_Mod_sea_42 : decode prog_8_method_37_code 42 = .ok (.bipush (-4), 2) := by decide +kernel
theorem d_Mod_sea_44 : decode prog_8_method_37_code 44 = .ok (.ireturn, 1) := by decide +kernel
theorem d_Mod_sea_45 : decode prog_8_method_37_code 45 = .ok (.aload_n 0, 1) := by decide +kernel
theorem d_Mod_sea_46 : decode prog_8_method_37_code 46 = .ok (.invokevirtual 163, 3) := by decide +kernel
theorem d_Mod_sea_49 : decode prog_8_method_37_code 49 = .ok (.aload_n 0, 1) := by decide +kernel
theorem d_Mod_sea_50 : decode prog_8_method_37_code 50 = .ok (.getfield 25, 3) := by decide +kernel
theorem d_Mod_sea_53 : decode prog_8_method_37_code 53 = .ok (.iload_n 1, 1) := by decide +kernel
theorem d_Mod_sea_54 : decode prog_8_method_37_code 54 = .ok (.invokestatic 168, 3) := by decide +kernel
theorem d_Mod_sea_57 : decode prog_8_method_37_code 57 = .ok (.aload_n 0, 1) := by decide +kernel
theorem d_Mod_sea_58 : decode prog_8_method_37_code 58 = .ok (.getfield 25, 3) := by decide +kernel
theorem d_Mod_sea_61 : decode prog_8_method_37_code 61 = .ok (.iconst 0, 1) := by decide +kernel
theorem d_Mod_sea_62 : decode prog_8_method_37_code 62 = .ok (.iaload, 1) := by decide +kernel
theorem d_Mod_sea_63 : decode prog_8_method_37_code 63 = .ok (.ireturn, 1) := by decide +kernel
theorem d_Mod_let_0 : decode prog_8_method_38_code 0 = .ok (.aload_n 0, 1) := by decide +kernel
theorem d_Mod_let_1 : decode prog_8_method_38_code 1 = .ok (.iconst 0, 1) := by decide +kernel
theorem d_Mod_let_2 : decode prog_8_method_38_code 2 = .ok (.putfield 56, 3) := by decide +kernel
theorem d_Mod_let_5 : decode prog_8_method_38_code 5 = .ok (.aload_n 0, 1) := by decide +kernel
theorem d_Mod_let_6 : decode prog_8_method_38_code 6 = .ok (.iload_n 1, 1) := by decide +kernel
theorem d_Mod_let_7 : decode prog_8_method_38_code 7 = .ok (.invokevirtual 172, 3) := by decide +kernel
theorem d_Mod_let_10 : decode prog_8_method_38_code 10 = .ok (.ifCond .eq 5, 3) := by decide +kernel
theorem d_Mod_let_13 : decode prog_8_method_38_code 13 = .ok (.iconst (-1), 1) := by decide +kernel
theorem d_Mod_let_14 : decode prog_8_method_38_code 14 = .ok (.ireturn, 1) := by decide +kernel
theorem d_Mod_let_15 : decode prog_8_method_38_code 15 = .ok (.iload_n 2, 1) := by decide +kernel
theorem d_Mod_let_16 : decode prog_8_method_38_code 16 = .ok (.i2l, 1) := by decide +kernel
theorem d_Mod_let_17 : decode prog_8_method_38_code 17 = .ok (.lconst 1, 1) := by decide +kernel
theorem d_Mod_let_18 : decode prog_8_method_38_code 18 = .ok (.ldc2_w 166, 3) := by decide +kernel
theorem d_Mod_let_21 : decode prog_8_method_38_code 21 = .ok (.invokestatic 63, 3) := by decide +kernel
theorem d_Mod_let_24 : decode prog_8_method_38_code 24 = .ok (.ifCond .ne 6, 3) := by decide +kernel
theorem d_Mod_let_27 : decode prog_8_method_38_code 27 = .ok (.bipush (-2), 2) := by decide +kernel
theorem d_Mod_let_29 : decode prog_8_method_38_code 29 = .ok (.ireturn, 1) := by decide +kernel
theorem d_Mod_let_30 : decode prog_8_method_38_code 30 = .ok (.aload_n 0, 1) := by decide +kernel
theorem d_Mod_let_31 : decode prog_8_method_38_code 31 = .ok (.getfield 25, 3) := by decide +kernel
theorem d_Mod_let_34 : decode prog_8_method_38_code 34 = .ok (.iload_n 1, 1) := by decide +kernel
theorem d_Mod_let_35 : decode prog_8_method_38_code 35 = .ok (.iaload, 1) := by decide +kernel
theorem d_Mod_let_36 : decode prog_8_method_38_code 36 = .ok (.iload_n 2, 1) := by decide +kernel
theorem d_Mod_let_37 : decode prog_8_method_38_code 37 = .ok (.if_icmp .ge 6, 3) := by decide +kernel
theorem d_Mod_let_40 : decode prog_8_method_38_code 40 = .ok (.bipush (-3), 2) := by decide +kernel
theorem d_Mod_let_42 : decode prog_8_method_38_code 42 = .ok (.ireturn, 1) := by decide +kernel
theorem d_Mod_let_43 : decode prog_8_method_38_code 43 = .ok (.aload_n 0, 1) := by decide +kernel
theorem d_Mod_let_44 : decode prog_8_method_38_code 44 = .ok (.aload_n 0, 1) := by decide +kernel
theorem d_Mod_let_45 : decode prog_8_method_38_code 45 = .ok (.getfield 25, 3) := by decide +kernel
theorem d_Mod_let_48 : decode prog_8_method_38_code 48 = .ok (.iload_n 1, 1) := by decide +kernel
theorem d_Mod_let_49 : decode prog_8_method_38_code 49 = .ok (.iconst 1, 1) := by decide +kernel
theorem d_Mod_let_50 : decode prog_8_method_38_code 50 = .ok (.iadd, 1) := by decide +kernel
theorem d_Mod_let_51 : decode prog_8_method_38_code 51 = .ok (.invokevirtual 121, 3) := by decide +kernel
theorem d_Mod_let_54 : decode prog_8_method_38_code 54 = .ok (.iload_n 2, 1) := by decide +kernel
theorem d_Mod_let_55 : decode prog_8_method_38_code 55 = .ok (.if_icmp .ge 6, 3) := by decide +kernel
theorem d_Mod_let_58 : decode prog_8_method_38_code 58 = .ok (.bipush (-4), 2) := by decide +kernel
theorem d_Mod_let_60 : decode prog_8_method_38_code 60 = .ok (.ireturn, 1) := by decide +kernel
theorem d_Mod_let_61 : decode prog_8_method_38_code 61 = .ok (.aload_n 0, 1) := by decide +kernel
theorem d_Mod_let_62 : decode prog_8_method_38_code 62 = .ok (.invokevirtual 163, 3) := by decide +kernel
theorem d_Mod_let_65 : decode prog_8_method_38_code 65 = .ok (.aload_n 0, 1) := by decide +kernel
theorem d_Mod_let_66 : decode prog_8_method_38_code 66 = .ok (.getfield 25, 3) := by decide +kernel
theorem d_Mod_let_69 : decode prog_8_method_38_code 69 = .ok (.iload_n 1, 1) := by decide +kernel
theorem d_Mod_let_70 : decode prog_8_method_38_code 70 = .ok (.iload_n 2, 1) := by decide +kernel
theorem d_Mod_let_71 : decode prog_8_method_38_code 71 = .ok (.invokestatic 128, 3) := by decide +kernel
theorem d_Mod_let_74 : decode prog_8_method_38_code 74 = .ok (.ireturn, 1) := by decide +kernel
theorem d_Mod_turn_0 : decode prog_8_method_39_code 0 = .ok (.aload_n 0, 1) := by decide +kernel
theorem d_Mod_turn_1 : decode prog_8_method_39_code 1 = .ok (.iconst 0, 1) := by decide +kernel
theorem d_Mod_turn_2 : decode prog_8_method_39_code 2 = .ok (.putfield 56, 3) := by decide +kernel
theorem d_Mod_turn_5 : decode prog_8_method_39_code 5 = .ok (.aload_n 0, 1) := by decide +kernel
theorem d_Mod_turn_6 : decode prog_8_method_39_code 6 = .ok (.iload_n 1, 1) := by decide +kernel
theorem d_Mod_turn_7 : decode prog_8_method_39_code 7 = .ok (.invokevirtual 172, 3) := by decide +kernel
theorem d_Mod_turn_10 : decode prog_8_method_39_code 10 = .ok (.ifCond .eq 5, 3) := by decide +kernel
theorem d_Mod_turn_13 : decode prog_8_method_39_code 13 = .ok (.iconst (-1), 1) := by decide +kernel
theorem d_Mod_turn_14 : decode prog_8_method_39_code 14 = .ok (.ireturn, 1) := by decide +kernel
theorem d_Mod_turn_15 : decode prog_8_method_39_code 15 = .ok (.aload_n 0, 1) := by decide +kernel
theorem d_Mod_turn_16 : decode prog_8_method_39_code 16 = .ok (.invokevirtual 163, 3) := by decide +kernel
theorem d_Mod_turn_19 : decode prog_8_method_39_code 19 = .ok (.aload_n 0, 1) := by decide +kernel
theorem d_Mod_turn_20 : decode prog_8_method_39_code 20 = .ok (.getfield 25, 3) := by decide +kernel
theorem d_Mod_turn_23 : decode prog_8_method_39_code 23 = .ok (.bipush 12, 2) := by decide +kernel
theorem d_Mod_turn_25 : decode prog_8_method_39_code 25 = .ok (.dup2, 1) := by decide +kernel
theorem d_Mod_turn_26 : decode prog_8_method_39_code 26 = .ok (.iaload, 1) := by decide +kernel
theorem d_Mod_turn_27 : decode prog_8_method_39_code 27 = .ok (.iconst 1, 1) := by decide +kernel
theorem d_Mod_turn_28 : decode prog_8_method_39_code 28 = .ok (.iload_n 1, 1) := by decide +kernel
theorem d_Mod_turn_29 : decode prog_8_method_39_code 29 = .ok (.ishl, 1) := by decide +kernel
theorem d_Mod_turn_30 : decode prog_8_method_39_code 30 = .ok (.ixor, 1) := by decide +kernel
theorem d_Mod_turn_31 : decode prog_8_method_39_code 31 = .ok (.iastore, 1) := by decide +kernel
theorem d_Mod_turn_32 : decode prog_8_method_39_code 32 = .ok (.aload_n 0, 1) := by decide +kernel
theorem d_Mod_turn_33 : decode prog_8_method_39_code 33 = .ok (.getfield 25, 3) := by decide +kernel
theorem d_Mod_turn_36 : decode prog_8_method_39_code 36 = .ok (.bipush 12, 2) := by decide +kernel
theorem d_Mod_turn_38 : decode prog_8_method_39_code 38 = .ok (.iaload, 1) := by decide +kernel
theorem d_Mod_turn_39 : decode prog_8_method_39_code 39 = .ok (.iload_n 1, 1) := by decide +kernel
theorem d_Mod_turn_40 : decode prog_8_method_39_code 40 = .ok (.ishr, 1) := by decide +kernel
theorem d_Mod_turn_41 : decode prog_8_method_39_code 41 = .ok (.iconst 1, 1) := by decide +kernel
theorem d_Mod_turn_42 : decode prog_8_method_39_code 42 = .ok (.iand, 1) := by decide +kernel
theorem d_Mod_turn_43 : decode prog_8_method_39_code 43 = .ok (.ireturn, 1) := by decide +kernel
theorem d_Mod_goRake_0 : decode prog_8_method_40_code 0 = .ok (.aload_n 0, 1) := by decide +kernel
theorem d_Mod_goRake_1 : decode prog_8_method_40_code 1 = .ok (.iload_n 1, 1) := by decide +kernel
theorem d_Mod_goRake_2 : decode prog_8_method_40_code 2 = .ok (.invokestatic 110, 3) := by decide +kernel
theorem d_Mod_goRake_5 : decode prog_8_method_40_code 5 = .ok (.istore_n 2, 1) := by decide +kernel
theorem d_Mod_goRake_6 : decode prog_8_method_40_code 6 = .ok (.aload_n 0, 1) := by decide +kernel
theorem d_Mod_goRake_7 : decode prog_8_method_40_code 7 = .ok (.bipush 6, 2) := by decide +kernel
theorem d_Mod_goRake_9 : decode prog_8_method_40_code 9 = .ok (.iload_n 1, 1) := by decide +kernel
theorem d_Mod_goRake_10 : decode prog_8_method_40_code 10 = .ok (.iadd, 1) := by decide +kernel
theorem d_Mod_goRake_11 : decode prog_8_method_40_code 11 = .ok (.dup2, 1) := by decide +kernel
theorem d_Mod_goRake_12 : decode prog_8_method_40_code 12 = .ok (.iaload, 1) := by decide +kernel
theorem d_Mod_goRake_13 : decode prog_8_method_40_code 13 = .ok (.iload_n 2, 1) := by decide +kernel
theorem d_Mod_goRake_14 : decode prog_8_method_40_code 14 = .ok (.isub, 1) := by decide +kernel
theorem d_Mod_goRake_15 : decode prog_8_method_40_code 15 = .ok (.iastore, 1) := by decide +kernel
theorem d_Mod_goRake_16 : decode prog_8_method_40_code 16 = .ok (.aload_n 0, 1) := by decide +kernel
theorem d_Mod_goRake_17 : decode prog_8_method_40_code 17 = .ok (.bipush 13, 2) := by decide +kernel
theorem d_Mod_goRake_19 : decode prog_8_method_40_code 19 = .ok (.aload_n 0, 1) := by decide +kernel
theorem d_Mod_goRake_20 : decode prog_8_method_40_code 20 = .ok (.bipush 13, 2) := by decide +kernel
theorem d_Mod_goRake_22 : decode prog_8_method_40_code 22 = .ok (.iaload, 1) := by decide +kernel
theorem d_Mod_goRake_23 : decode prog_8_method_40_code 23 = .ok (.iload_n 2, 1) := by decide +kernel
theorem d_Mod_goRake_24 : decode prog_8_method_40_code 24 = .ok (.iadd, 1) := by decide +kernel
theorem d_Mod_goRake_25 : decode prog_8_method_40_code 25 = .ok (.sipush 9999, 3) := by decide +kernel
theorem d_Mod_goRake_28 : decode prog_8_method_40_code 28 = .ok (.if_icmp .le 9, 3) := by decide +kernel
theorem d_Mod_goRake_31 : decode prog_8_method_40_code 31 = .ok (.sipush 9999, 3) := by decide +kernel
theorem d_Mod_goRake_34 : decode prog_8_method_40_code 34 = .ok (.goto 9, 3) := by decide +kernel
theorem d_Mod_goRake_37 : decode prog_8_method_40_code 37 = .ok (.aload_n 0, 1) := by decide +kernel
theorem d_Mod_goRake_38 : decode prog_8_method_40_code 38 = .ok (.bipush 13, 2) := by decide +kernel
theorem d_Mod_goRake_40 : decode prog_8_method_40_code 40 = .ok (.iaload, 1) := by decide +kernel
theorem d_Mod_goRake_41 : decode prog_8_method_40_code 41 = .ok (.iload_n 2, 1) := by decide +kernel
theorem d_Mod_goRake_42 : decode prog_8_method_40_code 42 = .ok (.iadd, 1) := by decide +kernel
theorem d_Mod_goRake_43 : decode prog_8_method_40_code 43 = .ok (.iastore, 1) := by decide +kernel
theorem d_Mod_goRake_44 : decode prog_8_method_40_code 44 = .ok (.iload_n 2, 1) := by decide +kernel
theorem d_Mod_goRake_45 : decode prog_8_method_40_code 45 = .ok (.ireturn, 1) := by decide +kernel
theorem d_Mod_rake_0 : decode prog_8_method_41_code 0 = .ok (.aload_n 0, 1) := by decide +kernel
theorem d_Mod_rake_1 : decode prog_8_method_41_code 1 = .ok (.iconst 0, 1) := by decide +kernel
theorem d_Mod_rake_2 : decode prog_8_method_41_code 2 = .ok (.putfield 56, 3) := by decide +kernel
theorem d_Mod_rake_5 : decode prog_8_method_41_code 5 = .ok (.aload_n 0, 1) := by decide +kernel
theorem d_Mod_rake_6 : decode prog_8_method_41_code 6 = .ok (.iload_n 1, 1) := by decide +kernel
theorem d_Mod_rake_7 : decode prog_8_method_41_code 7 = .ok (.invokevirtual 159, 3) := by decide +kernel
theorem d_Mod_rake_10 : decode prog_8_method_41_code 10 = .ok (.ifCond .eq 5, 3) := by decide +kernel
theorem d_Mod_rake_13 : decode prog_8_method_41_code 13 = .ok (.iconst (-1), 1) := by decide +kernel
theorem d_Mod_rake_14 : decode prog_8_method_41_code 14 = .ok (.ireturn, 1) := by decide +kernel
theorem d_Mod_rake_15 : decode prog_8_method_41_code 15 = .ok (.aload_n 0, 1) := by decide +kernel
theorem d_Mod_rake_16 : decode prog_8_method_41_code 16 = .ok (.getfield 25, 3) := by decide +kernel
theorem d_Mod_rake_19 : decode prog_8_method_41_code 19 = .ok (.iload_n 1, 1) := by decide +kernel
theorem d_Mod_rake_20 : decode prog_8_method_41_code 20 = .ok (.invokestatic 142, 3) := by decide +kernel
theorem d_Mod_rake_23 : decode prog_8_method_41_code 23 = .ok (.ifCond .ne 6, 3) := by decide +kernel
theorem d_Mod_rake_26 : decode prog_8_method_41_code 26 = .ok (.bipush (-3), 2) := by decide +kernel
theorem d_Mod_rake_28 : decode prog_8_method_41_code 28 = .ok (.ireturn, 1) := by decide +kernel
theorem d_Mod_rake_29 : decode prog_8_method_41_code 29 = .ok (.aload_n 0, 1) := by decide +kernel
theorem d_Mod_rake_30 : decode prog_8_method_41_code 30 = .ok (.invokevirtual 163, 3) := by decide +kernel
theorem d_Mod_rake_33 : decode prog_8_method_41_code 33 = .ok (.aload_n 0, 1) := by decide +kernel
theorem d_Mod_rake_34 : decode prog_8_method_41_code 34 = .ok (.getfield 25, 3) := by decide +kernel
theorem d_Mod_rake_37 : decode prog_8_method_41_code 37 = .ok (.iload_n 1, 1) := by decide +kernel
theorem d_Mod_rake_38 : decode prog_8_method_41_code 38 = .ok (.invokestatic 175, 3) := by decide +kernel
theorem d_Mod_rake_41 : decode prog_8_method_41_code 41 = .ok (.ireturn, 1) := by decide +kernel
theorem d_Mod_undo_0 : decode prog_8_method_42_code 0 = .ok (.aload_n 0, 1) := by decide +kernel
theorem d_Mod_undo_1 : decode prog_8_method_42_code 1 = .ok (.iconst 0, 1) := by decide +kernel
theorem d_Mod_undo_2 : decode prog_8_method_42_code 2 = .ok (.putfield 56, 3) := by decide +kernel
theorem d_Mod_undo_5 : decode prog_8_method_42_code 5 = .ok (.aload_n 0, 1) := by decide +kernel
theorem d_Mod_undo_6 : decode prog_8_method_42_code 6 = .ok (.getfield 103, 3) := by decide +kernel
theorem d_Mod_undo_9 : decode prog_8_method_42_code 9 = .ok (.ifCond .ne 6, 3) := by decide +kernel
theorem d_Mod_undo_12 : decode prog_8_method_42_code 12 = .ok (.bipush (-3), 2) := by decide +kernel
theorem d_Mod_undo_14 : decode prog_8_method_42_code 14 = .ok (.ireturn, 1) := by decide +kernel
theorem d_Mod_undo_15 : decode prog_8_method_42_code 15 = .ok (.aload_n 0, 1) := by decide +kernel
theorem d_Mod_undo_16 : decode prog_8_method_42_code 16 = .ok (.dup, 1) := by decide +kernel
theorem d_Mod_undo_17 : decode prog_8_method_42_code 17 = .ok (.getfield 103, 3) := by decide +kernel
theorem d_Mod_undo_20 : decode prog_8_method_42_code 20 = .ok (.iconst 1, 1) := by decide +kernel
theorem d_Mod_undo_21 : decode prog_8_method_42_code 21 = .ok (.isub, 1) := by decide +kernel
theorem d_Mod_undo_22 : decode prog_8_method_42_code 22 = .ok (.putfield 103, 3) := by decide +kernel
theorem d_Mod_undo_25 : decode prog_8_method_42_code 25 = .ok (.iconst 0, 1) := by decide +kernel
theorem d_Mod_undo_26 : decode prog_8_method_42_code 26 = .ok (.istore_n 1, 1) := by decide +kernel
theorem d_Mod_undo_27 : decode prog_8_method_42_code 27 = .ok (.iload_n 1, 1) := by decide +kernel
theorem d_Mod_undo_28 : decode prog_8_method_42_code 28 = .ok (.bipush 15, 2) := by decide +kernel
theorem d_Mod_undo_30 : decode prog_8_method_42_code 30 = .ok (.if_icmp .ge 29, 3) := by decide +kernel
theorem d_Mod_undo_33 : decode prog_8_method_42_code 33 = .ok (.aload_n 0, 1) := by decide +kernel
theorem d_Mod_undo_34 : decode prog_8_method_42_code 34 = .ok (.getfield 25, 3) := by decide +kernel
theorem d_Mod_undo_37 : decode prog_8_method_42_code 37 = .ok (.iload_n 1, 1) := by decide +kernel
theorem d_Mod_undo_38 : decode prog_8_method_42_code 38 = .ok (.aload_n 0, 1) := by decide +kernel
theorem d_Mod_undo_39 : decode prog_8_method_42_code 39 = .ok (.getfield 31, 3) := by decide +kernel
theorem d_Mod_undo_42 : decode prog_8_method_42_code 42 = .ok (.bipush 15, 2) := by decide +kernel
theorem d_Mod_undo_44 : decode prog_8_method_42_code 44 = .ok (.aload_n 0, 1) := by decide +kernel
theorem d_Mod_undo_45 : decode prog_8_method_42_code 45 = .ok (.getfield 103, 3) := by decide +kernel
theorem d_Mod_undo_48 : decode prog_8_method_42_code 48 = .ok (.imul, 1) := by decide +kernel
theorem d_Mod_undo_49 : decode prog_8_method_42_code 49 = .ok (.iload_n 1, 1) := by decide +kernel
theorem d_Mod_undo_50 : decode prog_8_method_42_code 50 = .ok (.iadd, 1) := by decide +kernel
theorem d_Mod_undo_51 : decode prog_8_method_42_code 51 = .ok (.iaload, 1) := by decide +kernel
theorem d_Mod_undo_52 : decode prog_8_method_42_code 52 = .ok (.iastore, 1) := by decide +kernel
theorem d_Mod_undo_53 : decode prog_8_method_42_code 53 = .ok (.iinc 1 1, 3) := by decide +kernel
theorem d_Mod_undo_56 : decode prog_8_method_42_code 56 = .ok (.goto (-29), 3) := by decide +kernel
theorem d_Mod_undo_59 : decode prog_8_method_42_code 59 = .ok (.aload_n 0, 1) := by decide +kernel
theorem d_Mod_undo_60 : decode prog_8_method_42_code 60 = .ok (.getfield 103, 3) := by decide +kernel
theorem d_Mod_undo_63 : decode prog_8_method_42_code 63 = .ok (.ireturn, 1) := by decide +kernel
theorem d_Mod_begin_0 : decode prog_8_method_43_code 0 = .ok (.iconst 0, 1) := by decide +kernel
theorem d_Mod_begin_1 : decode prog_8_method_43_code 1 = .ok (.istore_n 1, 1) := by decide +kernel
theorem d_Mod_begin_2 : decode prog_8_method_43_code 2 = .ok (.iload_n 1, 1) := by decide +kernel
theorem d_Mod_begin_3 : decode prog_8_method_43_code 3 = .ok (.bipush 15, 2) := by decide +kernel
theorem d_Mod_begin_5 : decode prog_8_method_43_code 5 = .ok (.if_icmp .ge 21, 3) := by decide +kernel
theorem d_Mod_begin_8 : decode prog_8_method_43_code 8 = .ok (.aload_n 0, 1) := by decide +kernel
theorem d_Mod_begin_9 : decode prog_8_method_43_code 9 = .ok (.getfield 28, 3) := by decide +kernel
theorem d_Mod_begin_12 : decode prog_8_method_43_code 12 = .ok (.iload_n 1, 1) := by decide +kernel
theorem d_Mod_begin_13 : decode prog_8_method_43_code 13 = .ok (.aload_n 0, 1) := by decide +kernel
theorem d_Mod_begin_14 : decode prog_8_method_43_code 14 = .ok (.getfield 25, 3) := by decide +kernel
theorem d_Mod_begin_17 : decode prog_8_method_43_code 17 = .ok (.iload_n 1, 1) := by decide +kernel
theorem d_Mod_begin_18 : decode prog_8_method_43_code 18 = .ok (.iaload, 1) := by decide +kernel
theorem d_Mod_begin_19 : decode prog_8_method_43_code 19 = .ok (.iastore, 1) := by decide +kernel
theorem d_Mod_begin_20 : decode prog_8_method_43_code 20 = .ok (.iinc 1 1, 3) := by decide +kernel
theorem d_Mod_begin_23 : decode prog_8_method_43_code 23 = .ok (.goto (-21), 3) := by decide +kernel
theorem d_Mod_begin_26 : decode prog_8_method_43_code 26 = .ok (.return_, 1) := by decide +kernel
theorem d_Mod_later_0 : decode prog_8_method_44_code 0 = .ok (.aload_n 0, 1) := by decide +kernel
theorem d_Mod_later_1 : decode prog_8_method_44_code 1 = .ok (.iconst 0, 1) := by decide +kernel
theorem d_Mod_later_2 : decode prog_8_method_44_code 2 = .ok (.putfield 56, 3) := by decide +kernel
theorem d_Mod_later_5 : decode prog_8_method_44_code 5 = .ok (.aload_n 0, 1) := by decide +kernel
theorem d_Mod_later_6 : decode prog_8_method_44_code 6 = .ok (.iload_n 1, 1) := by decide +kernel
theorem d_Mod_later_7 : decode prog_8_method_44_code 7 = .ok (.invokevirtual 159, 3) := by decide +kernel
theorem d_Mod_later_10 : decode prog_8_method_44_code 10 = .ok (.ifCond .eq 5, 3) := by decide +kernel
theorem d_Mod_later_13 : decode prog_8_method_44_code 13 = .ok (.iconst (-1), 1) := by decide +kernel
theorem d_Mod_later_14 : decode prog_8_method_44_code 14 = .ok (.ireturn, 1) := by decide +kernel
theorem d_Mod_later_15 : decode prog_8_method_44_code 15 = .ok (.iload_n 2, 1) := by decide +kernel
theorem d_Mod_later_16 : decode prog_8_method_44_code 16 = .ok (.i2l, 1) := by decide +kernel
theorem d_Mod_later_17 : decode prog_8_method_44_code 17 = .ok (.lconst 0, 1) := by decide +kernel
theorem d_Mod_later_18 : decode prog_8_method_44_code 18 = .ok (.ldc2_w 178, 3) := by decide +kernel
theorem d_Mod_later_21 : decode prog_8_method_44_code 21 = .ok (.invokestatic 63, 3) := by decide +kernel
theorem d_Mod_later_24 : decode prog_8_method_44_code 24 = .ok (.ifCond .eq 15, 3) := by decide +kernel
theorem d_Mod_later_27 : decode prog_8_method_44_code 27 = .ok (.iload_n 3, 1) := by decide +kernel
theorem d_Mod_later_28 : decode prog_8_method_44_code 28 = .ok (.i2l, 1) := by decide +kernel
theorem d_Mod_later_29 : decode prog_8_method_44_code 29 = .ok (.lconst 0, 1) := by decide +kernel
theorem d_Mod_later_30 : decode prog_8_method_44_code 30 = .ok (.ldc2_w 180, 3) := by decide +kernel
theorem d_Mod_later_33 : decode prog_8_method_44_code 33 = .ok (.invokestatic 63, 3) := by decide +kernel
theorem d_Mod_later_36 : decode prog_8_method_44_code 36 = .ok (.ifCond .ne 6, 3) := by decide +kernel
theorem d_Mod_later_39 : decode prog_8_method_44_code 39 = .ok (.bipush (-2), 2) := by decide +kernel
theorem d_Mod_later_41 : decode prog_8_method_44_code 41 = .ok (.ireturn, 1) := by decide +kernel
theorem d_Mod_later_42 : decode prog_8_method_44_code 42 = .ok (.aload_n 0, 1) := by decide +kernel
theorem d_Mod_later_43 : decode prog_8_method_44_code 43 = .ok (.invokevirtual 182, 3) := by decide +kernel
theorem d_Mod_later_46 : decode prog_8_method_44_code 46 = .ok (.aload_n 0, 1) := by decide +kernel
theorem d_Mod_later_47 : decode prog_8_method_44_code 47 = .ok (.aload_n 0, 1) := by decide +kernel
theorem d_Mod_later_48 : decode prog_8_method_44_code 48 = .ok (.getfield 28, 3) := by decide +kernel
theorem d_Mod_later_51 : decode prog_8_method_44_code 51 = .ok (.iload_n 2, 1) := by decide +kernel
theorem d_Mod_later_52 : decode prog_8_method_44_code 52 = .ok (.invokevirtual 185, 3) := by decide +kernel
theorem d_Mod_later_55 : decode prog_8_method_44_code 55 = .ok (.iload_n 3, 1) := by decide +kernel
theorem d_Mod_later_56 : decode prog_8_method_44_code 56 = .ok (.ifCond .ne 12, 3) := by decide +kernel
theorem d_Mod_later_59 : decode prog_8_method_44_code 59 = .ok (.aload_n 0, 1) := by decide +kernel
theorem d_Mod_later_60 : decode prog_8_method_44_code 60 = .ok (.getfield 28, 3) := by decide +kernel
theorem d_Mod_later_63 : decode prog_8_method_44_code 63 = .ok (.iload_n 1, 1) := by decide +kernel
theorem d_Mod_later_64 : decode prog_8_method_44_code 64 = .ok (.iaload, 1) := by decide +kernel
theorem d_Mod_later_65 : decode prog_8_method_44_code 65 = .ok (.goto 28, 3) := by decide +kernel
theorem d_Mod_later_68 : decode prog_8_method_44_code 68 = .ok (.iload_n 3, 1) := by decide +kernel
theorem d_Mod_later_69 : decode prog_8_method_44_code 69 = .ok (.iconst 1, 1) := by decide +kernel
theorem d_Mod_later_70 : decode prog_8_method_44_code 70 = .ok (.if_icmp .ne 15, 3) := by decide +kernel
theorem d_Mod_later_73 : decode prog_8_method_44_code 73 = .ok (.aload_n 0, 1) := by decide +kernel
theorem d_Mod_later_74 : decode prog_8_method_44_code 74 = .ok (.getfield 28, 3) := by decide +kernel
theorem d_Mod_later_77 : decode prog_8_method_44_code 77 = .ok (.bipush 6, 2) := by decide +kernel
theorem d_Mod_later_79 : decode prog_8_method_44_code 79 = .ok (.iload_n 1, 1) := by decide +kernel
theorem d_Mod_later_80 : decode prog_8_method_44_code 80 = .ok (.iadd, 1) := by decide +kernel
theorem d_Mod_later_81 : decode prog_8_method_44_code 81 = .ok (.iaload, 1) := by decide +kernel
theorem d_Mod_later_82 : decode prog_8_method_44_code 82 = .ok (.goto 11, 3) := by decide +kernel
theorem d_Mod_later_85 : decode prog_8_method_44_code 85 = .ok (.aload_n 0, 1) := by decide +kernel
theorem d_Mod_later_86 : decode prog_8_method_44_code 86 = .ok (.getfield 28, 3) := by decide +kernel
theorem d_Mod_later_89 : decode prog_8_method_44_code 89 = .ok (.iload_n 1, 1) := by decide +kernel
theorem d_Mod_later_90 : decode prog_8_method_44_code 90 = .ok (.invokestatic 110, 3) := by decide +kernel
theorem d_Mod_later_93 : decode prog_8_method_44_code 93 = .ok (.ireturn, 1) := by decide +kernel
theorem d_Mod_crust_0 : decode prog_8_method_45_code 0 = .ok (.aload_n 0, 1) := by decide +kernel
theorem d_Mod_crust_1 : decode prog_8_method_45_code 1 = .ok (.iconst 0, 1) := by decide +kernel
theorem d_Mod_crust_2 : decode prog_8_method_45_code 2 = .ok (.putfield 56, 3) := by decide +kernel
theorem d_Mod_crust_5 : decode prog_8_method_45_code 5 = .ok (.iload_n 1, 1) := by decide +kernel
theorem d_Mod_crust_6 : decode prog_8_method_45_code 6 = .ok (.i2l, 1) := by decide +kernel
theorem d_Mod_crust_7 : decode prog_8_method_45_code 7 = .ok (.lconst 0, 1) := by decide +kernel
theorem d_Mod_crust_8 : decode prog_8_method_45_code 8 = .ok (.ldc2_w 178, 3) := by decide +kernel
theorem d_Mod_crust_11 : decode prog_8_method_45_code 11 = .ok (.invokestatic 63, 3) := by decide +kernel
theorem d_Mod_crust_14 : decode prog_8_method_45_code 14 = .ok (.ifCond .ne 6, 3) := by decide +kernel
theorem d_Mod_crust_17 : decode prog_8_method_45_code 17 = .ok (.bipush (-2), 2) := by decide +kernel
theorem d_Mod_crust_19 : decode prog_8_method_45_code 19 = .ok (.ireturn, 1) := by decide +kernel
theorem d_Mod_crust_20 : decode prog_8_method_45_code 20 = .ok (.aload_n 0, 1) := by decide +kernel
theorem d_Mod_crust_21 : decode prog_8_method_45_code 21 = .ok (.invokevirtual 182, 3) := by decide +kernel
theorem d_Mod_crust_24 : decode prog_8_method_45_code 24 = .ok (.aload_n 0, 1) := by decide +kernel
theorem d_Mod_crust_25 : decode prog_8_method_45_code 25 = .ok (.aload_n 0, 1) := by decide +kernel
theorem d_Mod_crust_26 : decode prog_8_method_45_code 26 = .ok (.getfield 28, 3) := by decide +kernel
theorem d_Mod_crust_29 : decode prog_8_method_45_code 29 = .ok (.iload_n 1, 1) := by decide +kernel
theorem d_Mod_crust_30 : decode prog_8_method_45_code 30 = .ok (.invokevirtual 185, 3) := by decide +kernel
theorem d_Mod_crust_33 : decode prog_8_method_45_code 33 = .ok (.aload_n 0, 1) := by decide +kernel
theorem d_Mod_crust_34 : decode prog_8_method_45_code 34 = .ok (.aload_n 0, 1) := by decide +kernel
theorem d_Mod_crust_35 : decode prog_8_method_45_code 35 = .ok (.getfield 28, 3) := by decide +kernel
theorem d_Mod_crust_38 : decode prog_8_method_45_code 38 = .ok (.invokevirtual 150, 3) := by decide +kernel
theorem d_Mod_crust_41 : decode prog_8_method_45_code 41 = .ok (.ireturn, 1) := by decide +kernel
theorem d_Mod_ripe_0 : decode prog_8_method_46_code 0 = .ok (.aload_n 0, 1) := by decide +kernel
theorem d_Mod_ripe_1 : decode prog_8_method_46_code 1 = .ok (.iconst 0, 1) := by decide +kernel
theorem d_Mod_ripe_2 : decode prog_8_method_46_code 2 = .ok (.putfield 56, 3) := by decide +kernel
theorem d_Mod_ripe_5 : decode prog_8_method_46_code 5 = .ok (.aload_n 0, 1) := by decide +kernel
theorem d_Mod_ripe_6 : decode prog_8_method_46_code 6 = .ok (.iload_n 1, 1) := by decide +kernel
theorem d_Mod_ripe_7 : decode prog_8_method_46_code 7 = .ok (.invokevirtual 159, 3) := by decide +kernel
theorem d_Mod_ripe_10 : decode prog_8_method_46_code 10 = .ok (.ifCond .eq 5, 3) := by decide +kernel
theorem d_Mod_ripe_13 : decode prog_8_method_46_code 13 = .ok (.iconst (-1), 1) := by decide +kernel
theorem d_Mod_ripe_14 : decode prog_8_method_46_code 14 = .ok (.ireturn, 1) := by decide +kernel
theorem d_Mod_ripe_15 : decode prog_8_method_46_code 15 = .ok (.aload_n 0, 1) := by decide +kernel
theorem d_Mod_ripe_16 : decode prog_8_method_46_code 16 = .ok (.invokevirtual 182, 3) := by decide +kernel
theorem d_Mod_ripe_19 : decode prog_8_method_46_code 19 = .ok (.iconst 0, 1) := by decide +kernel
theorem d_Mod_ripe_20 : decode prog_8_method_46_code 20 = .ok (.istore_n 2, 1) := by decide +kernel
theorem d_Mod_ripe_21 : decode prog_8_method_46_code 21 = .ok (.iload_n 2, 1) := by decide +kernel
theorem d_Mod_ripe_22 : decode prog_8_method_46_code 22 = .ok (.bipush 30, 2) := by decide +kernel
theorem d_Mod_ripe_24 : decode prog_8_method_46_code 24 = .ok (.if_icmp .gt 31, 3) := by decide +kernel
theorem d_Mod_ripe_27 : decode prog_8_method_46_code 27 = .ok (.aload_n 0, 1) := by decide +kernel
theorem d_Mod_ripe_28 : decode prog_8_method_46_code 28 = .ok (.getfield 28, 3) := by decide +kernel
theorem d_Mod_ripe_31 : decode prog_8_method_46_code 31 = .ok (.iload_n 1, 1) := by decide +kernel
theorem d_Mod_ripe_32 : decode prog_8_method_46_code 32 = .ok (.invokestatic 142, 3) := by decide +kernel
theorem d_Mod_ripe_35 : decode prog_8_method_46_code 35 = .ok (.ifCond .eq 5, 3) := by decide +kernel
theorem d_Mod_ripe_38 : decode prog_8_method_46_code 38 = .ok (.iload_n 2, 1) := by decide +kernel
theorem d_Mod_ripe_39 : decode prog_8_method_46_code 39 = .ok (.ireturn, 1) := by decide +kernel
theorem d_Mod_ripe_40 : decode prog_8_method_46_code 40 = .ok (.aload_n 0, 1) := by decide +kernel
theorem d_Mod_ripe_41 : decode prog_8_method_46_code 41 = .ok (.aload_n 0, 1) := by decide +kernel
theorem d_Mod_ripe_42 : decode prog_8_method_46_code 42 = .ok (.getfield 28, 3) := by decide +kernel
theorem d_Mod_ripe_45 : decode prog_8_method_46_code 45 = .ok (.iconst 1, 1) := by decide +kernel
theorem d_Mod_ripe_46 : decode prog_8_method_46_code 46 = .ok (.invokevirtual 138, 3) := by decide +kernel
theorem d_Mod_ripe_49 : decode prog_8_method_46_code 49 = .ok (.iinc 2 1, 3) := by decide +kernel
theorem d_Mod_ripe_52 : decode prog_8_method_46_code 52 = .ok (.goto (-31), 3) := by decide +kernel
theorem d_Mod_ripe_55 : decode prog_8_method_46_code 55 = .ok (.bipush (-9), 2) := by decide +kernel
theorem d_Mod_ripe_57 : decode prog_8_method_46_code 57 = .ok (.ireturn, 1) := by decide +kernel
theorem d_Mod_findBest_0 : decode prog_8_method_47_code 0 = .ok (.aload_n 0, 1) := by decide +kernel
theorem d_Mod_findBest_1 : decode prog_8_method_47_code 1 = .ok (.invokevirtual 182, 3) := by decide +kernel
theorem d_Mod_findBest_4 : decode prog_8_method_47_code 4 = .ok (.aload_n 0, 1) := by decide +kernel
theorem d_Mod_findBest_5 : decode prog_8_method_47_code 5 = .ok (.aload_n 0, 1) := by decide +kernel
theorem d_Mod_findBest_6 : decode prog_8_method_47_code 6 = .ok (.getfield 28, 3) := by decide +kernel
theorem d_Mod_findBest_9 : decode prog_8_method_47_code 9 = .ok (.iload_n 1, 1) := by decide +kernel
theorem d_Mod_findBest_10 : decode prog_8_method_47_code 10 = .ok (.invokevirtual 185, 3) := by decide +kernel
theorem d_Mod_findBest_13 : decode prog_8_method_47_code 13 = .ok (.aload_n 0, 1) := by decide +kernel
theorem d_Mod_findBest_14 : decode prog_8_method_47_code 14 = .ok (.aload_n 0, 1) := by decide +kernel
theorem d_Mod_findBest_15 : decode prog_8_method_47_code 15 = .ok (.aload_n 0, 1) := by decide +kernel
theorem d_Mod_findBest_16 : decode prog_8_method_47_code 16 = .ok (.getfield 28, 3) := by decide +kernel
theorem d_Mod_findBest_19 : decode prog_8_method_47_code 19 = .ok (.invokevirtual 150, 3) := by decide +kernel
theorem d_Mod_findBest_22 : decode prog_8_method_47_code 22 = .ok (.putfield 188, 3) := by decide +kernel
theorem d_Mod_findBest_25 : decode prog_8_method_47_code 25 = .ok (.aload_n 0, 1) := by decide +kernel
theorem d_Mod_findBest_26 : decode prog_8_method_47_code 26 = .ok (.iconst 0, 1) := by decide +kernel
theorem d_Mod_findBest_27 : decode prog_8_method_47_code 27 = .ok (.putfield 191, 3) := by decide +kernel
theorem d_Mod_findBest_30 : decode prog_8_method_47_code 30 = .ok (.iconst 0, 1) := by decide +kernel
theorem d_Mod_findBest_31 : decode prog_8_method_47_code 31 = .ok (.istore_n 2, 1) := by decide +kernel
theorem d_Mod_findBest_32 : decode prog_8_method_47_code 32 = .ok (.iload_n 2, 1) := by decide +kernel
theorem d_Mod_findBest_33 : decode prog_8_method_47_code 33 = .ok (.aload_n 0, 1) := by decide +kernel
theorem d_Mod_findBest_34 : decode prog_8_method_47_code 34 = .ok (.getfield 60, 3) := by decide +kernel
theorem d_Mod_findBest_37 : decode prog_8_method_47_code 37 = .ok (.iconst 1, 1) := by decide +kernel
theorem d_Mod_findBest_38 : decode prog_8_method_47_code 38 = .ok (.isub, 1) := by decide +kernel
theorem d_Mod_findBest_39 : decode prog_8_method_47_code 39 = .ok (.if_icmp .ge 129, 3) := by decide +kernel
theorem d_Mod_findBest_42 : decode prog_8_method_47_code 42 = .ok (.iconst 1, 1) := by decide +kernel
theorem d_Mod_findBest_43 : decode prog_8_method_47_code 43 = .ok (.istore_n 3, 1) := by decide +kernel
theorem d_Mod_findBest_44 : decode prog_8_method_47_code 44 = .ok (.iload_n 3, 1) := by decide +kernel
theorem d_Mod_findBest_45 : decode prog_8_method_47_code 45 = .ok (.bipush 9, 2) := by decide +kernel
theorem d_Mod_findBest_47 : decode prog_8_method_47_code 47 = .ok (.if_icmp .gt 115, 3) := by decide +kernel
theorem d_Mod_findBest_50 : decode prog_8_method_47_code 50 = .ok (.aload_n 0, 1) := by decide +kernel
theorem d_Mod_findBest_51 : decode prog_8_method_47_code 51 = .ok (.getfield 25, 3) := by decide +kernel
theorem d_Mod_findBest_54 : decode prog_8_method_47_code 54 = .ok (.iload_n 2, 1) := by decide +kernel
theorem d_Mod_findBest_55 : decode prog_8_method_47_code 55 = .ok (.iaload, 1) := by decide +kernel
theorem d_Mod_findBest_56 : decode prog_8_method_47_code 56 = .ok (.iload_n 3, 1) := by decide +kernel
theorem d_Mod_findBest_57 : decode prog_8_method_47_code 57 = .ok (.if_icmp .lt 99, 3) := by decide +kernel
theorem d_Mod_findBest_60 : decode prog_8_method_47_code 60 = .ok (.aload_n 0, 1) := by decide +kernel
theorem d_Mod_findBest_61 : decode prog_8_method_47_code 61 = .ok (.aload_n 0, 1) := by decide +kernel
theorem d_Mod_findBest_62 : decode prog_8_method_47_code 62 = .ok (.getfield 25, 3) := by decide +kernel
theorem d_Mod_findBest_65 : decode prog_8_method_47_code 65 = .ok (.iload_n 2, 1) := by decide +kernel
theorem d_Mod_findBest_66 : decode prog_8_method_47_code 66 = .ok (.iconst 1, 1) := by decide +kernel
theorem d_Mod_findBest_67 : decode prog_8_method_47_code 67 = .ok (.iadd, 1) := by decide +kernel
theorem d_Mod_findBest_68 : decode prog_8_method_47_code 68 = .ok (.invokevirtual 121, 3) := by decide +kernel
theorem d_Mod_findBest_71 : decode prog_8_method_47_code 71 = .ok (.iload_n 3, 1) := by decide +kernel
theorem d_Mod_findBest_72 : decode prog_8_method_47_code 72 = .ok (.if_icmp .lt 84, 3) := by decide +kernel
theorem d_Mod_findBest_75 : decode prog_8_method_47_code 75 = .ok (.aload_n 0, 1) := by decide +kernel
theorem d_Mod_findBest_76 : decode prog_8_method_47_code 76 = .ok (.invokevirtual 182, 3) := by decide +kernel
theorem d_Mod_findBest_79 : decode prog_8_method_47_code 79 = .ok (.aload_n 0, 1) := by decide +kernel
theorem d_Mod_findBest_80 : decode prog_8_method_47_code 80 = .ok (.getfield 28, 3) := by decide +kernel
theorem d_Mod_findBest_83 : decode prog_8_method_47_code 83 = .ok (.iload_n 2, 1) := by decide +kernel
theorem d_Mod_findBest_84 : decode prog_8_method_47_code 84 = .ok (.iload_n 3, 1) := by decide +kernel
theorem d_Mod_findBest_85 : decode prog_8_method_47_code 85 = .ok (.invokestatic 128, 3) := by decide +kernel
theorem d_Mod_findBest_88 : decode prog_8_method_47_code 88 = .ok (.pop, 1) := by decide +kernel
theorem d_Mod_findBest_89 : decode prog_8_method_47_code 89 = .ok (.aload_n 0, 1) := by decide +kernel
theorem d_Mod_findBest_90 : decode prog_8_method_47_code 90 = .ok (.aload_n 0, 1) := by decide +kernel
theorem d_Mod_findBest_91 : decode prog_8_method_47_code 91 = .ok (.getfield 28, 3) := by decide +kernel
theorem d_Mod_findBest_94 : decode prog_8_method_47_code 94 = .ok (.iload_n 1, 1) := by decide +kernel
theorem d_Mod_findBest_95 : decode prog_8_method_47_code 95 = .ok (.invokevirtual 185, 3) := by decide +kernel
theorem d_Mod_findBest_98 : decode prog_8_method_47_code 98 = .ok (.aload_n 0, 1) := by decide +kernel
theorem d_Mod_findBest_99 : decode prog_8_method_47_code 99 = .ok (.aload_n 0, 1) := by decide +kernel
theorem d_Mod_findBest_100 : decode prog_8_method_47_code 100 = .ok (.getfield 28, 3) := by decide +kernel
theorem d_Mod_findBest_103 : decode prog_8_method_47_code 103 = .ok (.invokevirtual 150, 3) := by decide +kernel
theorem d_Mod_findBest_106 : decode prog_8_method_47_code 106 = .ok (.istore 4, 2) := by decide +kernel
theorem d_Mod_findBest_108 : decode prog_8_method_47_code 108 = .ok (.aload_n 0, 1) := by decide +kernel
theorem d_Mod_findBest_109 : decode prog_8_method_47_code 109 = .ok (.iload 4, 2) := by decide +kernel
theorem d_Mod_findBest_111 : decode prog_8_method_47_code 111 = .ok (.aload_n 0, 1) := by decide +kernel
theorem d_Mod_findBest_112 : decode prog_8_method_47_code 112 = .ok (.getfield 188, 3) := by decide +kernel
theorem d_Mod_findBest_115 : decode prog_8_method_47_code 115 = .ok (.if_icmp .le 12, 3) := by decide +kernel
theorem d_Mod_findBest_118 : decode prog_8_method_47_code 118 = .ok (.bipush 10, 2) := by decide +kernel
theorem d_Mod_findBest_120 : decode prog_8_method_47_code 120 = .ok (.iload_n 2, 1) := by decide +kernel
theorem d_Mod_findBest_121 : decode prog_8_method_47_code 121 = .ok (.imul, 1) := by decide +kernel
theorem d_Mod_findBest_122 : decode prog_8_method_47_code 122 = .ok (.iload_n 3, 1) := by decide +kernel
theorem d_Mod_findBest_123 : decode prog_8_method_47_code 123 = .ok (.iadd, 1) := by decide +kernel
theorem d_Mod_findBest_124 : decode prog_8_method_47_code 124 = .ok (.goto 7, 3) := by decide +kernel
theorem d_Mod_findBest_127 : decode prog_8_method_47_code 127 = .ok (.aload_n 0, 1) := by decide +kernel
theorem d_Mod_findBest_128 : decode prog_8_method_47_code 128 = .ok (.getfield 191, 3) := by decide +kernel
theorem d_Mod_findBest_131 : decode prog_8_method_47_code 131 = .ok (.putfield 191, 3) := by decide +kernel
theorem d_Mod_findBest_134 : decode prog_8_method_47_code 134 = .ok (.aload_n 0, 1) := by decide +kernel
theorem d_Mod_findBest_135 : decode prog_8_method_47_code 135 = .ok (.iload 4, 2) := by decide +kernel
theorem d_Mod_findBest_137 : decode prog_8_method_47_code 137 = .ok (.aload_n 0, 1) := by decide +kernel
theorem d_Mod_findBest_138 : decode prog_8_method_47_code 138 = .ok (.getfield 188, 3) := by decide +kernel
theorem d_Mod_findBest_141 : decode prog_8_method_47_code 141 = .ok (.if_icmp .le 8, 3) := by decide +kernel
theorem d_Mod_findBest_144 : decode prog_8_method_47_code 144 = .ok (.iload 4, 2) := by decide +kernel
theorem d_Mod_findBest_146 : decode prog_8_method_47_code 146 = .ok (.goto 7, 3) := by decide +kernel
theorem d_Mod_findBest_149 : decode prog_8_method_47_code 149 = .ok (.aload_n 0, 1) := by decide +kernel
theorem d_Mod_findBest_150 : decode prog_8_method_47_code 150 = .ok (.getfield 188, 3) := by decide +kernel
theorem d_Mod_findBest_153 : decode prog_8_method_47_code 153 = .ok (.putfield 188, 3) := by decide +kernel
theorem d_Mod_findBest_156 : decode prog_8_method_47_code 156 = .ok (.iinc 3 1, 3) := by decide +kernel
theorem d_Mod_findBest_159 : decode prog_8_method_47_code 159 = .ok (.goto (-115), 3) := by decide +kernel
theorem d_Mod_findBest_162 : decode prog_8_method_47_code 162 = .ok (.iinc 2 1, 3) := by decide +kernel
theorem d_Mod_findBest_165 : decode prog_8_method_47_code 165 = .ok (.goto (-133), 3) := by decide +kernel
theorem d_Mod_findBest_168 : decode prog_8_method_47_code 168 = .ok (.return_, 1) := by decide +kernel
theorem d_Mod_best_0 : decode prog_8_method_48_code 0 = .ok (.aload_n 0, 1) := by decide +kernel
theorem d_Mod_best_1 : decode prog_8_method_48_code 1 = .ok (.iconst 0, 1) := by decide +kernel
theorem d_Mod_best_2 : decode prog_8_method_48_code 2 = .ok (.putfield 56, 3) := by decide +kernel
theorem d_Mod_best_5 : decode prog_8_method_48_code 5 = .ok (.iload_n 1, 1) := by decide +kernel
theorem d_Mod_best_6 : decode prog_8_method_48_code 6 = .ok (.i2l, 1) := by decide +kernel
theorem d_Mod_best_7 : decode prog_8_method_48_code 7 = .ok (.lconst 1, 1) := by decide +kernel
theorem d_Mod_best_8 : decode prog_8_method_48_code 8 = .ok (.ldc2_w 166, 3) := by decide +kernel
theorem d_Mod_best_11 : decode prog_8_method_48_code 11 = .ok (.invokestatic 63, 3) := by decide +kernel
theorem d_Mod_best_14 : decode prog_8_method_48_code 14 = .ok (.ifCond .eq 13, 3) := by decide +kernel
theorem d_Mod_best_17 : decode prog_8_method_48_code 17 = .ok (.iload_n 2, 1) := by decide +kernel
theorem d_Mod_best_18 : decode prog_8_method_48_code 18 = .ok (.i2l, 1) := by decide +kernel
theorem d_Mod_best_19 : decode prog_8_method_48_code 19 = .ok (.lconst 0, 1) := by decide +kernel
theorem d_Mod_best_20 : decode prog_8_method_48_code 20 = .ok (.lconst 1, 1) := by decide +kernel
theorem d_Mod_best_21 : decode prog_8_method_48_code 21 = .ok (.invokestatic 63, 3) := by decide +kernel
theorem d_Mod_best_24 : decode prog_8_method_48_code 24 = .ok (.ifCond .ne 6, 3) := by decide +kernel
theorem d_Mod_best_27 : decode prog_8_method_48_code 27 = .ok (.bipush (-2), 2) := by decide +kernel
theorem d_Mod_best_29 : decode prog_8_method_48_code 29 = .ok (.ireturn, 1) := by decide +kernel
theorem d_Mod_best_30 : decode prog_8_method_48_code 30 = .ok (.aload_n 0, 1) := by decide +kernel
theorem d_Mod_best_31 : decode prog_8_method_48_code 31 = .ok (.iload_n 1, 1) := by decide +kernel
theorem d_Mod_best_32 : decode prog_8_method_48_code 32 = .ok (.invokevirtual 194, 3) := by decide +kernel
theorem d_Mod_best_35 : decode prog_8_method_48_code 35 = .ok (.iload_n 2, 1) := by decide +kernel
theorem d_Mod_best_36 : decode prog_8_method_48_code 36 = .ok (.ifCond .ne 10, 3) := by decide +kernel
theorem d_Mod_best_39 : decode prog_8_method_48_code 39 = .ok (.aload_n 0, 1) := by decide +kernel
theorem d_Mod_best_40 : decode prog_8_method_48_code 40 = .ok (.getfield 188, 3) := by decide +kernel
theorem d_Mod_best_43 : decode prog_8_method_48_code 43 = .ok (.goto 7, 3) := by decide +kernel
theorem d_Mod_best_46 : decode prog_8_method_48_code 46 = .ok (.aload_n 0, 1) := by decide +kernel
theorem d_Mod_best_47 : decode prog_8_method_48_code 47 = .ok (.getfield 191, 3) := by decide +kernel
theorem d_Mod_best_50 : decode prog_8_method_48_code 50 = .ok (.ireturn, 1) := by decide +kernel
theorem d_Mod_gates_0 : decode prog_8_method_49_code 0 = .ok (.aload_n 0, 1) := by decide +kernel
theorem d_Mod_gates_1 : decode prog_8_method_49_code 1 = .ok (.iconst 0, 1) := by decide +kernel
theorem d_Mod_gates_2 : decode prog_8_method_49_code 2 = .ok (.putfield 56, 3) := by decide +kernel
theorem d_Mod_gates_5 : decode prog_8_method_49_code 5 = .ok (.iload_n 1, 1) := by decide +kernel
theorem d_Mod_gates_6 : decode prog_8_method_49_code 6 = .ok (.i2l, 1) := by decide +kernel
theorem d_Mod_gates_7 : decode prog_8_method_49_code 7 = .ok (.lconst 1, 1) := by decide +kernel
theorem d_Mod_gates_8 : decode prog_8_method_49_code 8 = .ok (.ldc2_w 166, 3) := by decide +kernel
theorem d_Mod_gates_11 : decode prog_8_method_49_code 11 = .ok (.invokestatic 63, 3) := by decide +kernel
theorem d_Mod_gates_14 : decode prog_8_method_49_code 14 = .ok (.ifCond .eq 15, 3) := by decide +kernel
theorem d_Mod_gates_17 : decode prog_8_method_49_code 17 = .ok (.iload_n 2, 1) := by decide +kernel
theorem d_Mod_gates_18 : decode prog_8_method_49_code 18 = .ok (.i2l, 1) := by decide +kernel
theorem d_Mod_gates_19 : decode prog_8_method_49_code 19 = .ok (.lconst 0, 1) := by decide +kernel
theorem d_Mod_gates_20 : decode prog_8_method_49_code 20 = .ok (.ldc2_w 198, 3) := by decide +kernel
theorem d_Mod_gates_23 : decode prog_8_method_49_code 23 = .ok (.invokestatic 63, 3) := by decide +kernel
theorem d_Mod_gates_26 : decode prog_8_method_49_code 26 = .ok (.ifCond .ne 6, 3) := by decide +kernel
theorem d_Mod_gates_29 : decode prog_8_method_49_code 29 = .ok (.bipush (-2), 2) := by decide +kernel
theorem d_Mod_gates_31 : decode prog_8_method_49_code 31 = .ok (.ireturn, 1) := by decide +kernel
theorem d_Mod_gates_32 : decode prog_8_method_49_code 32 = .ok (.bipush (-9), 2) := by decide +kernel
theorem d_Mod_gates_34 : decode prog_8_method_49_code 34 = .ok (.istore_n 3, 1) := by decide +kernel
theorem d_Mod_gates_35 : decode prog_8_method_49_code 35 = .ok (.aload_n 0, 1) := by decide +kernel
theorem d_Mod_gates_36 : decode prog_8_method_49_code 36 = .ok (.getfield 60, 3) := by decide +kernel
theorem d_Mod_gates_39 : decode prog_8_method_49_code 39 = .ok (.iconst 2, 1) := by decide +kernel
theorem d_Mod_gates_40 : decode prog_8_method_49_code 40 = .ok (.if_icmp .ge 7, 3) := by decide +kernel
theorem d_Mod_gates_43 : decode prog_8_method_49_code 43 = .ok (.iconst 1, 1) := by decide +kernel
theorem d_Mod_gates_44 : decode prog_8_method_49_code 44 = .ok (.goto 11, 3) := by decide +kernel
theorem d_Mod_gates_47 : decode prog_8_method_49_code 47 = .ok (.iconst 1, 1) := by decide +kernel
theorem d_Mod_gates_48 : decode prog_8_method_49_code 48 = .ok (.aload_n 0, 1) := by decide +kernel
theorem d_Mod_gates_49 : decode prog_8_method_49_code 49 = .ok (.getfield 60, 3) := by decide +kernel
theorem d_Mod_gates_52 : decode prog_8_method_49_code 52 = .ok (.iconst 1, 1) := by decide +kernel
theorem d_Mod_gates_53 : decode prog_8_method_49_code 53 = .ok (.isub, 1) := by decide +kernel
theorem d_Mod_gates_54 : decode prog_8_method_49_code 54 = .ok (.ishl, 1) := by decide +kernel
theorem d_Mod_gates_55 : decode prog_8_method_49_code 55 = .ok (.istore 4, 2) := by decide +kernel
theorem d_Mod_gates_57 : decode prog_8_method_49_code 57 = .ok (.iconst 0, 1) := by decide +kernel
theorem d_Mod_gates_58 : decode prog_8_method_49_code 58 = .ok (.istore 5, 2) := by decide +kernel
theorem d_Mod_gates_60 : decode prog_8_method_49_code 60 = .ok (.iload 5, 2) := by decide +kernel
theorem d_Mod_gates_62 : decode prog_8_method_49_code 62 = .ok (.iload 4, 2) := by decide +kernel
theorem d_Mod_gates_64 : decode prog_8_method_49_code 64 = .ok (.if_icmp .ge 68, 3) := by decide +kernel
theorem d_Mod_gates_67 : decode prog_8_method_49_code 67 = .ok (.iload_n 3, 1) := by decide +kernel
theorem d_Mod_gates_68 : decode prog_8_method_49_code 68 = .ok (.bipush (-9), 2) := by decide +kernel
theorem d_Mod_gates_70 : decode prog_8_method_49_code 70 = .ok (.if_icmp .eq 15, 3) := by decide +kernel
theorem d_Mod_gates_73 : decode prog_8_method_49_code 73 = .ok (.iload 5, 2) := by decide +kernel
theorem d_Mod_gates_75 : decode prog_8_method_49_code 75 = .ok (.invokestatic 200, 3) := by decide +kernel
theorem d_Mod_gates_78 : decode prog_8_method_49_code 78 = .ok (.iload_n 3, 1) := by decide +kernel
theorem d_Mod_gates_79 : decode prog_8_method_49_code 79 = .ok (.invokestatic 200, 3) := by decide +kernel
theorem d_Mod_gates_82 : decode prog_8_method_49_code 82 = .ok (.if_icmp .ge 44, 3) := by decide +kernel
theorem d_Mod_gates_85 : decode prog_8_method_49_code 85 = .ok (.aload_n 0, 1) := by decide +kernel
theorem d_Mod_gates_86 : decode prog_8_method_49_code 86 = .ok (.invokevirtual 182, 3) := by decide +kernel
theorem d_Mod_gates_89 : decode prog_8_method_49_code 89 = .ok (.aload_n 0, 1) := by decide +kernel
theorem d_Mod_gates_90 : decode prog_8_method_49_code 90 = .ok (.getfield 28, 3) := by decide +kernel
theorem d_Mod_gates_93 : decode prog_8_method_49_code 93 = .ok (.bipush 12, 2) := by decide +kernel
theorem d_Mod_gates_95 : decode prog_8_method_49_code 95 = .ok (.iload 5, 2) := by decide +kernel
theorem d_Mod_gates_97 : decode prog_8_method_49_code 97 = .ok (.iastore, 1) := by decide +kernel
theorem d_Mod_gates_98 : decode prog_8_method_49_code 98 = .ok (.aload_n 0, 1) := by decide +kernel
theorem d_Mod_gates_99 : decode prog_8_method_49_code 99 = .ok (.aload_n 0, 1) := by decide +kernel
theorem d_Mod_gates_100 : decode prog_8_method_49_code 100 = .ok (.getfield 28, 3) := by decide +kernel
theorem d_Mod_gates_103 : decode prog_8_method_49_code 103 = .ok (.iload_n 1, 1) := by decide +kernel
theorem d_Mod_gates_104 : decode prog_8_method_49_code 104 = .ok (.invokevirtual 185, 3) := by decide +kernel
theorem d_Mod_gates_107 : decode prog_8_method_49_code 107 = .ok (.aload_n 0, 1) := by decide +kernel
theorem d_Mod_gates_108 : decode prog_8_method_49_code 108 = .ok (.aload_n 0, 1) := by decide +kernel
theorem d_Mod_gates_109 : decode prog_8_method_49_code 109 = .ok (.getfield 28, 3) := by decide +kernel
theorem d_Mod_gates_112 : decode prog_8_method_49_code 112 = .ok (.invokevirtual 150, 3) := by decide +kernel
theorem d_Mod_gates_115 : decode prog_8_method_49_code 115 = .ok (.iload_n 2, 1) := by decide +kernel
theorem d_Mod_gates_116 : decode prog_8_method_49_code 116 = .ok (.if_icmp .lt 8, 3) := by decide +kernel
theorem d_Mod_gates_119 : decode prog_8_method_49_code 119 = .ok (.iload 5, 2) := by decide +kernel
theorem d_Mod_gates_121 : decode prog_8_method_49_code 121 = .ok (.goto 4, 3) := by decide +kernel
theorem d_Mod_gates_124 : decode prog_8_method_49_code 124 = .ok (.iload_n 3, 1) := by decide +kernel
theorem d_Mod_gates_125 : decode prog_8_method_49_code 125 = .ok (.istore_n 3, 1) := by decide +kernel
theorem d_Mod_gates_126 : decode prog_8_method_49_code 126 = .ok (.iinc 5 1, 3) := by decide +kernel
theorem d_Mod_gates_129 : decode prog_8_method_49_code 129 = .ok (.goto (-69), 3) := by decide +kernel
theorem d_Mod_gates_132 : decode prog_8_method_49_code 132 = .ok (.iload_n 3, 1) := by decide +kernel
theorem d_Mod_gates_133 : decode prog_8_method_49_code 133 = .ok (.ireturn, 1) := by decide +kernel
theorem d_Mod_longPower_0 : decode prog_8_method_50_code 0 = .ok (.lconst 1, 1) := by decide +kernel
theorem d_Mod_longPower_1 : decode prog_8_method_50_code 1 = .ok (.lstore_n 3, 1) := by decide +kernel
theorem d_Mod_longPower_2 : decode prog_8_method_50_code 2 = .ok (.iconst 0, 1) := by decide +kernel
theorem d_Mod_longPower_3 : decode prog_8_method_50_code 3 = .ok (.istore 5, 2) := by decide +kernel
theorem d_Mod_longPower_5 : decode prog_8_method_50_code 5 = .ok (.iload 5, 2) := by decide +kernel
theorem d_Mod_longPower_7 : decode prog_8_method_50_code 7 = .ok (.iload_n 2, 1) := by decide +kernel
theorem d_Mod_longPower_8 : decode prog_8_method_50_code 8 = .ok (.if_icmp .ge 13, 3) := by decide +kernel
theorem d_Mod_longPower_11 : decode prog_8_method_50_code 11 = .ok (.lload_n 3, 1) := by decide +kernel
theorem d_Mod_longPower_12 : decode prog_8_method_50_code 12 = .ok (.lload_n 0, 1) := by decide +kernel
theorem d_Mod_longPower_13 : decode prog_8_method_50_code 13 = .ok (.lmul, 1) := by decide +kernel
theorem d_Mod_longPower_14 : decode prog_8_method_50_code 14 = .ok (.lstore_n 3, 1) := by decide +kernel
theorem d_Mod_longPower_15 : decode prog_8_method_50_code 15 = .ok (.iinc 5 1, 3) := by decide +kernel
theorem d_Mod_longPower_18 : decode prog_8_method_50_code 18 = .ok (.goto (-13), 3) := by decide +kernel
theorem d_Mod_longPower_21 : decode prog_8_method_50_code 21 = .ok (.lload_n 3, 1) := by decide +kernel
theorem d_Mod_longPower_22 : decode prog_8_method_50_code 22 = .ok (.lreturn, 1) := by decide +kernel
theorem d_Mod_seas_0 : decode prog_8_method_51_code 0 = .ok (.aload_n 0, 1) := by decide +kernel
theorem d_Mod_seas_1 : decode prog_8_method_51_code 1 = .ok (.getfield 60, 3) := by decide +kernel
theorem d_Mod_seas_4 : decode prog_8_method_51_code 4 = .ok (.ifCond .le 24, 3) := by decide +kernel
theorem d_Mod_seas_7 : decode prog_8_method_51_code 7 = .ok (.iload_n 1, 1) := by decide +kernel
theorem d_Mod_seas_8 : decode prog_8_method_51_code 8 = .ok (.ifCond .le 20, 3) := by decide +kernel
theorem d_Mod_seas_11 : decode prog_8_method_51_code 11 = .ok (.aload_n 0, 1) := by decide +kernel
theorem d_Mod_seas_12 : decode prog_8_method_51_code 12 = .ok (.aload_n 0, 1) := by decide +kernel
theorem d_Mod_seas_13 : decode prog_8_method_51_code 13 = .ok (.getfield 28, 3) := by decide +kernel
theorem d_Mod_seas_16 : decode prog_8_method_51_code 16 = .ok (.iconst 0, 1) := by decide +kernel
theorem d_Mod_seas_17 : decode prog_8_method_51_code 17 = .ok (.invokevirtual 121, 3) := by decide +kernel
theorem d_Mod_seas_20 : decode prog_8_method_51_code 20 = .ok (.iload_n 1, 1) := by decide +kernel
theorem d_Mod_seas_21 : decode prog_8_method_51_code 21 = .ok (.if_icmp .lt 7, 3) := by decide +kernel
theorem d_Mod_seas_24 : decode prog_8_method_51_code 24 = .ok (.iconst 1, 1) := by decide +kernel
theorem d_Mod_seas_25 : decode prog_8_method_51_code 25 = .ok (.goto 4, 3) := by decide +kernel
theorem d_Mod_seas_28 : decode prog_8_method_51_code 28 = .ok (.iconst 0, 1) := by decide +kernel
theorem d_Mod_seas_29 : decode prog_8_method_51_code 29 = .ok (.istore_n 2, 1) := by decide +kernel
theorem d_Mod_seas_30 : decode prog_8_method_51_code 30 = .ok (.iload_n 2, 1) := by decide +kernel
theorem d_Mod_seas_31 : decode prog_8_method_51_code 31 = .ok (.ifCond .eq 11, 3) := by decide +kernel
theorem d_Mod_seas_34 : decode prog_8_method_51_code 34 = .ok (.aload_n 0, 1) := by decide +kernel
theorem d_Mod_seas_35 : decode prog_8_method_51_code 35 = .ok (.getfield 28, 3) := by decide +kernel
theorem d_Mod_seas_38 : decode prog_8_method_51_code 38 = .ok (.iload_n 1, 1) := by decide +kernel
theorem d_Mod_seas_39 : decode prog_8_method_51_code 39 = .ok (.invokestatic 168, 3) := by decide +kernel
theorem d_Mod_seas_42 : decode prog_8_method_51_code 42 = .ok (.iload_n 2, 1) := by decide +kernel
theorem d_Mod_seas_43 : decode prog_8_method_51_code 43 = .ok (.ireturn, 1) := by decide +kernel
theorem d_Mod_lets_0 : decode prog_8_method_52_code 0 = .ok (.aload_n 0, 1) := by decide +kernel
theorem d_Mod_lets_1 : decode prog_8_method_52_code 1 = .ok (.iload_n 1, 1) := by decide +kernel
theorem d_Mod_lets_2 : decode prog_8_method_52_code 2 = .ok (.invokevirtual 172, 3) := by decide +kernel
theorem d_Mod_lets_5 : decode prog_8_method_52_code 5 = .ok (.ifCond .ne 36, 3) := by decide +kernel
theorem d_Mod_lets_8 : decode prog_8_method_52_code 8 = .ok (.iload_n 2, 1) := by decide +kernel
theorem d_Mod_lets_9 : decode prog_8_method_52_code 9 = .ok (.ifCond .le 32, 3) := by decide +kernel
theorem d_Mod_lets_12 : decode prog_8_method_52_code 12 = .ok (.aload_n 0, 1) := by decide +kernel
theorem d_Mod_lets_13 : decode prog_8_method_52_code 13 = .ok (.getfield 28, 3) := by decide +kernel
theorem d_Mod_lets_16 : decode prog_8_method_52_code 16 = .ok (.iload_n 1, 1) := by decide +kernel
theorem d_Mod_lets_17 : decode prog_8_method_52_code 17 = .ok (.iaload, 1) := by decide +kernel
theorem d_Mod_lets_18 : decode prog_8_method_52_code 18 = .ok (.iload_n 2, 1) := by decide +kernel
theorem d_Mod_lets_19 : decode prog_8_method_52_code 19 = .ok (.if_icmp .lt 22, 3) := by decide +kernel
theorem d_Mod_lets_22 : decode prog_8_method_52_code 22 = .ok (.aload_n 0, 1) := by decide +kernel
theorem d_Mod_lets_23 : decode prog_8_method_52_code 23 = .ok (.aload_n 0, 1) := by decide +kernel
theorem d_Mod_lets_24 : decode prog_8_method_52_code 24 = .ok (.getfield 28, 3) := by decide +kernel
theorem d_Mod_lets_27 : decode prog_8_method_52_code 27 = .ok (.iload_n 1, 1) := by decide +kernel
theorem d_Mod_lets_28 : decode prog_8_method_52_code 28 = .ok (.iconst 1, 1) := by decide +kernel
theorem d_Mod_lets_29 : decode prog_8_method_52_code 29 = .ok (.iadd, 1) := by decide +kernel
theorem d_Mod_lets_30 : decode prog_8_method_52_code 30 = .ok (.invokevirtual 121, 3) := by decide +kernel
theorem d_Mod_lets_33 : decode prog_8_method_52_code 33 = .ok (.iload_n 2, 1) := by decide +kernel
theorem d_Mod_lets_34 : decode prog_8_method_52_code 34 = .ok (.if_icmp .lt 7, 3) := by decide +kernel
theorem d_Mod_lets_37 : decode prog_8_method_52_code 37 = .ok (.iconst 1, 1) := by decide +kernel
theorem d_Mod_lets_38 : decode prog_8_method_52_code 38 = .ok (.goto 4, 3) := by decide +kernel
theorem d_Mod_lets_41 : decode prog_8_method_52_code 41 = .ok (.iconst 0, 1) := by decide +kernel
theorem d_Mod_lets_42 : decode prog_8_method_52_code 42 = .ok (.istore_n 3, 1) := by decide +kernel
theorem d_Mod_lets_43 : decode prog_8_method_52_code 43 = .ok (.iload_n 3, 1) := by decide +kernel
theorem d_Mod_lets_44 : decode prog_8_method_52_code 44 = .ok (.ifCond .eq 13, 3) := by decide +kernel
theorem d_Mod_lets_47 : decode prog_8_method_52_code 47 = .ok (.aload_n 0, 1) := by decide +kernel
theorem d_Mod_lets_48 : decode prog_8_method_52_code 48 = .ok (.getfield 28, 3) := by decide +kernel
theorem d_Mod_lets_51 : decode prog_8_method_52_code 51 = .ok (.iload_n 1, 1) := by decide +kernel
theorem d_Mod_lets_52 : decode prog_8_method_52_code 52 = .ok (.iload_n 2, 1) := by decide +kernel
theorem d_Mod_lets_53 : decode prog_8_method_52_code 53 = .ok (.invokestatic 128, 3) := by decide +kernel
theorem d_Mod_lets_56 : decode prog_8_method_52_code 56 = .ok (.pop, 1) := by decide +kernel
theorem d_Mod_lets_57 : decode prog_8_method_52_code 57 = .ok (.iload_n 3, 1) := by decide +kernel
theorem d_Mod_lets_58 : decode prog_8_method_52_code 58 = .ok (.ireturn, 1) := by decide +kernel
theorem d_Mod_turns_0 : decode prog_8_method_53_code 0 = .ok (.aload_n 0, 1) := by decide +kernel
theorem d_Mod_turns_1 : decode prog_8_method_53_code 1 = .ok (.iload_n 1, 1) := by decide +kernel
theorem d_Mod_turns_2 : decode prog_8_method_53_code 2 = .ok (.invokevirtual 172, 3) := by decide +kernel
theorem d_Mod_turns_5 : decode prog_8_method_53_code 5 = .ok (.ifCond .ne 7, 3) := by decide +kernel
theorem d_Mod_turns_8 : decode prog_8_method_53_code 8 = .ok (.iconst 1, 1) := by decide +kernel
theorem d_Mod_turns_9 : decode prog_8_method_53_code 9 = .ok (.goto 4, 3) := by decide +kernel
theorem d_Mod_turns_12 : decode prog_8_method_53_code 12 = .ok (.iconst 0, 1) := by decide +kernel
theorem d_Mod_turns_13 : decode prog_8_method_53_code 13 = .ok (.istore_n 2, 1) := by decide +kernel
theorem d_Mod_turns_14 : decode prog_8_method_53_code 14 = .ok (.aload_n 0, 1) := by decide +kernel
theorem d_Mod_turns_15 : decode prog_8_method_53_code 15 = .ok (.getfield 28, 3) := by decide +kernel
theorem d_Mod_turns_18 : decode prog_8_method_53_code 18 = .ok (.bipush 12, 2) := by decide +kernel
theorem d_Mod_turns_20 : decode prog_8_method_53_code 20 = .ok (.dup2, 1) := by decide +kernel
theorem d_Mod_turns_21 : decode prog_8_method_53_code 21 = .ok (.iaload, 1) := by decide +kernel
theorem d_Mod_turns_22 : decode prog_8_method_53_code 22 = .ok (.iload_n 2, 1) := by decide +kernel
theorem d_Mod_turns_23 : decode prog_8_method_53_code 23 = .ok (.ifCond .eq 9, 3) := by decide +kernel
theorem d_Mod_turns_26 : decode prog_8_method_53_code 26 = .ok (.iconst 1, 1) := by decide +kernel
theorem d_Mod_turns_27 : decode prog_8_method_53_code 27 = .ok (.iload_n 1, 1) := by decide +kernel
theorem d_Mod_turns_28 : decode prog_8_method_53_code 28 = .ok (.ishl, 1) := by decide +kernel
theorem d_Mod_turns_29 : decode prog_8_method_53_code 29 = .ok (.goto 4, 3) := by decide +kernel
theorem d_Mod_turns_32 : decode prog_8_method_53_code 32 = .ok (.iconst 0, 1) := by decide +kernel
theorem d_Mod_turns_33 : decode prog_8_method_53_code 33 = .ok (.ixor, 1) := by decide +kernel
theorem d_Mod_turns_34 : decode prog_8_method_53_code 34 = .ok (.iastore, 1) := by decide +kernel
theorem d_Mod_turns_35 : decode prog_8_method_53_code 35 = .ok (.iload_n 2, 1) := by decide +kernel
theorem d_Mod_turns_36 : decode prog_8_method_53_code 36 = .ok (.ireturn, 1) := by decide +kernel
theorem d_Mod_rakes_0 : decode prog_8_method_54_code 0 = .ok (.aload_n 0, 1) := by decide +kernel
theorem d_Mod_rakes_1 : decode prog_8_method_54_code 1 = .ok (.iload_n 1, 1) := by decide +kernel
theorem d_Mod_rakes_2 : decode prog_8_method_54_code 2 = .ok (.invokevirtual 159, 3) := by decide +kernel
theorem d_Mod_rakes_5 : decode prog_8_method_54_code 5 = .ok (.ifCond .ne 18, 3) := by decide +kernel
theorem d_Mod_rakes_8 : decode prog_8_method_54_code 8 = .ok (.aload_n 0, 1) := by decide +kernel
theorem d_Mod_rakes_9 : decode prog_8_method_54_code 9 = .ok (.getfield 28, 3) := by decide +kernel
theorem d_Mod_rakes_12 : decode prog_8_method_54_code 12 = .ok (.iload_n 1, 1) := by decide +kernel
theorem d_Mod_rakes_13 : decode prog_8_method_54_code 13 = .ok (.invokestatic 142, 3) := by decide +kernel
theorem d_Mod_rakes_16 : decode prog_8_method_54_code 16 = .ok (.ifCond .eq 7, 3) := by decide +kernel
theorem d_Mod_rakes_19 : decode prog_8_method_54_code 19 = .ok (.iconst 1, 1) := by decide +kernel
theorem d_Mod_rakes_20 : decode prog_8_method_54_code 20 = .ok (.goto 4, 3) := by decide +kernel
theorem d_Mod_rakes_23 : decode prog_8_method_54_code 23 = .ok (.iconst 0, 1) := by decide +kernel
theorem d_Mod_rakes_24 : decode prog_8_method_54_code 24 = .ok (.istore_n 2, 1) := by decide +kernel
theorem d_Mod_rakes_25 : decode prog_8_method_54_code 25 = .ok (.iload_n 2, 1) := by decide +kernel
theorem d_Mod_rakes_26 : decode prog_8_method_54_code 26 = .ok (.ifCond .eq 12, 3) := by decide +kernel
theorem d_Mod_rakes_29 : decode prog_8_method_54_code 29 = .ok (.aload_n 0, 1) := by decide +kernel
theorem d_Mod_rakes_30 : decode prog_8_method_54_code 30 = .ok (.getfield 28, 3) := by decide +kernel
theorem d_Mod_rakes_33 : decode prog_8_method_54_code 33 = .ok (.iload_n 1, 1) := by decide +kernel
theorem d_Mod_rakes_34 : decode prog_8_method_54_code 34 = .ok (.invokestatic 175, 3) := by decide +kernel
theorem d_Mod_rakes_37 : decode prog_8_method_54_code 37 = .ok (.pop, 1) := by decide +kernel
theorem d_Mod_rakes_38 : decode prog_8_method_54_code 38 = .ok (.iload_n 2, 1) := by decide +kernel
theorem d_Mod_rakes_39 : decode prog_8_method_54_code 39 = .ok (.ireturn, 1) := by decide +kernel
theorem d_Mod_does_0 : decode prog_8_method_55_code 0 = .ok (.iload_n 1, 1) := by decide +kernel
theorem d_Mod_does_1 : decode prog_8_method_55_code 1 = .ok (.bipush 100, 2) := by decide +kernel
theorem d_Mod_does_3 : decode prog_8_method_55_code 3 = .ok (.idiv, 1) := by decide +kernel
theorem d_Mod_does_4 : decode prog_8_method_55_code 4 = .ok (.istore_n 2, 1) := by decide +kernel
theorem d_Mod_does_5 : decode prog_8_method_55_code 5 = .ok (.iload_n 1, 1) := by decide +kernel
theorem d_Mod_does_6 : decode prog_8_method_55_code 6 = .ok (.bipush 10, 2) := by decide +kernel
theorem d_Mod_does_8 : decode prog_8_method_55_code 8 = .ok (.idiv, 1) := by decide +kernel
theorem d_Mod_does_9 : decode prog_8_method_55_code 9 = .ok (.bipush 10, 2) := by decide +kernel
theorem d_Mod_does_11 : decode prog_8_method_55_code 11 = .ok (.irem, 1) := by decide +kernel
theorem d_Mod_does_12 : decode prog_8_method_55_code 12 = .ok (.istore_n 3, 1) := by decide +kernel
theorem d_Mod_does_13 : decode prog_8_method_55_code 13 = .ok (.iload_n 1, 1) := by decide +kernel
theorem d_Mod_does_14 : decode prog_8_method_55_code 14 = .ok (.bipush 10, 2) := by decide +kernel
theorem d_Mod_does_16 : decode prog_8_method_55_code 16 = .ok (.irem, 1) := by decide +kernel
theorem d_Mod_does_17 : decode prog_8_method_55_code 17 = .ok (.istore 4, 2) := by decide +kernel
theorem d_Mod_does_19 : decode prog_8_method_55_code 19 = .ok (.iload_n 1, 1) := by decide +kernel
theorem d_Mod_does_20 : decode prog_8_method_55_code 20 = .ok (.ifCond .ne 14, 3) := by decide +kernel
theorem d_Mod_does_23 : decode prog_8_method_55_code 23 = .ok (.aload_n 0, 1) := by decide +kernel
theorem d_Mod_does_24 : decode prog_8_method_55_code 24 = .ok (.aload_n 0, 1) := by decide +kernel
theorem d_Mod_does_25 : decode prog_8_method_55_code 25 = .ok (.getfield 28, 3) := by decide +kernel
theorem d_Mod_does_28 : decode prog_8_method_55_code 28 = .ok (.iconst 1, 1) := by decide +kernel
theorem d_Mod_does_29 : decode prog_8_method_55_code 29 = .ok (.invokevirtual 138, 3) := by decide +kernel
theorem d_Mod_does_32 : decode prog_8_method_55_code 32 = .ok (.iconst 1, 1) := by decide +kernel
theorem d_Mod_does_33 : decode prog_8_method_55_code 33 = .ok (.ireturn, 1) := by decide +kernel
theorem d_Mod_does_34 : decode prog_8_method_55_code 34 = .ok (.iload_n 2, 1) := by decide +kernel
theorem d_Mod_does_35 : decode prog_8_method_55_code 35 = .ok (.tableswitch 123 1 5 #[33, 52, 60, 79, 98], 33) := by decide +kernel
theorem d_Mod_does_68 : decode prog_8_method_55_code 68 = .ok (.iload_n 3, 1) := by decide +kernel
theorem d_Mod_does_69 : decode prog_8_method_55_code 69 = .ok (.ifCond .ne 16, 3) := by decide +kernel
theorem d_Mod_does_72 : decode prog_8_method_55_code 72 = .ok (.aload_n 0, 1) := by decide +kernel
theorem d_Mod_does_73 : decode prog_8_method_55_code 73 = .ok (.iload 4, 2) := by decide +kernel
theorem d_Mod_does_75 : decode prog_8_method_55_code 75 = .ok (.invokevirtual 203, 3) := by decide +kernel
theorem d_Mod_does_78 : decode prog_8_method_55_code 78 = .ok (.ifCond .eq 7, 3) := by decide +kernel
theorem d_Mod_does_81 : decode prog_8_method_55_code 81 = .ok (.iconst 1, 1) := by decide +kernel
theorem d_Mod_does_82 : decode prog_8_method_55_code 82 = .ok (.goto 4, 3) := by decide +kernel
theorem d_Mod_does_85 : decode prog_8_method_55_code 85 = .ok (.iconst 0, 1) := by decide +kernel
theorem d_Mod_does_86 : decode prog_8_method_55_code 86 = .ok (.ireturn, 1) := by decide +kernel
theorem d_Mod_does_87 : decode prog_8_method_55_code 87 = .ok (.aload_n 0, 1) := by decide +kernel
theorem d_Mod_does_88 : decode prog_8_method_55_code 88 = .ok (.iload_n 3, 1) := by decide +kernel
theorem d_Mod_does_89 : decode prog_8_method_55_code 89 = .ok (.iload 4, 2) := by decide +kernel
theorem d_Mod_does_91 : decode prog_8_method_55_code 91 = .ok (.invokevirtual 206, 3) := by decide +kernel
theorem d_Mod_does_94 : decode prog_8_method_55_code 94 = .ok (.ireturn, 1) := by decide +kernel
theorem d_Mod_does_95 : decode prog_8_method_55_code 95 = .ok (.iload_n 3, 1) := by decide +kernel
theorem d_Mod_does_96 : decode prog_8_method_55_code 96 = .ok (.ifCond .ne 16, 3) := by decide +kernel
theorem d_Mod_does_99 : decode prog_8_method_55_code 99 = .ok (.aload_n 0, 1) := by decide +kernel
theorem d_Mod_does_100 : decode prog_8_method_55_code 100 = .ok (.iload 4, 2) := by decide +kernel
theorem d_Mod_does_102 : decode prog_8_method_55_code 102 = .ok (.invokevirtual 209, 3) := by decide +kernel
theorem d_Mod_does_105 : decode prog_8_method_55_code 105 = .ok (.ifCond .eq 7, 3) := by decide +kernel
theorem d_Mod_does_108 : decode prog_8_method_55_code 108 = .ok (.iconst 1, 1) := by decide +kernel
theorem d_Mod_does_109 : decode prog_8_method_55_code 109 = .ok (.goto 4, 3) := by decide +kernel
theorem d_Mod_does_112 : decode prog_8_method_55_code 112 = .ok (.iconst 0, 1) := by decide +kernel
theorem d_Mod_does_113 : decode prog_8_method_55_code 113 = .ok (.ireturn, 1) := by decide +kernel
theorem d_Mod_does_114 : decode prog_8_method_55_code 114 = .ok (.iload_n 3, 1) := by decide +kernel
theorem d_Mod_does_115 : decode prog_8_method_55_code 115 = .ok (.ifCond .ne 16, 3) := by decide +kernel
theorem d_Mod_does_118 : decode prog_8_method_55_code 118 = .ok (.aload_n 0, 1) := by decide +kernel
theorem d_Mod_does_119 : decode prog_8_method_55_code 119 = .ok (.iload 4, 2) := by decide +kernel
theorem d_Mod_does_121 : decode prog_8_method_55_code 121 = .ok (.invokevirtual 212, 3) := by decide +kernel
theorem d_Mod_does_124 : decode prog_8_method_55_code 124 = .ok (.ifCond .eq 7, 3) := by decide +kernel
theorem d_Mod_does_127 : decode prog_8_method_55_code 127 = .ok (.iconst 1, 1) := by decide +kernel
theorem d_Mod_does_128 : decode prog_8_method_55_code 128 = .ok (.goto 4, 3) := by decide +kernel
theorem d_Mod_does_131 : decode prog_8_method_55_code 131 = .ok (.iconst 0, 1) := by decide +kernel
theorem d_Mod_does_132 : decode prog_8_method_55_code 132 = .ok (.ireturn, 1) := by decide +kernel
theorem d_Mod_does_133 : decode prog_8_method_55_code 133 = .ok (.aload_n 0, 1) := by decide +kernel
theorem d_Mod_does_134 : decode prog_8_method_55_code 134 = .ok (.iload_n 3, 1) := by decide +kernel
theorem d_Mod_does_135 : decode prog_8_method_55_code 135 = .ok (.invokevirtual 159, 3) := by decide +kernel
theorem d_Mod_does_138 : decode prog_8_method_55_code 138 = .ok (.ifCond .ne 18, 3) := by decide +kernel
theorem d_Mod_does_141 : decode prog_8_method_55_code 141 = .ok (.aload_n 0, 1) := by decide +kernel
theorem d_Mod_does_142 : decode prog_8_method_55_code 142 = .ok (.getfield 28, 3) := by decide +kernel
theorem d_Mod_does_145 : decode prog_8_method_55_code 145 = .ok (.iload_n 3, 1) := by decide +kernel
theorem d_Mod_does_146 : decode prog_8_method_55_code 146 = .ok (.iaload, 1) := by decide +kernel
theorem d_Mod_does_147 : decode prog_8_method_55_code 147 = .ok (.iload 4, 2) := by decide +kernel
theorem d_Mod_does_149 : decode prog_8_method_55_code 149 = .ok (.if_icmp .lt 7, 3) := by decide +kernel
theorem d_Mod_does_152 : decode prog_8_method_55_code 152 = .ok (.iconst 1, 1) := by decide +kernel
theorem d_Mod_does_153 : decode prog_8_method_55_code 153 = .ok (.goto 4, 3) := by decide +kernel
theorem d_Mod_does_156 : decode prog_8_method_55_code 156 = .ok (.iconst 0, 1) := by decide +kernel
theorem d_Mod_does_157 : decode prog_8_method_55_code 157 = .ok (.ireturn, 1) := by decide +kernel
theorem d_Mod_does_158 : decode prog_8_method_55_code 158 = .ok (.iload_n 2, 1) := by decide +kernel
theorem d_Mod_does_159 : decode prog_8_method_55_code 159 = .ok (.bipush 6, 2) := by decide +kernel
theorem d_Mod_does_161 : decode prog_8_method_55_code 161 = .ok (.if_icmp .ne 31, 3) := by decide +kernel
theorem d_Mod_does_164 : decode prog_8_method_55_code 164 = .ok (.aload_n 0, 1) := by decide +kernel
theorem d_Mod_does_165 : decode prog_8_method_55_code 165 = .ok (.iload_n 3, 1) := by decide +kernel
theorem d_Mod_does_166 : decode prog_8_method_55_code 166 = .ok (.invokevirtual 159, 3) := by decide +kernel
theorem d_Mod_does_169 : decode prog_8_method_55_code 169 = .ok (.ifCond .ne 23, 3) := by decide +kernel
theorem d_Mod_does_172 : decode prog_8_method_55_code 172 = .ok (.aload_n 0, 1) := by decide +kernel
theorem d_Mod_does_173 : decode prog_8_method_55_code 173 = .ok (.getfield 28, 3) := by decide +kernel
theorem d_Mod_does_176 : decode prog_8_method_55_code 176 = .ok (.iload_n 3, 1) := by decide +kernel
theorem d_Mod_does_177 : decode prog_8_method_55_code 177 = .ok (.invokestatic 110, 3) := by decide +kernel
theorem d_Mod_does_180 : decode prog_8_method_55_code 180 = .ok (.bipush 10, 2) := by decide +kernel
theorem d_Mod_does_182 : decode prog_8_method_55_code 182 = .ok (.iload 4, 2) := by decide +kernel
theorem d_Mod_does_184 : decode prog_8_method_55_code 184 = .ok (.imul, 1) := by decide +kernel
theorem d_Mod_does_185 : decode prog_8_method_55_code 185 = .ok (.if_icmp .lt 7, 3) := by decide +kernel
theorem d_Mod_does_188 : decode prog_8_method_55_code 188 = .ok (.iconst 1, 1) := by decide +kernel
theorem d_Mod_does_189 : decode prog_8_method_55_code 189 = .ok (.goto 4, 3) := by decide +kernel
theorem d_Mod_does_192 : decode prog_8_method_55_code 192 = .ok (.iconst 0, 1) := by decide +kernel
theorem d_Mod_does_193 : decode prog_8_method_55_code 193 = .ok (.ireturn, 1) := by decide +kernel
theorem d_Mod_judge_0 : decode prog_8_method_56_code 0 = .ok (.aload_n 0, 1) := by decide +kernel
theorem d_Mod_judge_1 : decode prog_8_method_56_code 1 = .ok (.iconst 0, 1) := by decide +kernel
theorem d_Mod_judge_2 : decode prog_8_method_56_code 2 = .ok (.putfield 56, 3) := by decide +kernel
theorem d_Mod_judge_5 : decode prog_8_method_56_code 5 = .ok (.iload_n 1, 1) := by decide +kernel
theorem d_Mod_judge_6 : decode prog_8_method_56_code 6 = .ok (.i2l, 1) := by decide +kernel
theorem d_Mod_judge_7 : decode prog_8_method_56_code 7 = .ok (.lconst 1, 1) := by decide +kernel
theorem d_Mod_judge_8 : decode prog_8_method_56_code 8 = .ok (.ldc2_w 215, 3) := by decide +kernel
theorem d_Mod_judge_11 : decode prog_8_method_56_code 11 = .ok (.invokestatic 63, 3) := by decide +kernel
theorem d_Mod_judge_14 : decode prog_8_method_56_code 14 = .ok (.ifCond .eq 20, 3) := by decide +kernel
theorem d_Mod_judge_17 : decode prog_8_method_56_code 17 = .ok (.lload_n 2, 1) := by decide +kernel
theorem d_Mod_judge_18 : decode prog_8_method_56_code 18 = .ok (.lconst 0, 1) := by decide +kernel
theorem d_Mod_judge_19 : decode prog_8_method_56_code 19 = .ok (.ldc2_w 217, 3) := by decide +kernel
theorem d_Mod_judge_22 : decode prog_8_method_56_code 22 = .ok (.iload_n 1, 1) := by decide +kernel
theorem d_Mod_judge_23 : decode prog_8_method_56_code 23 = .ok (.invokestatic 219, 3) := by decide +kernel
theorem d_Mod_judge_26 : decode prog_8_method_56_code 26 = .ok (.lconst 1, 1) := by decide +kernel
theorem d_Mod_judge_27 : decode prog_8_method_56_code 27 = .ok (.lsub, 1) := by decide +kernel
theorem d_Mod_judge_28 : decode prog_8_method_56_code 28 = .ok (.invokestatic 63, 3) := by decide +kernel
theorem d_Mod_judge_31 : decode prog_8_method_56_code 31 = .ok (.ifCond .ne 6, 3) := by decide +kernel
theorem d_Mod_judge_34 : decode prog_8_method_56_code 34 = .ok (.bipush (-2), 2) := by decide +kernel
theorem d_Mod_judge_36 : decode prog_8_method_56_code 36 = .ok (.ireturn, 1) := by decide +kernel
theorem d_Mod_judge_37 : decode prog_8_method_56_code 37 = .ok (.aload_n 0, 1) := by decide +kernel
theorem d_Mod_judge_38 : decode prog_8_method_56_code 38 = .ok (.invokevirtual 182, 3) := by decide +kernel
theorem d_Mod_judge_41 : decode prog_8_method_56_code 41 = .ok (.iconst 0, 1) := by decide +kernel
theorem d_Mod_judge_42 : decode prog_8_method_56_code 42 = .ok (.istore 4, 2) := by decide +kernel
theorem d_Mod_judge_44 : decode prog_8_method_56_code 44 = .ok (.iload 4, 2) := by decide +kernel
theorem d_Mod_judge_46 : decode prog_8_method_56_code 46 = .ok (.iload_n 1, 1) := by decide +kernel
theorem d_Mod_judge_47 : decode prog_8_method_56_code 47 = .ok (.if_icmp .ge 38, 3) := by decide +kernel
theorem d_Mod_judge_50 : decode prog_8_method_56_code 50 = .ok (.aload_n 0, 1) := by decide +kernel
theorem d_Mod_judge_51 : decode prog_8_method_56_code 51 = .ok (.lload_n 2, 1) := by decide +kernel
theorem d_Mod_judge_52 : decode prog_8_method_56_code 52 = .ok (.ldc2_w 217, 3) := by decide +kernel
theorem d_Mod_judge_55 : decode prog_8_method_56_code 55 = .ok (.iload_n 1, 1) := by decide +kernel
theorem d_Mod_judge_56 : decode prog_8_method_56_code 56 = .ok (.iconst 1, 1) := by decide +kernel
theorem d_Mod_judge_57 : decode prog_8_method_56_code 57 = .ok (.isub, 1) := by decide +kernel
theorem d_Mod_judge_58 : decode prog_8_method_56_code 58 = .ok (.iload 4, 2) := by decide +kernel
theorem d_Mod_judge_60 : decode prog_8_method_56_code 60 = .ok (.isub, 1) := by decide +kernel
theorem d_Mod_judge_61 : decode prog_8_method_56_code 61 = .ok (.invokestatic 219, 3) := by decide +kernel
theorem d_Mod_judge_64 : decode prog_8_method_56_code 64 = .ok (.ldiv, 1) := by decide +kernel
theorem d_Mod_judge_65 : decode prog_8_method_56_code 65 = .ok (.ldc2_w 217, 3) := by decide +kernel
theorem d_Mod_judge_68 : decode prog_8_method_56_code 68 = .ok (.lrem, 1) := by decide +kernel
theorem d_Mod_judge_69 : decode prog_8_method_56_code 69 = .ok (.l2i, 1) := by decide +kernel
theorem d_Mod_judge_70 : decode prog_8_method_56_code 70 = .ok (.invokevirtual 223, 3) := by decide +kernel
theorem d_Mod_judge_73 : decode prog_8_method_56_code 73 = .ok (.ifCond .ne 6, 3) := by decide +kernel
theorem d_Mod_judge_76 : decode prog_8_method_56_code 76 = .ok (.iload 4, 2) := by decide +kernel
theorem d_Mod_judge_78 : decode prog_8_method_56_code 78 = .ok (.ireturn, 1) := by decide +kernel
theorem d_Mod_judge_79 : decode prog_8_method_56_code 79 = .ok (.iinc 4 1, 3) := by decide +kernel
theorem d_Mod_judge_82 : decode prog_8_method_56_code 82 = .ok (.goto (-38), 3) := by decide +kernel
theorem d_Mod_judge_85 : decode prog_8_method_56_code 85 = .ok (.bipush (-9), 2) := by decide +kernel
theorem d_Mod_judge_87 : decode prog_8_method_56_code 87 = .ok (.ireturn, 1) := by decide +kernel
theorem d_Mod_ways_0 : decode prog_8_method_57_code 0 = .ok (.iconst 1, 1) := by decide +kernel
theorem d_Mod_ways_1 : decode prog_8_method_57_code 1 = .ok (.istore_n 1, 1) := by decide +kernel
theorem d_Mod_ways_2 : decode prog_8_method_57_code 2 = .ok (.iconst 2, 1) := by decide +kernel
theorem d_Mod_ways_3 : decode prog_8_method_57_code 3 = .ok (.istore_n 2, 1) := by decide +kernel
theorem d_Mod_ways_4 : decode prog_8_method_57_code 4 = .ok (.iload_n 2, 1) := by decide +kernel
theorem d_Mod_ways_5 : decode prog_8_method_57_code 5 = .ok (.iload_n 0, 1) := by decide +kernel
theorem d_Mod_ways_6 : decode prog_8_method_57_code 6 = .ok (.if_icmp .gt 13, 3) := by decide +kernel
theorem d_Mod_ways_9 : decode prog_8_method_57_code 9 = .ok (.iload_n 1, 1) := by decide +kernel
theorem d_Mod_ways_10 : decode prog_8_method_57_code 10 = .ok (.iload_n 2, 1) := by decide +kernel
theorem d_Mod_ways_11 : decode prog_8_method_57_code 11 = .ok (.imul, 1) := by decide +kernel
theorem d_Mod_ways_12 : decode prog_8_method_57_code 12 = .ok (.istore_n 1, 1) := by decide +kernel
theorem d_Mod_ways_13 : decode prog_8_method_57_code 13 = .ok (.iinc 2 1, 3) := by decide +kernel
theorem d_Mod_ways_16 : decode prog_8_method_57_code 16 = .ok (.goto (-12), 3) := by decide +kernel
theorem d_Mod_ways_19 : decode prog_8_method_57_code 19 = .ok (.iload_n 1, 1) := by decide +kernel
theorem d_Mod_ways_20 : decode prog_8_method_57_code 20 = .ok (.ireturn, 1) := by decide +kernel
theorem d_Mod_divisor_0 : decode prog_8_method_58_code 0 = .ok (.iload_n 0, 1) := by decide +kernel
theorem d_Mod_divisor_1 : decode prog_8_method_58_code 1 = .ok (.ifCond .ge 8, 3) := by decide +kernel
theorem d_Mod_divisor_4 : decode prog_8_method_58_code 4 = .ok (.iload_n 0, 1) := by decide +kernel
theorem d_Mod_divisor_5 : decode prog_8_method_58_code 5 = .ok (.ineg, 1) := by decide +kernel
theorem d_Mod_divisor_6 : decode prog_8_method_58_code 6 = .ok (.goto 4, 3) := by decide +kernel
theorem d_Mod_divisor_9 : decode prog_8_method_58_code 9 = .ok (.iload_n 0, 1) := by decide +kernel
theorem d_Mod_divisor_10 : decode prog_8_method_58_code 10 = .ok (.istore_n 2, 1) := by decide +kernel
theorem d_Mod_divisor_11 : decode prog_8_method_58_code 11 = .ok (.iload_n 1, 1) := by decide +kernel
theorem d_Mod_divisor_12 : decode prog_8_method_58_code 12 = .ok (.istore_n 3, 1) := by decide +kernel
theorem d_Mod_divisor_13 : decode prog_8_method_58_code 13 = .ok (.iload_n 3, 1) := by decide +kernel
theorem d_Mod_divisor_14 : decode prog_8_method_58_code 14 = .ok (.ifCond .eq 16, 3) := by decide +kernel
theorem d_Mod_divisor_17 : decode prog_8_method_58_code 17 = .ok (.iload_n 2, 1) := by decide +kernel
theorem d_Mod_divisor_18 : decode prog_8_method_58_code 18 = .ok (.iload_n 3, 1) := by decide +kernel
theorem d_Mod_divisor_19 : decode prog_8_method_58_code 19 = .ok (.irem, 1) := by decide +kernel
theorem d_Mod_divisor_20 : decode prog_8_method_58_code 20 = .ok (.istore 4, 2) := by decide +kernel
theorem d_Mod_divisor_22 : decode prog_8_method_58_code 22 = .ok (.iload_n 3, 1) := by decide +kernel
theorem d_Mod_divisor_23 : decode prog_8_method_58_code 23 = .ok (.istore_n 2, 1) := by decide +kernel
theorem d_Mod_divisor_24 : decode prog_8_method_58_code 24 = .ok (.iload 4, 2) := by decide +kernel
theorem d_Mod_divisor_26 : decode prog_8_method_58_code 26 = .ok (.istore_n 3, 1) := by decide +kernel
theorem d_Mod_divisor_27 : decode prog_8_method_58_code 27 = .ok (.goto (-14), 3) := by decide +kernel
theorem d_Mod_divisor_30 : decode prog_8_method_58_code 30 = .ok (.iload_n 2, 1) := by decide +kernel
theorem d_Mod_divisor_31 : decode prog_8_method_58_code 31 = .ok (.ireturn, 1) := by decide +kernel
theorem d_Mod_fraction_0 : decode prog_8_method_59_code 0 = .ok (.iload_n 0, 1) := by decide +kernel
theorem d_Mod_fraction_1 : decode prog_8_method_59_code 1 = .ok (.iload_n 1, 1) := by decide +kernel
theorem d_Mod_fraction_2 : decode prog_8_method_59_code 2 = .ok (.invokestatic 226, 3) := by decide +kernel
theorem d_Mod_fraction_5 : decode prog_8_method_59_code 5 = .ok (.istore_n 3, 1) := by decide +kernel
theorem d_Mod_fraction_6 : decode prog_8_method_59_code 6 = .ok (.iload_n 2, 1) := by decide +kernel
theorem d_Mod_fraction_7 : decode prog_8_method_59_code 7 = .ok (.ifCond .eq 9, 3) := by decide +kernel
theorem d_Mod_fraction_10 : decode prog_8_method_59_code 10 = .ok (.iload_n 0, 1) := by decide +kernel
theorem d_Mod_fraction_11 : decode prog_8_method_59_code 11 = .ok (.iload_n 3, 1) := by decide +kernel
theorem d_Mod_fraction_12 : decode prog_8_method_59_code 12 = .ok (.idiv, 1) := by decide +kernel
theorem d_Mod_fraction_13 : decode prog_8_method_59_code 13 = .ok (.goto 6, 3) := by decide +kernel
theorem d_Mod_fraction_16 : decode prog_8_method_59_code 16 = .ok (.iload_n 1, 1) := by decide +kernel
theorem d_Mod_fraction_17 : decode prog_8_method_59_code 17 = .ok (.iload_n 3, 1) := by decide +kernel
theorem d_Mod_fraction_18 : decode prog_8_method_59_code 18 = .ok (.idiv, 1) := by decide +kernel
theorem d_Mod_fraction_19 : decode prog_8_method_59_code 19 = .ok (.ireturn, 1) := by decide +kernel
theorem d_Mod_share_0 : decode prog_8_method_60_code 0 = .ok (.aload_n 0, 1) := by decide +kernel
theorem d_Mod_share_1 : decode prog_8_method_60_code 1 = .ok (.iconst 0, 1) := by decide +kernel
theorem d_Mod_share_2 : decode prog_8_method_60_code 2 = .ok (.putfield 56, 3) := by decide +kernel
theorem d_Mod_share_5 : decode prog_8_method_60_code 5 = .ok (.aload_n 0, 1) := by decide +kernel
theorem d_Mod_share_6 : decode prog_8_method_60_code 6 = .ok (.iload_n 1, 1) := by decide +kernel
theorem d_Mod_share_7 : decode prog_8_method_60_code 7 = .ok (.invokevirtual 159, 3) := by decide +kernel
theorem d_Mod_share_10 : decode prog_8_method_60_code 10 = .ok (.ifCond .eq 5, 3) := by decide +kernel
theorem d_Mod_share_13 : decode prog_8_method_60_code 13 = .ok (.iconst (-1), 1) := by decide +kernel
theorem d_Mod_share_14 : decode prog_8_method_60_code 14 = .ok (.ireturn, 1) := by decide +kernel
theorem d_Mod_share_15 : decode prog_8_method_60_code 15 = .ok (.iconst 0, 1) := by decide +kernel
theorem d_Mod_share_16 : decode prog_8_method_60_code 16 = .ok (.istore_n 3, 1) := by decide +kernel
theorem d_Mod_share_17 : decode prog_8_method_60_code 17 = .ok (.iload_n 3, 1) := by decide +kernel
theorem d_Mod_share_18 : decode prog_8_method_60_code 18 = .ok (.iconst 1, 1) := by decide +kernel
theorem d_Mod_share_19 : decode prog_8_method_60_code 19 = .ok (.aload_n 0, 1) := by decide +kernel
theorem d_Mod_share_20 : decode prog_8_method_60_code 20 = .ok (.getfield 60, 3) := by decide +kernel
theorem d_Mod_share_23 : decode prog_8_method_60_code 23 = .ok (.ishl, 1) := by decide +kernel
theorem d_Mod_share_24 : decode prog_8_method_60_code 24 = .ok (.if_icmp .ge 114, 3) := by decide +kernel
theorem d_Mod_share_27 : decode prog_8_method_60_code 27 = .ok (.aload_n 0, 1) := by decide +kernel
theorem d_Mod_share_28 : decode prog_8_method_60_code 28 = .ok (.invokevirtual 182, 3) := by decide +kernel
theorem d_Mod_share_31 : decode prog_8_method_60_code 31 = .ok (.iconst 0, 1) := by decide +kernel
theorem d_Mod_share_32 : decode prog_8_method_60_code 32 = .ok (.istore 4, 2) := by decide +kernel
theorem d_Mod_share_34 : decode prog_8_method_60_code 34 = .ok (.iload 4, 2) := by decide +kernel
theorem d_Mod_share_36 : decode prog_8_method_60_code 36 = .ok (.aload_n 0, 1) := by decide +kernel
theorem d_Mod_share_37 : decode prog_8_method_60_code 37 = .ok (.getfield 60, 3) := by decide +kernel
theorem d_Mod_share_40 : decode prog_8_method_60_code 40 = .ok (.if_icmp .ge 69, 3) := by decide +kernel
theorem d_Mod_share_43 : decode prog_8_method_60_code 43 = .ok (.aload_n 0, 1) := by decide +kernel
theorem d_Mod_share_44 : decode prog_8_method_60_code 44 = .ok (.getfield 28, 3) := by decide +kernel
theorem d_Mod_share_47 : decode prog_8_method_60_code 47 = .ok (.iload 4, 2) := by decide +kernel
theorem d_Mod_share_49 : decode prog_8_method_60_code 49 = .ok (.iload_n 3, 1) := by decide +kernel
theorem d_Mod_share_50 : decode prog_8_method_60_code 50 = .ok (.iload 4, 2) := by decide +kernel
theorem d_Mod_share_52 : decode prog_8_method_60_code 52 = .ok (.invokestatic 124, 3) := by decide +kernel
theorem d_Mod_share_55 : decode prog_8_method_60_code 55 = .ok (.ifCond .eq 13, 3) := by decide +kernel
theorem d_Mod_share_58 : decode prog_8_method_60_code 58 = .ok (.aload_n 0, 1) := by decide +kernel
theorem d_Mod_share_59 : decode prog_8_method_60_code 59 = .ok (.getfield 28, 3) := by decide +kernel
theorem d_Mod_share_62 : decode prog_8_method_60_code 62 = .ok (.iload 4, 2) := by decide +kernel
theorem d_Mod_share_64 : decode prog_8_method_60_code 64 = .ok (.iaload, 1) := by decide +kernel
theorem d_Mod_share_65 : decode prog_8_method_60_code 65 = .ok (.goto 4, 3) := by decide +kernel
theorem d_Mod_share_68 : decode prog_8_method_60_code 68 = .ok (.iconst 0, 1) := by decide +kernel
theorem d_Mod_share_69 : decode prog_8_method_60_code 69 = .ok (.iastore, 1) := by decide +kernel
theorem d_Mod_share_70 : decode prog_8_method_60_code 70 = .ok (.aload_n 0, 1) := by decide +kernel
theorem d_Mod_share_71 : decode prog_8_method_60_code 71 = .ok (.getfield 28, 3) := by decide +kernel
theorem d_Mod_share_74 : decode prog_8_method_60_code 74 = .ok (.bipush 6, 2) := by decide +kernel
theorem d_Mod_share_76 : decode prog_8_method_60_code 76 = .ok (.iload 4, 2) := by decide +kernel
theorem d_Mod_share_78 : decode prog_8_method_60_code 78 = .ok (.iadd, 1) := by decide +kernel
theorem d_Mod_share_79 : decode prog_8_method_60_code 79 = .ok (.iload_n 3, 1) := by decide +kernel
theorem d_Mod_share_80 : decode prog_8_method_60_code 80 = .ok (.iload 4, 2) := by decide +kernel
theorem d_Mod_share_82 : decode prog_8_method_60_code 82 = .ok (.invokestatic 124, 3) := by decide +kernel
theorem d_Mod_share_85 : decode prog_8_method_60_code 85 = .ok (.ifCond .eq 16, 3) := by decide +kernel
theorem d_Mod_share_88 : decode prog_8_method_60_code 88 = .ok (.aload_n 0, 1) := by decide +kernel
theorem d_Mod_share_89 : decode prog_8_method_60_code 89 = .ok (.getfield 28, 3) := by decide +kernel
theorem d_Mod_share_92 : decode prog_8_method_60_code 92 = .ok (.bipush 6, 2) := by decide +kernel
theorem d_Mod_share_94 : decode prog_8_method_60_code 94 = .ok (.iload 4, 2) := by decide +kernel
theorem d_Mod_share_96 : decode prog_8_method_60_code 96 = .ok (.iadd, 1) := by decide +kernel
theorem d_Mod_share_97 : decode prog_8_method_60_code 97 = .ok (.iaload, 1) := by decide +kernel
theorem d_Mod_share_98 : decode prog_8_method_60_code 98 = .ok (.goto 4, 3) := by decide +kernel
theorem d_Mod_share_101 : decode prog_8_method_60_code 101 = .ok (.iconst 0, 1) := by decide +kernel
theorem d_Mod_share_102 : decode prog_8_method_60_code 102 = .ok (.iastore, 1) := by decide +kernel
theorem d_Mod_share_103 : decode prog_8_method_60_code 103 = .ok (.iinc 4 1, 3) := by decide +kernel
theorem d_Mod_share_106 : decode prog_8_method_60_code 106 = .ok (.goto (-72), 3) := by decide +kernel
theorem d_Mod_share_109 : decode prog_8_method_60_code 109 = .ok (.aload_n 0, 1) := by decide +kernel
theorem d_Mod_share_110 : decode prog_8_method_60_code 110 = .ok (.aload_n 0, 1) := by decide +kernel
theorem d_Mod_share_111 : decode prog_8_method_60_code 111 = .ok (.getfield 28, 3) := by decide +kernel
theorem d_Mod_share_114 : decode prog_8_method_60_code 114 = .ok (.iconst 4, 1) := by decide +kernel
theorem d_Mod_share_115 : decode prog_8_method_60_code 115 = .ok (.invokevirtual 185, 3) := by decide +kernel
theorem d_Mod_share_118 : decode prog_8_method_60_code 118 = .ok (.aload_n 0, 1) := by decide +kernel
theorem d_Mod_share_119 : decode prog_8_method_60_code 119 = .ok (.getfield 53, 3) := by decide +kernel
theorem d_Mod_share_122 : decode prog_8_method_60_code 122 = .ok (.iload_n 3, 1) := by decide +kernel
theorem d_Mod_share_123 : decode prog_8_method_60_code 123 = .ok (.aload_n 0, 1) := by decide +kernel
theorem d_Mod_share_124 : decode prog_8_method_60_code 124 = .ok (.aload_n 0, 1) := by decide +kernel
theorem d_Mod_share_125 : decode prog_8_method_60_code 125 = .ok (.getfield 28, 3) := by decide +kernel
theorem d_Mod_share_128 : decode prog_8_method_60_code 128 = .ok (.invokevirtual 150, 3) := by decide +kernel
theorem d_Mod_share_131 : decode prog_8_method_60_code 131 = .ok (.iastore, 1) := by decide +kernel
theorem d_Mod_share_132 : decode prog_8_method_60_code 132 = .ok (.iinc 3 1, 3) := by decide +kernel
theorem d_Mod_share_135 : decode prog_8_method_60_code 135 = .ok (.goto (-118), 3) := by decide +kernel
theorem d_Mod_share_138 : decode prog_8_method_60_code 138 = .ok (.iconst 0, 1) := by decide +kernel
theorem d_Mod_share_139 : decode prog_8_method_60_code 139 = .ok (.istore_n 3, 1) := by decide +kernel
theorem d_Mod_share_140 : decode prog_8_method_60_code 140 = .ok (.iconst 0, 1) := by decide +kernel
theorem d_Mod_share_141 : decode prog_8_method_60_code 141 = .ok (.istore 4, 2) := by decide +kernel
theorem d_Mod_share_143 : decode prog_8_method_60_code 143 = .ok (.iload 4, 2) := by decide +kernel
theorem d_Mod_share_145 : decode prog_8_method_60_code 145 = .ok (.iconst 1, 1) := by decide +kernel
theorem d_Mod_share_146 : decode prog_8_method_60_code 146 = .ok (.aload_n 0, 1) := by decide +kernel
theorem d_Mod_share_147 : decode prog_8_method_60_code 147 = .ok (.getfield 60, 3) := by decide +kernel
theorem d_Mod_share_150 : decode prog_8_method_60_code 150 = .ok (.ishl, 1) := by decide +kernel
theorem d_Mod_share_151 : decode prog_8_method_60_code 151 = .ok (.if_icmp .ge 66, 3) := by decide +kernel
theorem d_Mod_share_154 : decode prog_8_method_60_code 154 = .ok (.iload 4, 2) := by decide +kernel
theorem d_Mod_share_156 : decode prog_8_method_60_code 156 = .ok (.iload_n 1, 1) := by decide +kernel
theorem d_Mod_share_157 : decode prog_8_method_60_code 157 = .ok (.invokestatic 124, 3) := by decide +kernel
theorem d_Mod_share_160 : decode prog_8_method_60_code 160 = .ok (.ifCond .ne 51, 3) := by decide +kernel
theorem d_Mod_share_163 : decode prog_8_method_60_code 163 = .ok (.iload 4, 2) := by decide +kernel
theorem d_Mod_share_165 : decode prog_8_method_60_code 165 = .ok (.invokestatic 200, 3) := by decide +kernel
theorem d_Mod_share_168 : decode prog_8_method_60_code 168 = .ok (.istore 5, 2) := by decide +kernel
theorem d_Mod_share_170 : decode prog_8_method_60_code 170 = .ok (.iload_n 3, 1) := by decide +kernel
theorem d_Mod_share_171 : decode prog_8_method_60_code 171 = .ok (.iload 5, 2) := by decide +kernel
theorem d_Mod_share_173 : decode prog_8_method_60_code 173 = .ok (.invokestatic 229, 3) := by decide +kernel
theorem d_Mod_share_176 : decode prog_8_method_60_code 176 = .ok (.aload_n 0, 1) := by decide +kernel
theorem d_Mod_share_177 : decode prog_8_method_60_code 177 = .ok (.getfield 60, 3) := by decide +kernel
theorem d_Mod_share_180 : decode prog_8_method_60_code 180 = .ok (.iconst 1, 1) := by decide +kernel
theorem d_Mod_share_181 : decode prog_8_method_60_code 181 = .ok (.isub, 1) := by decide +kernel
theorem d_Mod_share_182 : decode prog_8_method_60_code 182 = .ok (.iload 5, 2) := by decide +kernel
theorem d_Mod_share_184 : decode prog_8_method_60_code 184 = .ok (.isub, 1) := by decide +kernel
theorem d_Mod_share_185 : decode prog_8_method_60_code 185 = .ok (.invokestatic 229, 3) := by decide +kernel
theorem d_Mod_share_188 : decode prog_8_method_60_code 188 = .ok (.imul, 1) := by decide +kernel
theorem d_Mod_share_189 : decode prog_8_method_60_code 189 = .ok (.aload_n 0, 1) := by decide +kernel
theorem d_Mod_share_190 : decode prog_8_method_60_code 190 = .ok (.getfield 53, 3) := by decide +kernel
theorem d_Mod_share_193 : decode prog_8_method_60_code 193 = .ok (.iload 4, 2) := by decide +kernel
theorem d_Mod_share_195 : decode prog_8_method_60_code 195 = .ok (.iconst 1, 1) := by decide +kernel
theorem d_Mod_share_196 : decode prog_8_method_60_code 196 = .ok (.iload_n 1, 1) := by decide +kernel
theorem d_Mod_share_197 : decode prog_8_method_60_code 197 = .ok (.ishl, 1) := by decide +kernel
theorem d_Mod_share_198 : decode prog_8_method_60_code 198 = .ok (.ior, 1) := by decide +kernel
theorem d_Mod_share_199 : decode prog_8_method_60_code 199 = .ok (.iaload, 1) := by decide +kernel
theorem d_Mod_share_200 : decode prog_8_method_60_code 200 = .ok (.aload_n 0, 1) := by decide +kernel
theorem d_Mod_share_201 : decode prog_8_method_60_code 201 = .ok (.getfield 53, 3) := by decide +kernel
theorem d_Mod_share_204 : decode prog_8_method_60_code 204 = .ok (.iload 4, 2) := by decide +kernel
theorem d_Mod_share_206 : decode prog_8_method_60_code 206 = .ok (.iaload, 1) := by decide +kernel
theorem d_Mod_share_207 : decode prog_8_method_60_code 207 = .ok (.isub, 1) := by decide +kernel
theorem d_Mod_share_208 : decode prog_8_method_60_code 208 = .ok (.imul, 1) := by decide +kernel
theorem d_Mod_share_209 : decode prog_8_method_60_code 209 = .ok (.iadd, 1) := by decide +kernel
theorem d_Mod_share_210 : decode prog_8_method_60_code 210 = .ok (.istore_n 3, 1) := by decide +kernel
theorem d_Mod_share_211 : decode prog_8_method_60_code 211 = .ok (.iinc 4 1, 3) := by decide +kernel
theorem d_Mod_share_214 : decode prog_8_method_60_code 214 = .ok (.goto (-71), 3) := by decide +kernel
theorem d_Mod_share_217 : decode prog_8_method_60_code 217 = .ok (.iload_n 3, 1) := by decide +kernel
theorem d_Mod_share_218 : decode prog_8_method_60_code 218 = .ok (.aload_n 0, 1) := by decide +kernel
theorem d_Mod_share_219 : decode prog_8_method_60_code 219 = .ok (.getfield 60, 3) := by decide +kernel
theorem d_Mod_share_222 : decode prog_8_method_60_code 222 = .ok (.invokestatic 229, 3) := by decide +kernel
theorem d_Mod_share_225 : decode prog_8_method_60_code 225 = .ok (.iload_n 2, 1) := by decide +kernel
theorem d_Mod_share_226 : decode prog_8_method_60_code 226 = .ok (.invokestatic 232, 3) := by decide +kernel
theorem d_Mod_share_229 : decode prog_8_method_60_code 229 = .ok (.ireturn, 1) := by decide +kernel
theorem d_Mod_find_0 : decode prog_8_method_61_code 0 = .ok (.aload_n 0, 1) := by decide +kernel
theorem d_Mod_find_1 : decode prog_8_method_61_code 1 = .ok (.iconst 0, 1) := by decide +kernel
theorem d_Mod_find_2 : decode prog_8_method_61_code 2 = .ok (.putfield 56, 3) := by decide +kernel
theorem d_Mod_find_5 : decode prog_8_method_61_code 5 = .ok (.iload_n 1, 1) := by decide +kernel
theorem d_Mod_find_6 : decode prog_8_method_61_code 6 = .ok (.i2l, 1) := by decide +kernel
theorem d_Mod_find_7 : decode prog_8_method_61_code 7 = .ok (.lconst 0, 1) := by decide +kernel
theorem d_Mod_find_8 : decode prog_8_method_61_code 8 = .ok (.ldc2_w 166, 3) := by decide +kernel
theorem d_Mod_find_11 : decode prog_8_method_61_code 11 = .ok (.invokestatic 63, 3) := by decide +kernel
theorem d_Mod_find_14 : decode prog_8_method_61_code 14 = .ok (.ifCond .eq 25, 3) := by decide +kernel
theorem d_Mod_find_17 : decode prog_8_method_61_code 17 = .ok (.iload_n 2, 1) := by decide +kernel
theorem d_Mod_find_18 : decode prog_8_method_61_code 18 = .ok (.i2l, 1) := by decide +kernel
theorem d_Mod_find_19 : decode prog_8_method_61_code 19 = .ok (.lconst 0, 1) := by decide +kernel
theorem d_Mod_find_20 : decode prog_8_method_61_code 20 = .ok (.ldc2_w 236, 3) := by decide +kernel
theorem d_Mod_find_23 : decode prog_8_method_61_code 23 = .ok (.invokestatic 63, 3) := by decide +kernel
theorem d_Mod_find_26 : decode prog_8_method_61_code 26 = .ok (.ifCond .eq 13, 3) := by decide +kernel
theorem d_Mod_find_29 : decode prog_8_method_61_code 29 = .ok (.iload_n 3, 1) := by decide +kernel
theorem d_Mod_find_30 : decode prog_8_method_61_code 30 = .ok (.i2l, 1) := by decide +kernel
theorem d_Mod_find_31 : decode prog_8_method_61_code 31 = .ok (.lconst 0, 1) := by decide +kernel
theorem d_Mod_find_32 : decode prog_8_method_61_code 32 = .ok (.lconst 1, 1) := by decide +kernel
theorem d_Mod_find_33 : decode prog_8_method_61_code 33 = .ok (.invokestatic 63, 3) := by decide +kernel
theorem d_Mod_find_36 : decode prog_8_method_61_code 36 = .ok (.ifCond .ne 6, 3) := by decide +kernel
theorem d_Mod_find_39 : decode prog_8_method_61_code 39 = .ok (.bipush (-2), 2) := by decide +kernel
theorem d_Mod_find_41 : decode prog_8_method_61_code 41 = .ok (.ireturn, 1) := by decide +kernel
theorem d_Mod_find_42 : decode prog_8_method_61_code 42 = .ok (.aload_n 0, 1) := by decide +kernel
theorem d_Mod_find_43 : decode prog_8_method_61_code 43 = .ok (.getfield 156, 3) := by decide +kernel
theorem d_Mod_find_46 : decode prog_8_method_61_code 46 = .ok (.bipush 6, 2) := by decide +kernel
theorem d_Mod_find_48 : decode prog_8_method_61_code 48 = .ok (.if_icmp .ne 6, 3) := by decide +kernel
theorem d_Mod_find_51 : decode prog_8_method_61_code 51 = .ok (.bipush (-4), 2) := by decide +kernel
theorem d_Mod_find_53 : decode prog_8_method_61_code 53 = .ok (.ireturn, 1) := by decide +kernel
theorem d_Mod_find_54 : decode prog_8_method_61_code 54 = .ok (.aload_n 0, 1) := by decide +kernel
theorem d_Mod_find_55 : decode prog_8_method_61_code 55 = .ok (.getfield 41, 3) := by decide +kernel
theorem d_Mod_find_58 : decode prog_8_method_61_code 58 = .ok (.aload_n 0, 1) := by decide +kernel
theorem d_Mod_find_59 : decode prog_8_method_61_code 59 = .ok (.getfield 156, 3) := by decide +kernel
theorem d_Mod_find_62 : decode prog_8_method_61_code 62 = .ok (.iload_n 1, 1) := by decide +kernel
theorem d_Mod_find_63 : decode prog_8_method_61_code 63 = .ok (.iastore, 1) := by decide +kernel
theorem d_Mod_find_64 : decode prog_8_method_61_code 64 = .ok (.aload_n 0, 1) := by decide +kernel
theorem d_Mod_find_65 : decode prog_8_method_61_code 65 = .ok (.getfield 44, 3) := by decide +kernel
theorem d_Mod_find_68 : decode prog_8_method_61_code 68 = .ok (.aload_n 0, 1) := by decide +kernel
theorem d_Mod_find_69 : decode prog_8_method_61_code 69 = .ok (.getfield 156, 3) := by decide +kernel
theorem d_Mod_find_72 : decode prog_8_method_61_code 72 = .ok (.iload_n 2, 1) := by decide +kernel
theorem d_Mod_find_73 : decode prog_8_method_61_code 73 = .ok (.iastore, 1) := by decide +kernel
theorem d_Mod_find_74 : decode prog_8_method_61_code 74 = .ok (.aload_n 0, 1) := by decide +kernel
theorem d_Mod_find_75 : decode prog_8_method_61_code 75 = .ok (.getfield 47, 3) := by decide +kernel
theorem d_Mod_find_78 : decode prog_8_method_61_code 78 = .ok (.aload_n 0, 1) := by decide +kernel
theorem d_Mod_find_79 : decode prog_8_method_61_code 79 = .ok (.getfield 156, 3) := by decide +kernel
theorem d_Mod_find_82 : decode prog_8_method_61_code 82 = .ok (.iload_n 3, 1) := by decide +kernel
theorem d_Mod_find_83 : decode prog_8_method_61_code 83 = .ok (.iastore, 1) := by decide +kernel
theorem d_Mod_find_84 : decode prog_8_method_61_code 84 = .ok (.aload_n 0, 1) := by decide +kernel
theorem d_Mod_find_85 : decode prog_8_method_61_code 85 = .ok (.dup, 1) := by decide +kernel
theorem d_Mod_find_86 : decode prog_8_method_61_code 86 = .ok (.getfield 156, 3) := by decide +kernel
theorem d_Mod_find_89 : decode prog_8_method_61_code 89 = .ok (.iconst 1, 1) := by decide +kernel
theorem d_Mod_find_90 : decode prog_8_method_61_code 90 = .ok (.iadd, 1) := by decide +kernel
theorem d_Mod_find_91 : decode prog_8_method_61_code 91 = .ok (.putfield 156, 3) := by decide +kernel
theorem d_Mod_find_94 : decode prog_8_method_61_code 94 = .ok (.aload_n 0, 1) := by decide +kernel
theorem d_Mod_find_95 : decode prog_8_method_61_code 95 = .ok (.getfield 156, 3) := by decide +kernel
theorem d_Mod_find_98 : decode prog_8_method_61_code 98 = .ok (.ireturn, 1) := by decide +kernel
theorem d_Mod_forget_0 : decode prog_8_method_62_code 0 = .ok (.aload_n 0, 1) := by decide +kernel
theorem d_Mod_forget_1 : decode prog_8_method_62_code 1 = .ok (.iconst 0, 1) := by decide +kernel
theorem d_Mod_forget_2 : decode prog_8_method_62_code 2 = .ok (.putfield 56, 3) := by decide +kernel
theorem d_Mod_forget_5 : decode prog_8_method_62_code 5 = .ok (.aload_n 0, 1) := by decide +kernel
theorem d_Mod_forget_6 : decode prog_8_method_62_code 6 = .ok (.getfield 156, 3) := by decide +kernel
theorem d_Mod_forget_9 : decode prog_8_method_62_code 9 = .ok (.istore_n 1, 1) := by decide +kernel
theorem d_Mod_forget_10 : decode prog_8_method_62_code 10 = .ok (.aload_n 0, 1) := by decide +kernel
theorem d_Mod_forget_11 : decode prog_8_method_62_code 11 = .ok (.iconst 0, 1) := by decide +kernel
theorem d_Mod_forget_12 : decode prog_8_method_62_code 12 = .ok (.putfield 156, 3) := by decide +kernel
theorem d_Mod_forget_15 : decode prog_8_method_62_code 15 = .ok (.iload_n 1, 1) := by decide +kernel
theorem d_Mod_forget_16 : decode prog_8_method_62_code 16 = .ok (.ireturn, 1) := by decide +kernel
theorem d_Mod_salts_0 : decode prog_8_method_63_code 0 = .ok (.aload_n 0, 1) := by decide +kernel
theorem d_Mod_salts_1 : decode prog_8_method_63_code 1 = .ok (.iconst 0, 1) := by decide +kernel
theorem d_Mod_salts_2 : decode prog_8_method_63_code 2 = .ok (.putfield 56, 3) := by decide +kernel
theorem d_Mod_salts_5 : decode prog_8_method_63_code 5 = .ok (.iload_n 1, 1) := by decide +kernel
theorem d_Mod_salts_6 : decode prog_8_method_63_code 6 = .ok (.i2l, 1) := by decide +kernel
theorem d_Mod_salts_7 : decode prog_8_method_63_code 7 = .ok (.lconst 0, 1) := by decide +kernel
theorem d_Mod_salts_8 : decode prog_8_method_63_code 8 = .ok (.lconst 1, 1) := by decide +kernel
theorem d_Mod_salts_9 : decode prog_8_method_63_code 9 = .ok (.invokestatic 63, 3) := by decide +kernel
theorem d_Mod_salts_12 : decode prog_8_method_63_code 12 = .ok (.ifCond .ne 6, 3) := by decide +kernel
theorem d_Mod_salts_15 : decode prog_8_method_63_code 15 = .ok (.bipush (-2), 2) := by decide +kernel
theorem d_Mod_salts_17 : decode prog_8_method_63_code 17 = .ok (.ireturn, 1) := by decide +kernel
theorem d_Mod_salts_18 : decode prog_8_method_63_code 18 = .ok (.aload_n 0, 1) := by decide +kernel
theorem d_Mod_salts_19 : decode prog_8_method_63_code 19 = .ok (.iconst 0, 1) := by decide +kernel
theorem d_Mod_salts_20 : decode prog_8_method_63_code 20 = .ok (.putfield 238, 3) := by decide +kernel
theorem d_Mod_salts_23 : decode prog_8_method_63_code 23 = .ok (.aload_n 0, 1) := by decide +kernel
theorem d_Mod_salts_24 : decode prog_8_method_63_code 24 = .ok (.bipush (-9), 2) := by decide +kernel
theorem d_Mod_salts_26 : decode prog_8_method_63_code 26 = .ok (.putfield 241, 3) := by decide +kernel
theorem d_Mod_salts_29 : decode prog_8_method_63_code 29 = .ok (.iconst 0, 1) := by decide +kernel
theorem d_Mod_salts_30 : decode prog_8_method_63_code 30 = .ok (.istore_n 2, 1) := by decide +kernel
theorem d_Mod_salts_31 : decode prog_8_method_63_code 31 = .ok (.iload_n 2, 1) := by decide +kernel
theorem d_Mod_salts_32 : decode prog_8_method_63_code 32 = .ok (.bipush 100, 2) := by decide +kernel
theorem d_Mod_salts_34 : decode prog_8_method_63_code 34 = .ok (.if_icmp .ge 148, 3) := by decide +kernel
theorem d_Mod_salts_37 : decode prog_8_method_63_code 37 = .ok (.iconst 1, 1) := by decide +kernel
theorem d_Mod_salts_38 : decode prog_8_method_63_code 38 = .ok (.istore_n 3, 1) := by decide +kernel
theorem d_Mod_salts_39 : decode prog_8_method_63_code 39 = .ok (.iconst 0, 1) := by decide +kernel
theorem d_Mod_salts_40 : decode prog_8_method_63_code 40 = .ok (.istore 4, 2) := by decide +kernel
theorem d_Mod_salts_42 : decode prog_8_method_63_code 42 = .ok (.iload 4, 2) := by decide +kernel
theorem d_Mod_salts_44 : decode prog_8_method_63_code 44 = .ok (.aload_n 0, 1) := by decide +kernel
theorem d_Mod_salts_45 : decode prog_8_method_63_code 45 = .ok (.getfield 156, 3) := by decide +kernel
theorem d_Mod_salts_48 : decode prog_8_method_63_code 48 = .ok (.if_icmp .ge 87, 3) := by decide +kernel
theorem d_Mod_salts_51 : decode prog_8_method_63_code 51 = .ok (.iload_n 2, 1) := by decide +kernel
theorem d_Mod_salts_52 : decode prog_8_method_63_code 52 = .ok (.bipush 8, 2) := by decide +kernel
theorem d_Mod_salts_54 : decode prog_8_method_63_code 54 = .ok (.aload_n 0, 1) := by decide +kernel
theorem d_Mod_salts_55 : decode prog_8_method_63_code 55 = .ok (.getfield 41, 3) := by decide +kernel
theorem d_Mod_salts_58 : decode prog_8_method_63_code 58 = .ok (.iload 4, 2) := by decide +kernel
theorem d_Mod_salts_60 : decode prog_8_method_63_code 60 = .ok (.iaload, 1) := by decide +kernel
theorem d_Mod_salts_61 : decode prog_8_method_63_code 61 = .ok (.imul, 1) := by decide +kernel
theorem d_Mod_salts_62 : decode prog_8_method_63_code 62 = .ok (.if_icmp .le 18, 3) := by decide +kernel
theorem d_Mod_salts_65 : decode prog_8_method_63_code 65 = .ok (.iload_n 2, 1) := by decide +kernel
theorem d_Mod_salts_66 : decode prog_8_method_63_code 66 = .ok (.bipush 8, 2) := by decide +kernel
theorem d_Mod_salts_68 : decode prog_8_method_63_code 68 = .ok (.aload_n 0, 1) := by decide +kernel
theorem d_Mod_salts_69 : decode prog_8_method_63_code 69 = .ok (.getfield 41, 3) := by decide +kernel
theorem d_Mod_salts_72 : decode prog_8_method_63_code 72 = .ok (.iload 4, 2) := by decide +kernel
theorem d_Mod_salts_74 : decode prog_8_method_63_code 74 = .ok (.iaload, 1) := by decide +kernel
theorem d_Mod_salts_75 : decode prog_8_method_63_code 75 = .ok (.imul, 1) := by decide +kernel
theorem d_Mod_salts_76 : decode prog_8_method_63_code 76 = .ok (.isub, 1) := by decide +kernel
theorem d_Mod_salts_77 : decode prog_8_method_63_code 77 = .ok (.goto 4, 3) := by decide +kernel
theorem d_Mod_salts_80 : decode prog_8_method_63_code 80 = .ok (.iconst 0, 1) := by decide +kernel
theorem d_Mod_salts_81 : decode prog_8_method_63_code 81 = .ok (.istore 5, 2) := by decide +kernel
theorem d_Mod_salts_83 : decode prog_8_method_63_code 83 = .ok (.iload_n 3, 1) := by decide +kernel
theorem d_Mod_salts_84 : decode prog_8_method_63_code 84 = .ok (.ifCond .eq 43, 3) := by decide +kernel
theorem d_Mod_salts_87 : decode prog_8_method_63_code 87 = .ok (.iload 5, 2) := by decide +kernel
theorem d_Mod_salts_89 : decode prog_8_method_63_code 89 = .ok (.aload_n 0, 1) := by decide +kernel
theorem d_Mod_salts_90 : decode prog_8_method_63_code 90 = .ok (.getfield 44, 3) := by decide +kernel
theorem d_Mod_salts_93 : decode prog_8_method_63_code 93 = .ok (.iload 4, 2) := by decide +kernel
theorem d_Mod_salts_95 : decode prog_8_method_63_code 95 = .ok (.iaload, 1) := by decide +kernel
theorem d_Mod_salts_96 : decode prog_8_method_63_code 96 = .ok (.if_icmp .lt 7, 3) := by decide +kernel
theorem d_Mod_salts_99 : decode prog_8_method_63_code 99 = .ok (.iconst 1, 1) := by decide +kernel
theorem d_Mod_salts_100 : decode prog_8_method_63_code 100 = .ok (.goto 4, 3) := by decide +kernel
theorem d_Mod_salts_103 : decode prog_8_method_63_code 103 = .ok (.iconst 0, 1) := by decide +kernel
theorem d_Mod_salts_104 : decode prog_8_method_63_code 104 = .ok (.aload_n 0, 1) := by decide +kernel
theorem d_Mod_salts_105 : decode prog_8_method_63_code 105 = .ok (.getfield 47, 3) := by decide +kernel
theorem d_Mod_salts_108 : decode prog_8_method_63_code 108 = .ok (.iload 4, 2) := by decide +kernel
theorem d_Mod_salts_110 : decode prog_8_method_63_code 110 = .ok (.iaload, 1) := by decide +kernel
theorem d_Mod_salts_111 : decode prog_8_method_63_code 111 = .ok (.iconst 1, 1) := by decide +kernel
theorem d_Mod_salts_112 : decode prog_8_method_63_code 112 = .ok (.if_icmp .ne 7, 3) := by decide +kernel
theorem d_Mod_salts_115 : decode prog_8_method_63_code 115 = .ok (.iconst 1, 1) := by decide +kernel
theorem d_Mod_salts_116 : decode prog_8_method_63_code 116 = .ok (.goto 4, 3) := by decide +kernel
theorem d_Mod_salts_119 : decode prog_8_method_63_code 119 = .ok (.iconst 0, 1) := by decide +kernel
theorem d_Mod_salts_120 : decode prog_8_method_63_code 120 = .ok (.if_icmp .ne 7, 3) := by decide +kernel
theorem d_Mod_salts_123 : decode prog_8_method_63_code 123 = .ok (.iconst 1, 1) := by decide +kernel
theorem d_Mod_salts_124 : decode prog_8_method_63_code 124 = .ok (.goto 4, 3) := by decide +kernel
theorem d_Mod_salts_127 : decode prog_8_method_63_code 127 = .ok (.iconst 0, 1) := by decide +kernel
theorem d_Mod_salts_128 : decode prog_8_method_63_code 128 = .ok (.istore_n 3, 1) := by decide +kernel
theorem d_Mod_salts_129 : decode prog_8_method_63_code 129 = .ok (.iinc 4 1, 3) := by decide +kernel
theorem d_Mod_salts_132 : decode prog_8_method_63_code 132 = .ok (.goto (-90), 3) := by decide +kernel
theorem d_Mod_salts_135 : decode prog_8_method_63_code 135 = .ok (.aload_n 0, 1) := by decide +kernel
theorem d_Mod_salts_136 : decode prog_8_method_63_code 136 = .ok (.iload_n 3, 1) := by decide +kernel
theorem d_Mod_salts_137 : decode prog_8_method_63_code 137 = .ok (.ifCond .eq 14, 3) := by decide +kernel
theorem d_Mod_salts_140 : decode prog_8_method_63_code 140 = .ok (.aload_n 0, 1) := by decide +kernel
theorem d_Mod_salts_141 : decode prog_8_method_63_code 141 = .ok (.getfield 238, 3) := by decide +kernel
theorem d_Mod_salts_144 : decode prog_8_method_63_code 144 = .ok (.ifCond .ne 7, 3) := by decide +kernel
theorem d_Mod_salts_147 : decode prog_8_method_63_code 147 = .ok (.iload_n 2, 1) := by decide +kernel
theorem d_Mod_salts_148 : decode prog_8_method_63_code 148 = .ok (.goto 7, 3) := by decide +kernel
theorem d_Mod_salts_151 : decode prog_8_method_63_code 151 = .ok (.aload_n 0, 1) := by decide +kernel
theorem d_Mod_salts_152 : decode prog_8_method_63_code 152 = .ok (.getfield 241, 3) := by decide +kernel
theorem d_Mod_salts_155 : decode prog_8_method_63_code 155 = .ok (.putfield 241, 3) := by decide +kernel
theorem d_Mod_salts_158 : decode prog_8_method_63_code 158 = .ok (.aload_n 0, 1) := by decide +kernel
theorem d_Mod_salts_159 : decode prog_8_method_63_code 159 = .ok (.dup, 1) := by decide +kernel
theorem d_Mod_salts_160 : decode prog_8_method_63_code 160 = .ok (.getfield 238, 3) := by decide +kernel
theorem d_Mod_salts_163 : decode prog_8_method_63_code 163 = .ok (.iload_n 3, 1) := by decide +kernel
theorem d_Mod_salts_164 : decode prog_8_method_63_code 164 = .ok (.ifCond .eq 7, 3) := by decide +kernel
theorem d_Mod_salts_167 : decode prog_8_method_63_code 167 = .ok (.iconst 1, 1) := by decide +kernel
theorem d_Mod_salts_168 : decode prog_8_method_63_code 168 = .ok (.goto 4, 3) := by decide +kernel
theorem d_Mod_salts_171 : decode prog_8_method_63_code 171 = .ok (.iconst 0, 1) := by decide +kernel
theorem d_Mod_salts_172 : decode prog_8_method_63_code 172 = .ok (.iadd, 1) := by decide +kernel
theorem d_Mod_salts_173 : decode prog_8_method_63_code 173 = .ok (.putfield 238, 3) := by decide +kernel
theorem d_Mod_salts_176 : decode prog_8_method_63_code 176 = .ok (.iinc 2 1, 3) := by decide +kernel
theorem d_Mod_salts_179 : decode prog_8_method_63_code 179 = .ok (.goto (-148), 3) := by decide +kernel
theorem d_Mod_salts_182 : decode prog_8_method_63_code 182 = .ok (.iload_n 1, 1) := by decide +kernel
theorem d_Mod_salts_183 : decode prog_8_method_63_code 183 = .ok (.ifCond .ne 10, 3) := by decide +kernel
theorem d_Mod_salts_186 : decode prog_8_method_63_code 186 = .ok (.aload_n 0, 1) := by decide +kernel
theorem d_Mod_salts_187 : decode prog_8_method_63_code 187 = .ok (.getfield 238, 3) := by decide +kernel
theorem d_Mod_salts_190 : decode prog_8_method_63_code 190 = .ok (.goto 7, 3) := by decide +kernel
theorem d_Mod_salts_193 : decode prog_8_method_63_code 193 = .ok (.aload_n 0, 1) := by decide +kernel
theorem d_Mod_salts_194 : decode prog_8_method_63_code 194 = .ok (.getfield 241, 3) := by decide +kernel
theorem d_Mod_salts_197 : decode prog_8_method_63_code 197 = .ok (.ireturn, 1) := by decide +kernel
theorem d_Mod_lay_0 : decode prog_8_method_64_code 0 = .ok (.aload_n 0, 1) := by decide +kernel
theorem d_Mod_lay_1 : decode prog_8_method_64_code 1 = .ok (.getfield 28, 3) := by decide +kernel
theorem d_Mod_lay_4 : decode prog_8_method_64_code 4 = .ok (.bipush 12, 2) := by decide +kernel
theorem d_Mod_lay_6 : decode prog_8_method_64_code 6 = .ok (.aload_n 0, 1) := by decide +kernel
theorem d_Mod_lay_7 : decode prog_8_method_64_code 7 = .ok (.getfield 28, 3) := by decide +kernel
theorem d_Mod_lay_10 : decode prog_8_method_64_code 10 = .ok (.bipush 12, 2) := by decide +kernel
theorem d_Mod_lay_12 : decode prog_8_method_64_code 12 = .ok (.iaload, 1) := by decide +kernel
theorem d_Mod_lay_13 : decode prog_8_method_64_code 13 = .ok (.iconst 1, 1) := by decide +kernel
theorem d_Mod_lay_14 : decode prog_8_method_64_code 14 = .ok (.iload_n 1, 1) := by decide +kernel
theorem d_Mod_lay_15 : decode prog_8_method_64_code 15 = .ok (.ishl, 1) := by decide +kernel
theorem d_Mod_lay_16 : decode prog_8_method_64_code 16 = .ok (.iconst (-1), 1) := by decide +kernel
theorem d_Mod_lay_17 : decode prog_8_method_64_code 17 = .ok (.ixor, 1) := by decide +kernel
theorem d_Mod_lay_18 : decode prog_8_method_64_code 18 = .ok (.iand, 1) := by decide +kernel
theorem d_Mod_lay_19 : decode prog_8_method_64_code 19 = .ok (.iload_n 2, 1) := by decide +kernel
theorem d_Mod_lay_20 : decode prog_8_method_64_code 20 = .ok (.iload_n 1, 1) := by decide +kernel
theorem d_Mod_lay_21 : decode prog_8_method_64_code 21 = .ok (.ishl, 1) := by decide +kernel
theorem d_Mod_lay_22 : decode prog_8_method_64_code 22 = .ok (.ior, 1) := by decide +kernel
theorem d_Mod_lay_23 : decode prog_8_method_64_code 23 = .ok (.iastore, 1) := by decide +kernel
theorem d_Mod_lay_24 : decode prog_8_method_64_code 24 = .ok (.return_, 1) := by decide +kernel
theorem d_Mod_rests_0 : decode prog_8_method_65_code 0 = .ok (.aload_n 0, 1) := by decide +kernel
theorem d_Mod_rests_1 : decode prog_8_method_65_code 1 = .ok (.iconst 0, 1) := by decide +kernel
theorem d_Mod_rests_2 : decode prog_8_method_65_code 2 = .ok (.putfield 56, 3) := by decide +kernel
theorem d_Mod_rests_5 : decode prog_8_method_65_code 5 = .ok (.aload_n 0, 1) := by decide +kernel
theorem d_Mod_rests_6 : decode prog_8_method_65_code 6 = .ok (.iload_n 1, 1) := by decide +kernel
theorem d_Mod_rests_7 : decode prog_8_method_65_code 7 = .ok (.invokevirtual 172, 3) := by decide +kernel
theorem d_Mod_rests_10 : decode prog_8_method_65_code 10 = .ok (.ifCond .ne 11, 3) := by decide +kernel
theorem d_Mod_rests_13 : decode prog_8_method_65_code 13 = .ok (.aload_n 0, 1) := by decide +kernel
theorem d_Mod_rests_14 : decode prog_8_method_65_code 14 = .ok (.iload_n 2, 1) := by decide +kernel
theorem d_Mod_rests_15 : decode prog_8_method_65_code 15 = .ok (.invokevirtual 172, 3) := by decide +kernel
theorem d_Mod_rests_18 : decode prog_8_method_65_code 18 = .ok (.ifCond .eq 5, 3) := by decide +kernel
theorem d_Mod_rests_21 : decode prog_8_method_65_code 21 = .ok (.iconst (-1), 1) := by decide +kernel
theorem d_Mod_rests_22 : decode prog_8_method_65_code 22 = .ok (.ireturn, 1) := by decide +kernel
theorem d_Mod_rests_23 : decode prog_8_method_65_code 23 = .ok (.iload_n 1, 1) := by decide +kernel
theorem d_Mod_rests_24 : decode prog_8_method_65_code 24 = .ok (.iload_n 2, 1) := by decide +kernel
theorem d_Mod_rests_25 : decode prog_8_method_65_code 25 = .ok (.if_icmp .eq 13, 3) := by decide +kernel
theorem d_Mod_rests_28 : decode prog_8_method_65_code 28 = .ok (.iload_n 3, 1) := by decide +kernel
theorem d_Mod_rests_29 : decode prog_8_method_65_code 29 = .ok (.i2l, 1) := by decide +kernel
theorem d_Mod_rests_30 : decode prog_8_method_65_code 30 = .ok (.lconst 0, 1) := by decide +kernel
theorem d_Mod_rests_31 : decode prog_8_method_65_code 31 = .ok (.lconst 1, 1) := by decide +kernel
theorem d_Mod_rests_32 : decode prog_8_method_65_code 32 = .ok (.invokestatic 63, 3) := by decide +kernel
theorem d_Mod_rests_35 : decode prog_8_method_65_code 35 = .ok (.ifCond .ne 6, 3) := by decide +kernel
theorem d_Mod_rests_38 : decode prog_8_method_65_code 38 = .ok (.bipush (-2), 2) := by decide +kernel
theorem d_Mod_rests_40 : decode prog_8_method_65_code 40 = .ok (.ireturn, 1) := by decide +kernel
theorem d_Mod_rests_41 : decode prog_8_method_65_code 41 = .ok (.iconst 0, 1) := by decide +kernel
theorem d_Mod_rests_42 : decode prog_8_method_65_code 42 = .ok (.istore 4, 2) := by decide +kernel
theorem d_Mod_rests_44 : decode prog_8_method_65_code 44 = .ok (.iload 4, 2) := by decide +kernel
theorem d_Mod_rests_46 : decode prog_8_method_65_code 46 = .ok (.iconst 4, 1) := by decide +kernel
theorem d_Mod_rests_47 : decode prog_8_method_65_code 47 = .ok (.if_icmp .ge 94, 3) := by decide +kernel
theorem d_Mod_rests_50 : decode prog_8_method_65_code 50 = .ok (.aload_n 0, 1) := by decide +kernel
theorem d_Mod_rests_51 : decode prog_8_method_65_code 51 = .ok (.invokevirtual 182, 3) := by decide +kernel
theorem d_Mod_rests_54 : decode prog_8_method_65_code 54 = .ok (.aload_n 0, 1) := by decide +kernel
theorem d_Mod_rests_55 : decode prog_8_method_65_code 55 = .ok (.iload_n 1, 1) := by decide +kernel
theorem d_Mod_rests_56 : decode prog_8_method_65_code 56 = .ok (.iload 4, 2) := by decide +kernel
theorem d_Mod_rests_58 : decode prog_8_method_65_code 58 = .ok (.iconst 2, 1) := by decide +kernel
theorem d_Mod_rests_59 : decode prog_8_method_65_code 59 = .ok (.idiv, 1) := by decide +kernel
theorem d_Mod_rests_60 : decode prog_8_method_65_code 60 = .ok (.invokevirtual 244, 3) := by decide +kernel
theorem d_Mod_rests_63 : decode prog_8_method_65_code 63 = .ok (.aload_n 0, 1) := by decide +kernel
theorem d_Mod_rests_64 : decode prog_8_method_65_code 64 = .ok (.iload_n 2, 1) := by decide +kernel
theorem d_Mod_rests_65 : decode prog_8_method_65_code 65 = .ok (.iload 4, 2) := by decide +kernel
theorem d_Mod_rests_67 : decode prog_8_method_65_code 67 = .ok (.iconst 2, 1) := by decide +kernel
theorem d_Mod_rests_68 : decode prog_8_method_65_code 68 = .ok (.irem, 1) := by decide +kernel
theorem d_Mod_rests_69 : decode prog_8_method_65_code 69 = .ok (.invokevirtual 244, 3) := by decide +kernel
theorem d_Mod_rests_72 : decode prog_8_method_65_code 72 = .ok (.aload_n 0, 1) := by decide +kernel
theorem d_Mod_rests_73 : decode prog_8_method_65_code 73 = .ok (.aload_n 0, 1) := by decide +kernel
theorem d_Mod_rests_74 : decode prog_8_method_65_code 74 = .ok (.getfield 28, 3) := by decide +kernel
theorem d_Mod_rests_77 : decode prog_8_method_65_code 77 = .ok (.iconst 3, 1) := by decide +kernel
theorem d_Mod_rests_78 : decode prog_8_method_65_code 78 = .ok (.invokevirtual 185, 3) := by decide +kernel
theorem d_Mod_rests_81 : decode prog_8_method_65_code 81 = .ok (.aload_n 0, 1) := by decide +kernel
theorem d_Mod_rests_82 : decode prog_8_method_65_code 82 = .ok (.getfield 50, 3) := by decide +kernel
theorem d_Mod_rests_85 : decode prog_8_method_65_code 85 = .ok (.iconst 2, 1) := by decide +kernel
theorem d_Mod_rests_86 : decode prog_8_method_65_code 86 = .ok (.iload 4, 2) := by decide +kernel
theorem d_Mod_rests_88 : decode prog_8_method_65_code 88 = .ok (.imul, 1) := by decide +kernel
theorem d_Mod_rests_89 : decode prog_8_method_65_code 89 = .ok (.aload_n 0, 1) := by decide +kernel
theorem d_Mod_rests_90 : decode prog_8_method_65_code 90 = .ok (.getfield 28, 3) := by decide +kernel
theorem d_Mod_rests_93 : decode prog_8_method_65_code 93 = .ok (.iload_n 1, 1) := by decide +kernel
theorem d_Mod_rests_94 : decode prog_8_method_65_code 94 = .ok (.invokestatic 110, 3) := by decide +kernel
theorem d_Mod_rests_97 : decode prog_8_method_65_code 97 = .ok (.aload_n 0, 1) := by decide +kernel
theorem d_Mod_rests_98 : decode prog_8_method_65_code 98 = .ok (.getfield 28, 3) := by decide +kernel
theorem d_Mod_rests_101 : decode prog_8_method_65_code 101 = .ok (.iload_n 1, 1) := by decide +kernel
theorem d_Mod_rests_102 : decode prog_8_method_65_code 102 = .ok (.iconst 1, 1) := by decide +kernel
theorem d_Mod_rests_103 : decode prog_8_method_65_code 103 = .ok (.iadd, 1) := by decide +kernel
theorem d_Mod_rests_104 : decode prog_8_method_65_code 104 = .ok (.iaload, 1) := by decide +kernel
theorem d_Mod_rests_105 : decode prog_8_method_65_code 105 = .ok (.iadd, 1) := by decide +kernel
theorem d_Mod_rests_106 : decode prog_8_method_65_code 106 = .ok (.iastore, 1) := by decide +kernel
theorem d_Mod_rests_107 : decode prog_8_method_65_code 107 = .ok (.aload_n 0, 1) := by decide +kernel
theorem d_Mod_rests_108 : decode prog_8_method_65_code 108 = .ok (.getfield 50, 3) := by decide +kernel
theorem d_Mod_rests_111 : decode prog_8_method_65_code 111 = .ok (.iconst 2, 1) := by decide +kernel
theorem d_Mod_rests_112 : decode prog_8_method_65_code 112 = .ok (.iload 4, 2) := by decide +kernel
theorem d_Mod_rests_114 : decode prog_8_method_65_code 114 = .ok (.imul, 1) := by decide +kernel
theorem d_Mod_rests_115 : decode prog_8_method_65_code 115 = .ok (.iconst 1, 1) := by decide +kernel
theorem d_Mod_rests_116 : decode prog_8_method_65_code 116 = .ok (.iadd, 1) := by decide +kernel
theorem d_Mod_rests_117 : decode prog_8_method_65_code 117 = .ok (.aload_n 0, 1) := by decide +kernel
theorem d_Mod_rests_118 : decode prog_8_method_65_code 118 = .ok (.getfield 28, 3) := by decide +kernel
theorem d_Mod_rests_121 : decode prog_8_method_65_code 121 = .ok (.iload_n 2, 1) := by decide +kernel
theorem d_Mod_rests_122 : decode prog_8_method_65_code 122 = .ok (.invokestatic 110, 3) := by decide +kernel
theorem d_Mod_rests_125 : decode prog_8_method_65_code 125 = .ok (.aload_n 0, 1) := by decide +kernel
theorem d_Mod_rests_126 : decode prog_8_method_65_code 126 = .ok (.getfield 28, 3) := by decide +kernel
theorem d_Mod_rests_129 : decode prog_8_method_65_code 129 = .ok (.iload_n 2, 1) := by decide +kernel
theorem d_Mod_rests_130 : decode prog_8_method_65_code 130 = .ok (.iconst 1, 1) := by decide +kernel
theorem d_Mod_rests_131 : decode prog_8_method_65_code 131 = .ok (.iadd, 1) := by decide +kernel
theorem d_Mod_rests_132 : decode prog_8_method_65_code 132 = .ok (.iaload, 1) := by decide +kernel
theorem d_Mod_rests_133 : decode prog_8_method_65_code 133 = .ok (.iadd, 1) := by decide +kernel
theorem d_Mod_rests_134 : decode prog_8_method_65_code 134 = .ok (.iastore, 1) := by decide +kernel
theorem d_Mod_rests_135 : decode prog_8_method_65_code 135 = .ok (.iinc 4 1, 3) := by decide +kernel
theorem d_Mod_rests_138 : decode prog_8_method_65_code 138 = .ok (.goto (-94), 3) := by decide +kernel
theorem d_Mod_rests_141 : decode prog_8_method_65_code 141 = .ok (.aload_n 0, 1) := by decide +kernel
theorem d_Mod_rests_142 : decode prog_8_method_65_code 142 = .ok (.iconst 0, 1) := by decide +kernel
theorem d_Mod_rests_143 : decode prog_8_method_65_code 143 = .ok (.putfield 248, 3) := by decide +kernel
theorem d_Mod_rests_146 : decode prog_8_method_65_code 146 = .ok (.aload_n 0, 1) := by decide +kernel
theorem d_Mod_rests_147 : decode prog_8_method_65_code 147 = .ok (.bipush (-9), 2) := by decide +kernel
theorem d_Mod_rests_149 : decode prog_8_method_65_code 149 = .ok (.putfield 251, 3) := by decide +kernel
theorem d_Mod_rests_152 : decode prog_8_method_65_code 152 = .ok (.iconst 0, 1) := by decide +kernel
theorem d_Mod_rests_153 : decode prog_8_method_65_code 153 = .ok (.istore 4, 2) := by decide +kernel
theorem d_Mod_rests_155 : decode prog_8_method_65_code 155 = .ok (.iload 4, 2) := by decide +kernel
theorem d_Mod_rests_157 : decode prog_8_method_65_code 157 = .ok (.iconst 4, 1) := by decide +kernel
theorem d_Mod_rests_158 : decode prog_8_method_65_code 158 = .ok (.if_icmp .ge 120, 3) := by decide +kernel
theorem d_Mod_rests_161 : decode prog_8_method_65_code 161 = .ok (.aload_n 0, 1) := by decide +kernel
theorem d_Mod_rests_162 : decode prog_8_method_65_code 162 = .ok (.getfield 50, 3) := by decide +kernel
theorem d_Mod_rests_165 : decode prog_8_method_65_code 165 = .ok (.iconst 2, 1) := by decide +kernel
theorem d_Mod_rests_166 : decode prog_8_method_65_code 166 = .ok (.iload 4, 2) := by decide +kernel
theorem d_Mod_rests_168 : decode prog_8_method_65_code 168 = .ok (.iconst 2, 1) := by decide +kernel
theorem d_Mod_rests_169 : decode prog_8_method_65_code 169 = .ok (.ixor, 1) := by decide +kernel
theorem d_Mod_rests_170 : decode prog_8_method_65_code 170 = .ok (.imul, 1) := by decide +kernel
theorem d_Mod_rests_171 : decode prog_8_method_65_code 171 = .ok (.iaload, 1) := by decide +kernel
theorem d_Mod_rests_172 : decode prog_8_method_65_code 172 = .ok (.aload_n 0, 1) := by decide +kernel
theorem d_Mod_rests_173 : decode prog_8_method_65_code 173 = .ok (.getfield 50, 3) := by decide +kernel
theorem d_Mod_rests_176 : decode prog_8_method_65_code 176 = .ok (.iconst 2, 1) := by decide +kernel
theorem d_Mod_rests_177 : decode prog_8_method_65_code 177 = .ok (.iload 4, 2) := by decide +kernel
theorem d_Mod_rests_179 : decode prog_8_method_65_code 179 = .ok (.imul, 1) := by decide +kernel
theorem d_Mod_rests_180 : decode prog_8_method_65_code 180 = .ok (.iaload, 1) := by decide +kernel
theorem d_Mod_rests_181 : decode prog_8_method_65_code 181 = .ok (.if_icmp .gt 34, 3) := by decide +kernel
theorem d_Mod_rests_184 : decode prog_8_method_65_code 184 = .ok (.aload_n 0, 1) := by decide +kernel
theorem d_Mod_rests_185 : decode prog_8_method_65_code 185 = .ok (.getfield 50, 3) := by decide +kernel
theorem d_Mod_rests_188 : decode prog_8_method_65_code 188 = .ok (.iconst 2, 1) := by decide +kernel
theorem d_Mod_rests_189 : decode prog_8_method_65_code 189 = .ok (.iload 4, 2) := by decide +kernel
theorem d_Mod_rests_191 : decode prog_8_method_65_code 191 = .ok (.iconst 1, 1) := by decide +kernel
theorem d_Mod_rests_192 : decode prog_8_method_65_code 192 = .ok (.ixor, 1) := by decide +kernel
theorem d_Mod_rests_193 : decode prog_8_method_65_code 193 = .ok (.imul, 1) := by decide +kernel
theorem d_Mod_rests_194 : decode prog_8_method_65_code 194 = .ok (.iconst 1, 1) := by decide +kernel
theorem d_Mod_rests_195 : decode prog_8_method_65_code 195 = .ok (.iadd, 1) := by decide +kernel
theorem d_Mod_rests_196 : decode prog_8_method_65_code 196 = .ok (.iaload, 1) := by decide +kernel
theorem d_Mod_rests_197 : decode prog_8_method_65_code 197 = .ok (.aload_n 0, 1) := by decide +kernel
theorem d_Mod_rests_198 : decode prog_8_method_65_code 198 = .ok (.getfield 50, 3) := by decide +kernel
theorem d_Mod_rests_201 : decode prog_8_method_65_code 201 = .ok (.iconst 2, 1) := by decide +kernel
theorem d_Mod_rests_202 : decode prog_8_method_65_code 202 = .ok (.iload 4, 2) := by decide +kernel
theorem d_Mod_rests_204 : decode prog_8_method_65_code 204 = .ok (.imul, 1) := by decide +kernel
theorem d_Mod_rests_205 : decode prog_8_method_65_code 205 = .ok (.iconst 1, 1) := by decide +kernel
theorem d_Mod_rests_206 : decode prog_8_method_65_code 206 = .ok (.iadd, 1) := by decide +kernel
theorem d_Mod_rests_207 : decode prog_8_method_65_code 207 = .ok (.iaload, 1) := by decide +kernel
theorem d_Mod_rests_208 : decode prog_8_method_65_code 208 = .ok (.if_icmp .gt 7, 3) := by decide +kernel
theorem d_Mod_rests_211 : decode prog_8_method_65_code 211 = .ok (.iconst 1, 1) := by decide +kernel
theorem d_Mod_rests_212 : decode prog_8_method_65_code 212 = .ok (.goto 4, 3) := by decide +kernel
theorem d_Mod_rests_215 : decode prog_8_method_65_code 215 = .ok (.iconst 0, 1) := by decide +kernel
theorem d_Mod_rests_216 : decode prog_8_method_65_code 216 = .ok (.istore 5, 2) := by decide +kernel
theorem d_Mod_rests_218 : decode prog_8_method_65_code 218 = .ok (.aload_n 0, 1) := by decide +kernel
theorem d_Mod_rests_219 : decode prog_8_method_65_code 219 = .ok (.iload 5, 2) := by decide +kernel
theorem d_Mod_rests_221 : decode prog_8_method_65_code 221 = .ok (.ifCond .eq 25, 3) := by decide +kernel
theorem d_Mod_rests_224 : decode prog_8_method_65_code 224 = .ok (.aload_n 0, 1) := by decide +kernel
theorem d_Mod_rests_225 : decode prog_8_method_65_code 225 = .ok (.getfield 248, 3) := by decide +kernel
theorem d_Mod_rests_228 : decode prog_8_method_65_code 228 = .ok (.ifCond .ne 18, 3) := by decide +kernel
theorem d_Mod_rests_231 : decode prog_8_method_65_code 231 = .ok (.bipush 10, 2) := by decide +kernel
theorem d_Mod_rests_233 : decode prog_8_method_65_code 233 = .ok (.iload 4, 2) := by decide +kernel
theorem d_Mod_rests_235 : decode prog_8_method_65_code 235 = .ok (.iconst 2, 1) := by decide +kernel
theorem d_Mod_rests_236 : decode prog_8_method_65_code 236 = .ok (.idiv, 1) := by decide +kernel
theorem d_Mod_rests_237 : decode prog_8_method_65_code 237 = .ok (.imul, 1) := by decide +kernel
theorem d_Mod_rests_238 : decode prog_8_method_65_code 238 = .ok (.iload 4, 2) := by decide +kernel
theorem d_Mod_rests_240 : decode prog_8_method_65_code 240 = .ok (.iconst 2, 1) := by decide +kernel
theorem d_Mod_rests_241 : decode prog_8_method_65_code 241 = .ok (.irem, 1) := by decide +kernel
theorem d_Mod_rests_242 : decode prog_8_method_65_code 242 = .ok (.iadd, 1) := by decide +kernel
theorem d_Mod_rests_243 : decode prog_8_method_65_code 243 = .ok (.goto 7, 3) := by decide +kernel
theorem d_Mod_rests_246 : decode prog_8_method_65_code 246 = .ok (.aload_n 0, 1) := by decide +kernel
theorem d_Mod_rests_247 : decode prog_8_method_65_code 247 = .ok (.getfield 251, 3) := by decide +kernel
theorem d_Mod_rests_250 : decode prog_8_method_65_code 250 = .ok (.putfield 251, 3) := by decide +kernel
theorem d_Mod_rests_253 : decode prog_8_method_65_code 253 = .ok (.aload_n 0, 1) := by decide +kernel
theorem d_Mod_rests_254 : decode prog_8_method_65_code 254 = .ok (.dup, 1) := by decide +kernel
theorem d_Mod_rests_255 : decode prog_8_method_65_code 255 = .ok (.getfield 248, 3) := by decide +kernel
theorem d_Mod_rests_258 : decode prog_8_method_65_code 258 = .ok (.iload 5, 2) := by decide +kernel
theorem d_Mod_rests_260 : decode prog_8_method_65_code 260 = .ok (.ifCond .eq 7, 3) := by decide +kernel
theorem d_Mod_rests_263 : decode prog_8_method_65_code 263 = .ok (.iconst 1, 1) := by decide +kernel
theorem d_Mod_rests_264 : decode prog_8_method_65_code 264 = .ok (.goto 4, 3) := by decide +kernel
theorem d_Mod_rests_267 : decode prog_8_method_65_code 267 = .ok (.iconst 0, 1) := by decide +kernel
theorem d_Mod_rests_268 : decode prog_8_method_65_code 268 = .ok (.iadd, 1) := by decide +kernel
theorem d_Mod_rests_269 : decode prog_8_method_65_code 269 = .ok (.putfield 248, 3) := by decide +kernel
theorem d_Mod_rests_272 : decode prog_8_method_65_code 272 = .ok (.iinc 4 1, 3) := by decide +kernel
theorem d_Mod_rests_275 : decode prog_8_method_65_code 275 = .ok (.goto (-120), 3) := by decide +kernel
theorem d_Mod_rests_278 : decode prog_8_method_65_code 278 = .ok (.iload_n 3, 1) := by decide +kernel
theorem d_Mod_rests_279 : decode prog_8_method_65_code 279 = .ok (.ifCond .ne 10, 3) := by decide +kernel
theorem d_Mod_rests_282 : decode prog_8_method_65_code 282 = .ok (.aload_n 0, 1) := by decide +kernel
theorem d_Mod_rests_283 : decode prog_8_method_65_code 283 = .ok (.getfield 248, 3) := by decide +kernel
theorem d_Mod_rests_286 : decode prog_8_method_65_code 286 = .ok (.goto 7, 3) := by decide +kernel
theorem d_Mod_rests_289 : decode prog_8_method_65_code 289 = .ok (.aload_n 0, 1) := by decide +kernel
theorem d_Mod_rests_290 : decode prog_8_method_65_code 290 = .ok (.getfield 251, 3) := by decide +kernel
theorem d_Mod_rests_293 : decode prog_8_method_65_code 293 = .ok (.ireturn, 1) := by decide +kernel
theorem d_Mod_clouds_0 : decode prog_8_method_66_code 0 = .ok (.aload_n 0, 1) := by decide +kernel
theorem d_Mod_clouds_1 : decode prog_8_method_66_code 1 = .ok (.iconst 0, 1) := by decide +kernel
theorem d_Mod_clouds_2 : decode prog_8_method_66_code 2 = .ok (.putfield 56, 3) := by decide +kernel
theorem d_Mod_clouds_5 : decode prog_8_method_66_code 5 = .ok (.aload_n 0, 1) := by decide +kernel
theorem d_Mod_clouds_6 : decode prog_8_method_66_code 6 = .ok (.iload_n 1, 1) := by decide +kernel
theorem d_Mod_clouds_7 : decode prog_8_method_66_code 7 = .ok (.invokevirtual 159, 3) := by decide +kernel
theorem d_Mod_clouds_10 : decode prog_8_method_66_code 10 = .ok (.ifCond .eq 5, 3) := by decide +kernel
theorem d_Mod_clouds_13 : decode prog_8_method_66_code 13 = .ok (.iconst (-1), 1) := by decide +kernel
theorem d_Mod_clouds_14 : decode prog_8_method_66_code 14 = .ok (.ireturn, 1) := by decide +kernel
theorem d_Mod_clouds_15 : decode prog_8_method_66_code 15 = .ok (.iload_n 2, 1) := by decide +kernel
theorem d_Mod_clouds_16 : decode prog_8_method_66_code 16 = .ok (.i2l, 1) := by decide +kernel
theorem d_Mod_clouds_17 : decode prog_8_method_66_code 17 = .ok (.lconst 1, 1) := by decide +kernel
theorem d_Mod_clouds_18 : decode prog_8_method_66_code 18 = .ok (.ldc2_w 254, 3) := by decide +kernel
theorem d_Mod_clouds_21 : decode prog_8_method_66_code 21 = .ok (.invokestatic 63, 3) := by decide +kernel
theorem d_Mod_clouds_24 : decode prog_8_method_66_code 24 = .ok (.ifCond .eq 28, 3) := by decide +kernel
theorem d_Mod_clouds_27 : decode prog_8_method_66_code 27 = .ok (.iload_n 3, 1) := by decide +kernel
theorem d_Mod_clouds_28 : decode prog_8_method_66_code 28 = .ok (.i2l, 1) := by decide +kernel
theorem d_Mod_clouds_29 : decode prog_8_method_66_code 29 = .ok (.lconst 0, 1) := by decide +kernel
theorem d_Mod_clouds_30 : decode prog_8_method_66_code 30 = .ok (.ldc2_w 236, 3) := by decide +kernel
theorem d_Mod_clouds_33 : decode prog_8_method_66_code 33 = .ok (.invokestatic 63, 3) := by decide +kernel
theorem d_Mod_clouds_36 : decode prog_8_method_66_code 36 = .ok (.ifCond .eq 16, 3) := by decide +kernel
theorem d_Mod_clouds_39 : decode prog_8_method_66_code 39 = .ok (.iload 4, 2) := by decide +kernel
theorem d_Mod_clouds_41 : decode prog_8_method_66_code 41 = .ok (.i2l, 1) := by decide +kernel
theorem d_Mod_clouds_42 : decode prog_8_method_66_code 42 = .ok (.lconst 0, 1) := by decide +kernel
theorem d_Mod_clouds_43 : decode prog_8_method_66_code 43 = .ok (.ldc2_w 256, 3) := by decide +kernel
theorem d_Mod_clouds_46 : decode prog_8_method_66_code 46 = .ok (.invokestatic 63, 3) := by decide +kernel
theorem d_Mod_clouds_49 : decode prog_8_method_66_code 49 = .ok (.ifCond .ne 6, 3) := by decide +kernel
theorem d_Mod_clouds_52 : decode prog_8_method_66_code 52 = .ok (.bipush (-2), 2) := by decide +kernel
theorem d_Mod_clouds_54 : decode prog_8_method_66_code 54 = .ok (.ireturn, 1) := by decide +kernel
theorem d_Mod_clouds_55 : decode prog_8_method_66_code 55 = .ok (.iconst 0, 1) := by decide +kernel
theorem d_Mod_clouds_56 : decode prog_8_method_66_code 56 = .ok (.istore 6, 2) := by decide +kernel
theorem d_Mod_clouds_58 : decode prog_8_method_66_code 58 = .ok (.iconst 0, 1) := by decide +kernel
theorem d_Mod_clouds_59 : decode prog_8_method_66_code 59 = .ok (.istore 7, 2) := by decide +kernel
theorem d_Mod_clouds_61 : decode prog_8_method_66_code 61 = .ok (.iload 7, 2) := by decide +kernel
theorem d_Mod_clouds_63 : decode prog_8_method_66_code 63 = .ok (.iconst 1, 1) := by decide +kernel
theorem d_Mod_clouds_64 : decode prog_8_method_66_code 64 = .ok (.iload_n 2, 1) := by decide +kernel
theorem d_Mod_clouds_65 : decode prog_8_method_66_code 65 = .ok (.ishl, 1) := by decide +kernel
theorem d_Mod_clouds_66 : decode prog_8_method_66_code 66 = .ok (.if_icmp .ge 99, 3) := by decide +kernel
theorem d_Mod_clouds_69 : decode prog_8_method_66_code 69 = .ok (.aload_n 0, 1) := by decide +kernel
theorem d_Mod_clouds_70 : decode prog_8_method_66_code 70 = .ok (.invokevirtual 182, 3) := by decide +kernel
theorem d_Mod_clouds_73 : decode prog_8_method_66_code 73 = .ok (.iconst 0, 1) := by decide +kernel
theorem d_Mod_clouds_74 : decode prog_8_method_66_code 74 = .ok (.istore 8, 2) := by decide +kernel
theorem d_Mod_clouds_76 : decode prog_8_method_66_code 76 = .ok (.iload 8, 2) := by decide +kernel
theorem d_Mod_clouds_78 : decode prog_8_method_66_code 78 = .ok (.iload_n 2, 1) := by decide +kernel
theorem d_Mod_clouds_79 : decode prog_8_method_66_code 79 = .ok (.if_icmp .ge 32, 3) := by decide +kernel
theorem d_Mod_clouds_82 : decode prog_8_method_66_code 82 = .ok (.aload_n 0, 1) := by decide +kernel
theorem d_Mod_clouds_83 : decode prog_8_method_66_code 83 = .ok (.aload_n 0, 1) := by decide +kernel
theorem d_Mod_clouds_84 : decode prog_8_method_66_code 84 = .ok (.getfield 28, 3) := by decide +kernel
theorem d_Mod_clouds_87 : decode prog_8_method_66_code 87 = .ok (.iload 7, 2) := by decide +kernel
theorem d_Mod_clouds_89 : decode prog_8_method_66_code 89 = .ok (.iload 8, 2) := by decide +kernel
theorem d_Mod_clouds_91 : decode prog_8_method_66_code 91 = .ok (.invokestatic 124, 3) := by decide +kernel
theorem d_Mod_clouds_94 : decode prog_8_method_66_code 94 = .ok (.ifCond .ne 7, 3) := by decide +kernel
theorem d_Mod_clouds_97 : decode prog_8_method_66_code 97 = .ok (.iconst 1, 1) := by decide +kernel
theorem d_Mod_clouds_98 : decode prog_8_method_66_code 98 = .ok (.goto 4, 3) := by decide +kernel
theorem d_Mod_clouds_101 : decode prog_8_method_66_code 101 = .ok (.iconst 0, 1) := by decide +kernel
theorem d_Mod_clouds_102 : decode prog_8_method_66_code 102 = .ok (.invokevirtual 138, 3) := by decide +kernel
theorem d_Mod_clouds_105 : decode prog_8_method_66_code 105 = .ok (.iinc 8 1, 3) := by decide +kernel
theorem d_Mod_clouds_108 : decode prog_8_method_66_code 108 = .ok (.goto (-32), 3) := by decide +kernel
theorem d_Mod_clouds_111 : decode prog_8_method_66_code 111 = .ok (.iload 7, 2) := by decide +kernel
theorem d_Mod_clouds_113 : decode prog_8_method_66_code 113 = .ok (.invokestatic 200, 3) := by decide +kernel
theorem d_Mod_clouds_116 : decode prog_8_method_66_code 116 = .ok (.istore 8, 2) := by decide +kernel
theorem d_Mod_clouds_118 : decode prog_8_method_66_code 118 = .ok (.iload 6, 2) := by decide +kernel
theorem d_Mod_clouds_120 : decode prog_8_method_66_code 120 = .ok (.aload_n 0, 1) := by decide +kernel
theorem d_Mod_clouds_121 : decode prog_8_method_66_code 121 = .ok (.getfield 28, 3) := by decide +kernel
theorem d_Mod_clouds_124 : decode prog_8_method_66_code 124 = .ok (.iload_n 1, 1) := by decide +kernel
theorem d_Mod_clouds_125 : decode prog_8_method_66_code 125 = .ok (.invokestatic 110, 3) := by decide +kernel
theorem d_Mod_clouds_128 : decode prog_8_method_66_code 128 = .ok (.iload_n 3, 1) := by decide +kernel
theorem d_Mod_clouds_129 : decode prog_8_method_66_code 129 = .ok (.if_icmp .lt 26, 3) := by decide +kernel
theorem d_Mod_clouds_132 : decode prog_8_method_66_code 132 = .ok (.iload 4, 2) := by decide +kernel
theorem d_Mod_clouds_134 : decode prog_8_method_66_code 134 = .ok (.iload 8, 2) := by decide +kernel
theorem d_Mod_clouds_136 : decode prog_8_method_66_code 136 = .ok (.invokestatic 258, 3) := by decide +kernel
theorem d_Mod_clouds_139 : decode prog_8_method_66_code 139 = .ok (.bipush 10, 2) := by decide +kernel
theorem d_Mod_clouds_141 : decode prog_8_method_66_code 141 = .ok (.iload 4, 2) := by decide +kernel
theorem d_Mod_clouds_143 : decode prog_8_method_66_code 143 = .ok (.isub, 1) := by decide +kernel
theorem d_Mod_clouds_144 : decode prog_8_method_66_code 144 = .ok (.iload_n 2, 1) := by decide +kernel
theorem d_Mod_clouds_145 : decode prog_8_method_66_code 145 = .ok (.iload 8, 2) := by decide +kernel
theorem d_Mod_clouds_147 : decode prog_8_method_66_code 147 = .ok (.isub, 1) := by decide +kernel
theorem d_Mod_clouds_148 : decode prog_8_method_66_code 148 = .ok (.invokestatic 258, 3) := by decide +kernel
theorem d_Mod_clouds_151 : decode prog_8_method_66_code 151 = .ok (.imul, 1) := by decide +kernel
theorem d_Mod_clouds_152 : decode prog_8_method_66_code 152 = .ok (.goto 4, 3) := by decide +kernel
theorem d_Mod_clouds_155 : decode prog_8_method_66_code 155 = .ok (.iconst 0, 1) := by decide +kernel
theorem d_Mod_clouds_156 : decode prog_8_method_66_code 156 = .ok (.iadd, 1) := by decide +kernel
theorem d_Mod_clouds_157 : decode prog_8_method_66_code 157 = .ok (.istore 6, 2) := by decide +kernel
theorem d_Mod_clouds_159 : decode prog_8_method_66_code 159 = .ok (.iinc 7 1, 3) := by decide +kernel
theorem d_Mod_clouds_162 : decode prog_8_method_66_code 162 = .ok (.goto (-101), 3) := by decide +kernel
theorem d_Mod_clouds_165 : decode prog_8_method_66_code 165 = .ok (.iload 6, 2) := by decide +kernel
theorem d_Mod_clouds_167 : decode prog_8_method_66_code 167 = .ok (.bipush 10, 2) := by decide +kernel
theorem d_Mod_clouds_169 : decode prog_8_method_66_code 169 = .ok (.iload_n 2, 1) := by decide +kernel
theorem d_Mod_clouds_170 : decode prog_8_method_66_code 170 = .ok (.invokestatic 258, 3) := by decide +kernel
theorem d_Mod_clouds_173 : decode prog_8_method_66_code 173 = .ok (.iload 5, 2) := by decide +kernel
theorem d_Mod_clouds_175 : decode prog_8_method_66_code 175 = .ok (.invokestatic 232, 3) := by decide +kernel
theorem d_Mod_clouds_178 : decode prog_8_method_66_code 178 = .ok (.ireturn, 1) := by decide +kernel
theorem d_Mod_seed_0 : decode prog_8_method_67_code 0 = .ok (.aload_n 0, 1) := by decide +kernel
theorem d_Mod_seed_1 : decode prog_8_method_67_code 1 = .ok (.iconst 0, 1) := by decide +kernel
theorem d_Mod_seed_2 : decode prog_8_method_67_code 2 = .ok (.putfield 56, 3) := by decide +kernel
theorem d_Mod_seed_5 : decode prog_8_method_67_code 5 = .ok (.aload_n 0, 1) := by decide +kernel
theorem d_Mod_seed_6 : decode prog_8_method_67_code 6 = .ok (.getfield 261, 3) := by decide +kernel
theorem d_Mod_seed_9 : decode prog_8_method_67_code 9 = .ok (.lstore_n 3, 1) := by decide +kernel
theorem d_Mod_seed_10 : decode prog_8_method_67_code 10 = .ok (.aload_n 0, 1) := by decide +kernel
theorem d_Mod_seed_11 : decode prog_8_method_67_code 11 = .ok (.lload_n 1, 1) := by decide +kernel
theorem d_Mod_seed_12 : decode prog_8_method_67_code 12 = .ok (.putfield 261, 3) := by decide +kernel
theorem d_Mod_seed_15 : decode prog_8_method_67_code 15 = .ok (.lload_n 3, 1) := by decide +kernel
theorem d_Mod_seed_16 : decode prog_8_method_67_code 16 = .ok (.lreturn, 1) := by decide +kernel
theorem d_Mod_years_0 : decode prog_8_method_68_code 0 = .ok (.aload_n 0, 1) := by decide +kernel
theorem d_Mod_years_1 : decode prog_8_method_68_code 1 = .ok (.iconst 0, 1) := by decide +kernel
theorem d_Mod_years_2 : decode prog_8_method_68_code 2 = .ok (.putfield 56, 3) := by decide +kernel
theorem d_Mod_years_5 : decode prog_8_method_68_code 5 = .ok (.iload_n 1, 1) := by decide +kernel
theorem d_Mod_years_6 : decode prog_8_method_68_code 6 = .ok (.i2l, 1) := by decide +kernel
theorem d_Mod_years_7 : decode prog_8_method_68_code 7 = .ok (.lconst 1, 1) := by decide +kernel
theorem d_Mod_years_8 : decode prog_8_method_68_code 8 = .ok (.ldc2_w 178, 3) := by decide +kernel
theorem d_Mod_years_11 : decode prog_8_method_68_code 11 = .ok (.invokestatic 63, 3) := by decide +kernel
theorem d_Mod_years_14 : decode prog_8_method_68_code 14 = .ok (.ifCond .ne 6, 3) := by decide +kernel
theorem d_Mod_years_17 : decode prog_8_method_68_code 17 = .ok (.bipush (-2), 2) := by decide +kernel
theorem d_Mod_years_19 : decode prog_8_method_68_code 19 = .ok (.ireturn, 1) := by decide +kernel
theorem d_Mod_years_20 : decode prog_8_method_68_code 20 = .ok (.aload_n 0, 1) := by decide +kernel
theorem d_Mod_years_21 : decode prog_8_method_68_code 21 = .ok (.invokevirtual 182, 3) := by decide +kernel
theorem d_Mod_years_24 : decode prog_8_method_68_code 24 = .ok (.iconst 0, 1) := by decide +kernel
theorem d_Mod_years_25 : decode prog_8_method_68_code 25 = .ok (.istore_n 2, 1) := by decide +kernel
theorem d_Mod_years_26 : decode prog_8_method_68_code 26 = .ok (.iconst 0, 1) := by decide +kernel
theorem d_Mod_years_27 : decode prog_8_method_68_code 27 = .ok (.istore_n 3, 1) := by decide +kernel
theorem d_Mod_years_28 : decode prog_8_method_68_code 28 = .ok (.iload_n 3, 1) := by decide +kernel
theorem d_Mod_years_29 : decode prog_8_method_68_code 29 = .ok (.iload_n 1, 1) := by decide +kernel
theorem d_Mod_years_30 : decode prog_8_method_68_code 30 = .ok (.if_icmp .ge 104, 3) := by decide +kernel
theorem d_Mod_years_33 : decode prog_8_method_68_code 33 = .ok (.aload_n 0, 1) := by decide +kernel
theorem d_Mod_years_34 : decode prog_8_method_68_code 34 = .ok (.aload_n 0, 1) := by decide +kernel
theorem d_Mod_years_35 : decode prog_8_method_68_code 35 = .ok (.getfield 261, 3) := by decide +kernel
theorem d_Mod_years_38 : decode prog_8_method_68_code 38 = .ok (.ldc2_w 265, 3) := by decide +kernel
theorem d_Mod_years_41 : decode prog_8_method_68_code 41 = .ok (.lmul, 1) := by decide +kernel
theorem d_Mod_years_42 : decode prog_8_method_68_code 42 = .ok (.ldc2_w 267, 3) := by decide +kernel
theorem d_Mod_years_45 : decode prog_8_method_68_code 45 = .ok (.ladd, 1) := by decide +kernel
theorem d_Mod_years_46 : decode prog_8_method_68_code 46 = .ok (.putfield 261, 3) := by decide +kernel
theorem d_Mod_years_49 : decode prog_8_method_68_code 49 = .ok (.aload_n 0, 1) := by decide +kernel
theorem d_Mod_years_50 : decode prog_8_method_68_code 50 = .ok (.getfield 261, 3) := by decide +kernel
theorem d_Mod_years_53 : decode prog_8_method_68_code 53 = .ok (.bipush 33, 2) := by decide +kernel
theorem d_Mod_years_55 : decode prog_8_method_68_code 55 = .ok (.lushr, 1) := by decide +kernel
theorem d_Mod_years_56 : decode prog_8_method_68_code 56 = .ok (.ldc2_w 269, 3) := by decide +kernel
theorem d_Mod_years_59 : decode prog_8_method_68_code 59 = .ok (.lrem, 1) := by decide +kernel
theorem d_Mod_years_60 : decode prog_8_method_68_code 60 = .ok (.l2i, 1) := by decide +kernel
theorem d_Mod_years_61 : decode prog_8_method_68_code 61 = .ok (.istore 4, 2) := by decide +kernel
theorem d_Mod_years_63 : decode prog_8_method_68_code 63 = .ok (.aload_n 0, 1) := by decide +kernel
theorem d_Mod_years_64 : decode prog_8_method_68_code 64 = .ok (.iload 4, 2) := by decide +kernel
theorem d_Mod_years_66 : decode prog_8_method_68_code 66 = .ok (.iconst 5, 1) := by decide +kernel
theorem d_Mod_years_67 : decode prog_8_method_68_code 67 = .ok (.if_icmp .ge 12, 3) := by decide +kernel
theorem d_Mod_years_70 : decode prog_8_method_68_code 70 = .ok (.sipush 300, 3) := by decide +kernel
theorem d_Mod_years_73 : decode prog_8_method_68_code 73 = .ok (.iload 4, 2) := by decide +kernel
theorem d_Mod_years_75 : decode prog_8_method_68_code 75 = .ok (.iadd, 1) := by decide +kernel
theorem d_Mod_years_76 : decode prog_8_method_68_code 76 = .ok (.goto 37, 3) := by decide +kernel
theorem d_Mod_years_79 : decode prog_8_method_68_code 79 = .ok (.iload 4, 2) := by decide +kernel
theorem d_Mod_years_81 : decode prog_8_method_68_code 81 = .ok (.bipush 10, 2) := by decide +kernel
theorem d_Mod_years_83 : decode prog_8_method_68_code 83 = .ok (.if_icmp .ge 17, 3) := by decide +kernel
theorem d_Mod_years_86 : decode prog_8_method_68_code 86 = .ok (.sipush 201, 3) := by decide +kernel
theorem d_Mod_years_89 : decode prog_8_method_68_code 89 = .ok (.bipush 10, 2) := by decide +kernel
theorem d_Mod_years_91 : decode prog_8_method_68_code 91 = .ok (.iload 4, 2) := by decide +kernel
theorem d_Mod_years_93 : decode prog_8_method_68_code 93 = .ok (.iconst 5, 1) := by decide +kernel
theorem d_Mod_years_94 : decode prog_8_method_68_code 94 = .ok (.isub, 1) := by decide +kernel
theorem d_Mod_years_95 : decode prog_8_method_68_code 95 = .ok (.imul, 1) := by decide +kernel
theorem d_Mod_years_96 : decode prog_8_method_68_code 96 = .ok (.iadd, 1) := by decide +kernel
theorem d_Mod_years_97 : decode prog_8_method_68_code 97 = .ok (.goto 16, 3) := by decide +kernel
theorem d_Mod_years_100 : decode prog_8_method_68_code 100 = .ok (.iload 4, 2) := by decide +kernel
theorem d_Mod_years_102 : decode prog_8_method_68_code 102 = .ok (.bipush 12, 2) := by decide +kernel
theorem d_Mod_years_104 : decode prog_8_method_68_code 104 = .ok (.if_icmp .ge 8, 3) := by decide +kernel
theorem d_Mod_years_107 : decode prog_8_method_68_code 107 = .ok (.bipush 103, 2) := by decide +kernel
theorem d_Mod_years_109 : decode prog_8_method_68_code 109 = .ok (.goto 4, 3) := by decide +kernel
theorem d_Mod_years_112 : decode prog_8_method_68_code 112 = .ok (.iconst 0, 1) := by decide +kernel
theorem d_Mod_years_113 : decode prog_8_method_68_code 113 = .ok (.invokevirtual 223, 3) := by decide +kernel
theorem d_Mod_years_116 : decode prog_8_method_68_code 116 = .ok (.pop, 1) := by decide +kernel
theorem d_Mod_years_117 : decode prog_8_method_68_code 117 = .ok (.iload_n 2, 1) := by decide +kernel
theorem d_Mod_years_118 : decode prog_8_method_68_code 118 = .ok (.aload_n 0, 1) := by decide +kernel
theorem d_Mod_years_119 : decode prog_8_method_68_code 119 = .ok (.aload_n 0, 1) := by decide +kernel
theorem d_Mod_years_120 : decode prog_8_method_68_code 120 = .ok (.getfield 28, 3) := by decide +kernel
theorem d_Mod_years_123 : decode prog_8_method_68_code 123 = .ok (.invokevirtual 150, 3) := by decide +kernel
theorem d_Mod_years_126 : decode prog_8_method_68_code 126 = .ok (.iadd, 1) := by decide +kernel
theorem d_Mod_years_127 : decode prog_8_method_68_code 127 = .ok (.istore_n 2, 1) := by decide +kernel
theorem d_Mod_years_128 : decode prog_8_method_68_code 128 = .ok (.iinc 3 1, 3) := by decide +kernel
theorem d_Mod_years_131 : decode prog_8_method_68_code 131 = .ok (.goto (-103), 3) := by decide +kernel
theorem d_Mod_years_134 : decode prog_8_method_68_code 134 = .ok (.iload_n 2, 1) := by decide +kernel
theorem d_Mod_years_135 : decode prog_8_method_68_code 135 = .ok (.ireturn, 1) := by decide +kernel
theorem d_Mod_keep_0 : decode prog_8_method_69_code 0 = .ok (.aload_n 0, 1) := by decide +kernel
theorem d_Mod_keep_1 : decode prog_8_method_69_code 1 = .ok (.iconst 0, 1) := by decide +kernel
theorem d_Mod_keep_2 : decode prog_8_method_69_code 2 = .ok (.putfield 56, 3) := by decide +kernel
theorem d_Mod_keep_5 : decode prog_8_method_69_code 5 = .ok (.iload_n 1, 1) := by decide +kernel
theorem d_Mod_keep_6 : decode prog_8_method_69_code 6 = .ok (.i2l, 1) := by decide +kernel
theorem d_Mod_keep_7 : decode prog_8_method_69_code 7 = .ok (.lconst 0, 1) := by decide +kernel
theorem d_Mod_keep_8 : decode prog_8_method_69_code 8 = .ok (.lconst 1, 1) := by decide +kernel
theorem d_Mod_keep_9 : decode prog_8_method_69_code 9 = .ok (.invokestatic 63, 3) := by decide +kernel
theorem d_Mod_keep_12 : decode prog_8_method_69_code 12 = .ok (.ifCond .ne 5, 3) := by decide +kernel
theorem d_Mod_keep_15 : decode prog_8_method_69_code 15 = .ok (.iconst (-1), 1) := by decide +kernel
theorem d_Mod_keep_16 : decode prog_8_method_69_code 16 = .ok (.ireturn, 1) := by decide +kernel
theorem d_Mod_keep_17 : decode prog_8_method_69_code 17 = .ok (.aload_n 0, 1) := by decide +kernel
theorem d_Mod_keep_18 : decode prog_8_method_69_code 18 = .ok (.getfield 37, 3) := by decide +kernel
theorem d_Mod_keep_21 : decode prog_8_method_69_code 21 = .ok (.iload_n 1, 1) := by decide +kernel
theorem d_Mod_keep_22 : decode prog_8_method_69_code 22 = .ok (.iconst 1, 1) := by decide +kernel
theorem d_Mod_keep_23 : decode prog_8_method_69_code 23 = .ok (.bastore, 1) := by decide +kernel
theorem d_Mod_keep_24 : decode prog_8_method_69_code 24 = .ok (.iconst 0, 1) := by decide +kernel
theorem d_Mod_keep_25 : decode prog_8_method_69_code 25 = .ok (.istore_n 2, 1) := by decide +kernel
theorem d_Mod_keep_26 : decode prog_8_method_69_code 26 = .ok (.iload_n 2, 1) := by decide +kernel
theorem d_Mod_keep_27 : decode prog_8_method_69_code 27 = .ok (.bipush 15, 2) := by decide +kernel
theorem d_Mod_keep_29 : decode prog_8_method_69_code 29 = .ok (.if_icmp .ge 26, 3) := by decide +kernel
theorem d_Mod_keep_32 : decode prog_8_method_69_code 32 = .ok (.aload_n 0, 1) := by decide +kernel
theorem d_Mod_keep_33 : decode prog_8_method_69_code 33 = .ok (.getfield 34, 3) := by decide +kernel
theorem d_Mod_keep_36 : decode prog_8_method_69_code 36 = .ok (.bipush 15, 2) := by decide +kernel
theorem d_Mod_keep_38 : decode prog_8_method_69_code 38 = .ok (.iload_n 1, 1) := by decide +kernel
theorem d_Mod_keep_39 : decode prog_8_method_69_code 39 = .ok (.imul, 1) := by decide +kernel
theorem d_Mod_keep_40 : decode prog_8_method_69_code 40 = .ok (.iload_n 2, 1) := by decide +kernel
theorem d_Mod_keep_41 : decode prog_8_method_69_code 41 = .ok (.iadd, 1) := by decide +kernel
theorem d_Mod_keep_42 : decode prog_8_method_69_code 42 = .ok (.aload_n 0, 1) := by decide +kernel
theorem d_Mod_keep_43 : decode prog_8_method_69_code 43 = .ok (.getfield 25, 3) := by decide +kernel
theorem d_Mod_keep_46 : decode prog_8_method_69_code 46 = .ok (.iload_n 2, 1) := by decide +kernel
theorem d_Mod_keep_47 : decode prog_8_method_69_code 47 = .ok (.iaload, 1) := by decide +kernel
theorem d_Mod_keep_48 : decode prog_8_method_69_code 48 = .ok (.iastore, 1) := by decide +kernel
theorem d_Mod_keep_49 : decode prog_8_method_69_code 49 = .ok (.iinc 2 1, 3) := by decide +kernel
theorem d_Mod_keep_52 : decode prog_8_method_69_code 52 = .ok (.goto (-26), 3) := by decide +kernel
theorem d_Mod_keep_55 : decode prog_8_method_69_code 55 = .ok (.aload_n 0, 1) := by decide +kernel
theorem d_Mod_keep_56 : decode prog_8_method_69_code 56 = .ok (.getfield 25, 3) := by decide +kernel
theorem d_Mod_keep_59 : decode prog_8_method_69_code 59 = .ok (.bipush 14, 2) := by decide +kernel
theorem d_Mod_keep_61 : decode prog_8_method_69_code 61 = .ok (.iaload, 1) := by decide +kernel
theorem d_Mod_keep_62 : decode prog_8_method_69_code 62 = .ok (.ireturn, 1) := by decide +kernel
theorem d_Mod_again_0 : decode prog_8_method_70_code 0 = .ok (.aload_n 0, 1) := by decide +kernel
theorem d_Mod_again_1 : decode prog_8_method_70_code 1 = .ok (.iconst 0, 1) := by decide +kernel
theorem d_Mod_again_2 : decode prog_8_method_70_code 2 = .ok (.putfield 56, 3) := by decide +kernel
theorem d_Mod_again_5 : decode prog_8_method_70_code 5 = .ok (.iload_n 1, 1) := by decide +kernel
theorem d_Mod_again_6 : decode prog_8_method_70_code 6 = .ok (.i2l, 1) := by decide +kernel
theorem d_Mod_again_7 : decode prog_8_method_70_code 7 = .ok (.lconst 0, 1) := by decide +kernel
theorem d_Mod_again_8 : decode prog_8_method_70_code 8 = .ok (.lconst 1, 1) := by decide +kernel
theorem d_Mod_again_9 : decode prog_8_method_70_code 9 = .ok (.invokestatic 63, 3) := by decide +kernel
theorem d_Mod_again_12 : decode prog_8_method_70_code 12 = .ok (.ifCond .ne 5, 3) := by decide +kernel
theorem d_Mod_again_15 : decode prog_8_method_70_code 15 = .ok (.iconst (-1), 1) := by decide +kernel
theorem d_Mod_again_16 : decode prog_8_method_70_code 16 = .ok (.ireturn, 1) := by decide +kernel
theorem d_Mod_again_17 : decode prog_8_method_70_code 17 = .ok (.aload_n 0, 1) := by decide +kernel
theorem d_Mod_again_18 : decode prog_8_method_70_code 18 = .ok (.getfield 37, 3) := by decide +kernel
theorem d_Mod_again_21 : decode prog_8_method_70_code 21 = .ok (.iload_n 1, 1) := by decide +kernel
theorem d_Mod_again_22 : decode prog_8_method_70_code 22 = .ok (.baload, 1) := by decide +kernel
theorem d_Mod_again_23 : decode prog_8_method_70_code 23 = .ok (.ifCond .ne 6, 3) := by decide +kernel
theorem d_Mod_again_26 : decode prog_8_method_70_code 26 = .ok (.bipush (-3), 2) := by decide +kernel
theorem d_Mod_again_28 : decode prog_8_method_70_code 28 = .ok (.ireturn, 1) := by decide +kernel
theorem d_Mod_again_29 : decode prog_8_method_70_code 29 = .ok (.iconst 0, 1) := by decide +kernel
theorem d_Mod_again_30 : decode prog_8_method_70_code 30 = .ok (.istore_n 2, 1) := by decide +kernel
theorem d_Mod_again_31 : decode prog_8_method_70_code 31 = .ok (.iload_n 2, 1) := by decide +kernel
theorem d_Mod_again_32 : decode prog_8_method_70_code 32 = .ok (.bipush 15, 2) := by decide +kernel
theorem d_Mod_again_34 : decode prog_8_method_70_code 34 = .ok (.if_icmp .ge 26, 3) := by decide +kernel
theorem d_Mod_again_37 : decode prog_8_method_70_code 37 = .ok (.aload_n 0, 1) := by decide +kernel
theorem d_Mod_again_38 : decode prog_8_method_70_code 38 = .ok (.getfield 25, 3) := by decide +kernel
theorem d_Mod_again_41 : decode prog_8_method_70_code 41 = .ok (.iload_n 2, 1) := by decide +kernel
theorem d_Mod_again_42 : decode prog_8_method_70_code 42 = .ok (.aload_n 0, 1) := by decide +kernel
theorem d_Mod_again_43 : decode prog_8_method_70_code 43 = .ok (.getfield 34, 3) := by decide +kernel
theorem d_Mod_again_46 : decode prog_8_method_70_code 46 = .ok (.bipush 15, 2) := by decide +kernel
theorem d_Mod_again_48 : decode prog_8_method_70_code 48 = .ok (.iload_n 1, 1) := by decide +kernel
theorem d_Mod_again_49 : decode prog_8_method_70_code 49 = .ok (.imul, 1) := by decide +kernel
theorem d_Mod_again_50 : decode prog_8_method_70_code 50 = .ok (.iload_n 2, 1) := by decide +kernel
theorem d_Mod_again_51 : decode prog_8_method_70_code 51 = .ok (.iadd, 1) := by decide +kernel
theorem d_Mod_again_52 : decode prog_8_method_70_code 52 = .ok (.iaload, 1) := by decide +kernel
theorem d_Mod_again_53 : decode prog_8_method_70_code 53 = .ok (.iastore, 1) := by decide +kernel
theorem d_Mod_again_54 : decode prog_8_method_70_code 54 = .ok (.iinc 2 1, 3) := by decide +kernel
theorem d_Mod_again_57 : decode prog_8_method_70_code 57 = .ok (.goto (-26), 3) := by decide +kernel
theorem d_Mod_again_60 : decode prog_8_method_70_code 60 = .ok (.aload_n 0, 1) := by decide +kernel
theorem d_Mod_again_61 : decode prog_8_method_70_code 61 = .ok (.iconst 0, 1) := by decide +kernel
theorem d_Mod_again_62 : decode prog_8_method_70_code 62 = .ok (.putfield 103, 3) := by decide +kernel
theorem d_Mod_again_65 : decode prog_8_method_70_code 65 = .ok (.aload_n 0, 1) := by decide +kernel
theorem d_Mod_again_66 : decode prog_8_method_70_code 66 = .ok (.getfield 25, 3) := by decide +kernel
theorem d_Mod_again_69 : decode prog_8_method_70_code 69 = .ok (.bipush 14, 2) := by decide +kernel
theorem d_Mod_again_71 : decode prog_8_method_70_code 71 = .ok (.iaload, 1) := by decide +kernel
theorem d_Mod_again_72 : decode prog_8_method_70_code 72 = .ok (.ireturn, 1) := by decide +kernel
