theorem d_Act_clear_0 : decode prog_2_method_2_code 0 = .ok (.aload_n 0, 1) := by decide +kernel
theorem d_Act_clear_1 : decode prog_2_method_2_code 1 = .ok (.iconst 0, 1) := by decide +kernel
theorem d_Act_clear_2 : decode prog_2_method_2_code 2 = .ok (.putfield 21, 3) := by decide +kernel
theorem d_Act_clear_5 : decode prog_2_method_2_code 5 = .ok (.return_, 1) := by decide +kernel
theorem d_Act_add_0 : decode prog_2_method_3_code 0 = .ok (.aload_n 0, 1) := by decide +kernel
theorem d_Act_add_1 : decode prog_2_method_3_code 1 = .ok (.getfield 11, 3) := by decide +kernel
theorem d_Act_add_4 : decode prog_2_method_3_code 4 = .ok (.aload_n 0, 1) := by decide +kernel
theorem d_Act_add_5 : decode prog_2_method_3_code 5 = .ok (.getfield 17, 3) := by decide +kernel
theorem d_Act_add_8 : decode prog_2_method_3_code 8 = .ok (.aaload, 1) := by decide +kernel
theorem d_Act_add_9 : decode prog_2_method_3_code 9 = .ok (.aload_n 1, 1) := by decide +kernel
theorem d_Act_add_10 : decode prog_2_method_3_code 10 = .ok (.invokevirtual 27, 3) := by decide +kernel
theorem d_Act_add_13 : decode prog_2_method_3_code 13 = .ok (.aload_n 0, 1) := by decide +kernel
theorem d_Act_add_14 : decode prog_2_method_3_code 14 = .ok (.aload_n 0, 1) := by decide +kernel
theorem d_Act_add_15 : decode prog_2_method_3_code 15 = .ok (.getfield 17, 3) := by decide +kernel
theorem d_Act_add_18 : decode prog_2_method_3_code 18 = .ok (.iconst 1, 1) := by decide +kernel
theorem d_Act_add_19 : decode prog_2_method_3_code 19 = .ok (.iadd, 1) := by decide +kernel
theorem d_Act_add_20 : decode prog_2_method_3_code 20 = .ok (.bipush 14, 2) := by decide +kernel
theorem d_Act_add_22 : decode prog_2_method_3_code 22 = .ok (.irem, 1) := by decide +kernel
theorem d_Act_add_23 : decode prog_2_method_3_code 23 = .ok (.putfield 17, 3) := by decide +kernel
theorem d_Act_add_26 : decode prog_2_method_3_code 26 = .ok (.aload_n 0, 1) := by decide +kernel
theorem d_Act_add_27 : decode prog_2_method_3_code 27 = .ok (.bipush 14, 2) := by decide +kernel
theorem d_Act_add_29 : decode prog_2_method_3_code 29 = .ok (.aload_n 0, 1) := by decide +kernel
theorem d_Act_add_30 : decode prog_2_method_3_code 30 = .ok (.getfield 21, 3) := by decide +kernel
theorem d_Act_add_33 : decode prog_2_method_3_code 33 = .ok (.iconst 1, 1) := by decide +kernel
theorem d_Act_add_34 : decode prog_2_method_3_code 34 = .ok (.iadd, 1) := by decide +kernel
theorem d_Act_add_35 : decode prog_2_method_3_code 35 = .ok (.invokestatic 31, 3) := by decide +kernel
theorem d_Act_add_38 : decode prog_2_method_3_code 38 = .ok (.putfield 21, 3) := by decide +kernel
theorem d_Act_add_41 : decode prog_2_method_3_code 41 = .ok (.return_, 1) := by decide +kernel
theorem d_Act_takeBack_0 : decode prog_2_method_4_code 0 = .ok (.aload_n 0, 1) := by decide +kernel
theorem d_Act_takeBack_1 : decode prog_2_method_4_code 1 = .ok (.getfield 21, 3) := by decide +kernel
theorem d_Act_takeBack_4 : decode prog_2_method_4_code 4 = .ok (.ifCond .ne 6, 3) := by decide +kernel
theorem d_Act_takeBack_7 : decode prog_2_method_4_code 7 = .ok (.bipush (-3), 2) := by decide +kernel
theorem d_Act_takeBack_9 : decode prog_2_method_4_code 9 = .ok (.ireturn, 1) := by decide +kernel
theorem d_Act_takeBack_10 : decode prog_2_method_4_code 10 = .ok (.aload_n 0, 1) := by decide +kernel
theorem d_Act_takeBack_11 : decode prog_2_method_4_code 11 = .ok (.aload_n 0, 1) := by decide +kernel
theorem d_Act_takeBack_12 : decode prog_2_method_4_code 12 = .ok (.getfield 17, 3) := by decide +kernel
theorem d_Act_takeBack_15 : decode prog_2_method_4_code 15 = .ok (.bipush 14, 2) := by decide +kernel
theorem d_Act_takeBack_17 : decode prog_2_method_4_code 17 = .ok (.iadd, 1) := by decide +kernel
theorem d_Act_takeBack_18 : decode prog_2_method_4_code 18 = .ok (.iconst 1, 1) := by decide +kernel
theorem d_Act_takeBack_19 : decode prog_2_method_4_code 19 = .ok (.isub, 1) := by decide +kernel
theorem d_Act_takeBack_20 : decode prog_2_method_4_code 20 = .ok (.bipush 14, 2) := by decide +kernel
theorem d_Act_takeBack_22 : decode prog_2_method_4_code 22 = .ok (.irem, 1) := by decide +kernel
theorem d_Act_takeBack_23 : decode prog_2_method_4_code 23 = .ok (.putfield 17, 3) := by decide +kernel
theorem d_Act_takeBack_26 : decode prog_2_method_4_code 26 = .ok (.aload_n 1, 1) := by decide +kernel
theorem d_Act_takeBack_27 : decode prog_2_method_4_code 27 = .ok (.aload_n 0, 1) := by decide +kernel
theorem d_Act_takeBack_28 : decode prog_2_method_4_code 28 = .ok (.getfield 11, 3) := by decide +kernel
theorem d_Act_takeBack_31 : decode prog_2_method_4_code 31 = .ok (.aload_n 0, 1) := by decide +kernel
theorem d_Act_takeBack_32 : decode prog_2_method_4_code 32 = .ok (.getfield 17, 3) := by decide +kernel
theorem d_Act_takeBack_35 : decode prog_2_method_4_code 35 = .ok (.aaload, 1) := by decide +kernel
theorem d_Act_takeBack_36 : decode prog_2_method_4_code 36 = .ok (.invokevirtual 27, 3) := by decide +kernel
theorem d_Act_takeBack_39 : decode prog_2_method_4_code 39 = .ok (.aload_n 0, 1) := by decide +kernel
theorem d_Act_takeBack_40 : decode prog_2_method_4_code 40 = .ok (.dup, 1) := by decide +kernel
theorem d_Act_takeBack_41 : decode prog_2_method_4_code 41 = .ok (.getfield 21, 3) := by decide +kernel
theorem d_Act_takeBack_44 : decode prog_2_method_4_code 44 = .ok (.iconst 1, 1) := by decide +kernel
theorem d_Act_takeBack_45 : decode prog_2_method_4_code 45 = .ok (.isub, 1) := by decide +kernel
theorem d_Act_takeBack_46 : decode prog_2_method_4_code 46 = .ok (.putfield 21, 3) := by decide +kernel
theorem d_Act_takeBack_49 : decode prog_2_method_4_code 49 = .ok (.aload_n 0, 1) := by decide +kernel
theorem d_Act_takeBack_50 : decode prog_2_method_4_code 50 = .ok (.getfield 21, 3) := by decide +kernel
theorem d_Act_takeBack_53 : decode prog_2_method_4_code 53 = .ok (.ireturn, 1) := by decide +kernel
theorem d_Fin_add_0 : decode prog_3_method_2_code 0 = .ok (.aload_n 0, 1) := by decide +kernel
theorem d_Fin_add_1 : decode prog_3_method_2_code 1 = .ok (.getfield 22, 3) := by decide +kernel
theorem d_Fin_add_4 : decode prog_3_method_2_code 4 = .ok (.bipush 6, 2) := by decide +kernel
theorem d_Fin_add_6 : decode prog_3_method_2_code 6 = .ok (.if_icmp .lt 6, 3) := by decide +kernel
theorem d_Fin_add_9 : decode prog_3_method_2_code 9 = .ok (.bipush (-4), 2) := by decide +kernel
theorem d_Fin_add_11 : decode prog_3_method_2_code 11 = .ok (.ireturn, 1) := by decide +kernel
theorem d_Fin_add_12 : decode prog_3_method_2_code 12 = .ok (.aload_n 0, 1) := by decide +kernel
theorem d_Fin_add_13 : decode prog_3_method_2_code 13 = .ok (.getfield 9, 3) := by decide +kernel
theorem d_Fin_add_16 : decode prog_3_method_2_code 16 = .ok (.aload_n 0, 1) := by decide +kernel
theorem d_Fin_add_17 : decode prog_3_method_2_code 17 = .ok (.getfield 22, 3) := by decide +kernel
theorem d_Fin_add_20 : decode prog_3_method_2_code 20 = .ok (.iload_n 1, 1) := by decide +kernel
theorem d_Fin_add_21 : decode prog_3_method_2_code 21 = .ok (.iastore, 1) := by decide +kernel
theorem d_Fin_add_22 : decode prog_3_method_2_code 22 = .ok (.aload_n 0, 1) := by decide +kernel
theorem d_Fin_add_23 : decode prog_3_method_2_code 23 = .ok (.getfield 15, 3) := by decide +kernel
theorem d_Fin_add_26 : decode prog_3_method_2_code 26 = .ok (.aload_n 0, 1) := by decide +kernel
theorem d_Fin_add_27 : decode prog_3_method_2_code 27 = .ok (.getfield 22, 3) := by decide +kernel
theorem d_Fin_add_30 : decode prog_3_method_2_code 30 = .ok (.iload_n 2, 1) := by decide +kernel
theorem d_Fin_add_31 : decode prog_3_method_2_code 31 = .ok (.iastore, 1) := by decide +kernel
theorem d_Fin_add_32 : decode prog_3_method_2_code 32 = .ok (.aload_n 0, 1) := by decide +kernel
theorem d_Fin_add_33 : decode prog_3_method_2_code 33 = .ok (.getfield 18, 3) := by decide +kernel
theorem d_Fin_add_36 : decode prog_3_method_2_code 36 = .ok (.aload_n 0, 1) := by decide +kernel
theorem d_Fin_add_37 : decode prog_3_method_2_code 37 = .ok (.getfield 22, 3) := by decide +kernel
theorem d_Fin_add_40 : decode prog_3_method_2_code 40 = .ok (.iload_n 3, 1) := by decide +kernel
theorem d_Fin_add_41 : decode prog_3_method_2_code 41 = .ok (.iconst 1, 1) := by decide +kernel
theorem d_Fin_add_42 : decode prog_3_method_2_code 42 = .ok (.if_icmp .ne 7, 3) := by decide +kernel
theorem d_Fin_add_45 : decode prog_3_method_2_code 45 = .ok (.iconst 1, 1) := by decide +kernel
theorem d_Fin_add_46 : decode prog_3_method_2_code 46 = .ok (.goto 4, 3) := by decide +kernel
theorem d_Fin_add_49 : decode prog_3_method_2_code 49 = .ok (.iconst 0, 1) := by decide +kernel
theorem d_Fin_add_50 : decode prog_3_method_2_code 50 = .ok (.bastore, 1) := by decide +kernel
theorem d_Fin_add_51 : decode prog_3_method_2_code 51 = .ok (.aload_n 0, 1) := by decide +kernel
theorem d_Fin_add_52 : decode prog_3_method_2_code 52 = .ok (.dup, 1) := by decide +kernel
theorem d_Fin_add_53 : decode prog_3_method_2_code 53 = .ok (.getfield 22, 3) := by decide +kernel
theorem d_Fin_add_56 : decode prog_3_method_2_code 56 = .ok (.iconst 1, 1) := by decide +kernel
theorem d_Fin_add_57 : decode prog_3_method_2_code 57 = .ok (.iadd, 1) := by decide +kernel
theorem d_Fin_add_58 : decode prog_3_method_2_code 58 = .ok (.putfield 22, 3) := by decide +kernel
theorem d_Fin_add_61 : decode prog_3_method_2_code 61 = .ok (.aload_n 0, 1) := by decide +kernel
theorem d_Fin_add_62 : decode prog_3_method_2_code 62 = .ok (.getfield 22, 3) := by decide +kernel
theorem d_Fin_add_65 : decode prog_3_method_2_code 65 = .ok (.ireturn, 1) := by decide +kernel
theorem d_Fin_clear_0 : decode prog_3_method_3_code 0 = .ok (.aload_n 0, 1) := by decide +kernel
theorem d_Fin_clear_1 : decode prog_3_method_3_code 1 = .ok (.getfield 22, 3) := by decide +kernel
theorem d_Fin_clear_4 : decode prog_3_method_3_code 4 = .ok (.istore_n 1, 1) := by decide +kernel
theorem d_Fin_clear_5 : decode prog_3_method_3_code 5 = .ok (.aload_n 0, 1) := by decide +kernel
theorem d_Fin_clear_6 : decode prog_3_method_3_code 6 = .ok (.iconst 0, 1) := by decide +kernel
theorem d_Fin_clear_7 : decode prog_3_method_3_code 7 = .ok (.putfield 22, 3) := by decide +kernel
theorem d_Fin_clear_10 : decode prog_3_method_3_code 10 = .ok (.iload_n 1, 1) := by decide +kernel
theorem d_Fin_clear_11 : decode prog_3_method_3_code 11 = .ok (.ireturn, 1) := by decide +kernel
theorem d_Fin_allow_0 : decode prog_3_method_4_code 0 = .ok (.iconst 0, 1) := by decide +kernel
theorem d_Fin_allow_1 : decode prog_3_method_4_code 1 = .ok (.istore_n 2, 1) := by decide +kernel
theorem d_Fin_allow_2 : decode prog_3_method_4_code 2 = .ok (.iload_n 2, 1) := by decide +kernel
theorem d_Fin_allow_3 : decode prog_3_method_4_code 3 = .ok (.aload_n 0, 1) := by decide +kernel
theorem d_Fin_allow_4 : decode prog_3_method_4_code 4 = .ok (.getfield 22, 3) := by decide +kernel
theorem d_Fin_allow_7 : decode prog_3_method_4_code 7 = .ok (.if_icmp .ge 51, 3) := by decide +kernel
theorem d_Fin_allow_10 : decode prog_3_method_4_code 10 = .ok (.iload_n 1, 1) := by decide +kernel
theorem d_Fin_allow_11 : decode prog_3_method_4_code 11 = .ok (.iload_n 1, 1) := by decide +kernel
theorem d_Fin_allow_12 : decode prog_3_method_4_code 12 = .ok (.bipush 8, 2) := by decide +kernel
theorem d_Fin_allow_14 : decode prog_3_method_4_code 14 = .ok (.aload_n 0, 1) := by decide +kernel
theorem d_Fin_allow_15 : decode prog_3_method_4_code 15 = .ok (.getfield 9, 3) := by decide +kernel
theorem d_Fin_allow_18 : decode prog_3_method_4_code 18 = .ok (.iload_n 2, 1) := by decide +kernel
theorem d_Fin_allow_19 : decode prog_3_method_4_code 19 = .ok (.iaload, 1) := by decide +kernel
theorem d_Fin_allow_20 : decode prog_3_method_4_code 20 = .ok (.imul, 1) := by decide +kernel
theorem d_Fin_allow_21 : decode prog_3_method_4_code 21 = .ok (.invokestatic 26, 3) := by decide +kernel
theorem d_Fin_allow_24 : decode prog_3_method_4_code 24 = .ok (.isub, 1) := by decide +kernel
theorem d_Fin_allow_25 : decode prog_3_method_4_code 25 = .ok (.istore_n 3, 1) := by decide +kernel
theorem d_Fin_allow_26 : decode prog_3_method_4_code 26 = .ok (.iload_n 3, 1) := by decide +kernel
theorem d_Fin_allow_27 : decode prog_3_method_4_code 27 = .ok (.aload_n 0, 1) := by decide +kernel
theorem d_Fin_allow_28 : decode prog_3_method_4_code 28 = .ok (.getfield 15, 3) := by decide +kernel
theorem d_Fin_allow_31 : decode prog_3_method_4_code 31 = .ok (.iload_n 2, 1) := by decide +kernel
theorem d_Fin_allow_32 : decode prog_3_method_4_code 32 = .ok (.iaload, 1) := by decide +kernel
theorem d_Fin_allow_33 : decode prog_3_method_4_code 33 = .ok (.if_icmp .lt 7, 3) := by decide +kernel
theorem d_Fin_allow_36 : decode prog_3_method_4_code 36 = .ok (.iconst 1, 1) := by decide +kernel
theorem d_Fin_allow_37 : decode prog_3_method_4_code 37 = .ok (.goto 4, 3) := by decide +kernel
theorem d_Fin_allow_40 : decode prog_3_method_4_code 40 = .ok (.iconst 0, 1) := by decide +kernel
theorem d_Fin_allow_41 : decode prog_3_method_4_code 41 = .ok (.aload_n 0, 1) := by decide +kernel
theorem d_Fin_allow_42 : decode prog_3_method_4_code 42 = .ok (.getfield 18, 3) := by decide +kernel
theorem d_Fin_allow_45 : decode prog_3_method_4_code 45 = .ok (.iload_n 2, 1) := by decide +kernel
theorem d_Fin_allow_46 : decode prog_3_method_4_code 46 = .ok (.baload, 1) := by decide +kernel
theorem d_Fin_allow_47 : decode prog_3_method_4_code 47 = .ok (.if_icmp .eq 5, 3) := by decide +kernel
theorem d_Fin_allow_50 : decode prog_3_method_4_code 50 = .ok (.iconst 0, 1) := by decide +kernel
theorem d_Fin_allow_51 : decode prog_3_method_4_code 51 = .ok (.ireturn, 1) := by decide +kernel
theorem d_Fin_allow_52 : decode prog_3_method_4_code 52 = .ok (.iinc 2 1, 3) := by decide +kernel
theorem d_Fin_allow_55 : decode prog_3_method_4_code 55 = .ok (.goto (-53), 3) := by decide +kernel
theorem d_Fin_allow_58 : decode prog_3_method_4_code 58 = .ok (.iconst 1, 1) := by decide +kernel
theorem d_Fin_allow_59 : decode prog_3_method_4_code 59 = .ok (.ireturn, 1) := by decide +kernel
theorem d_Txt_append_0 : decode prog_6_method_2_code 0 = .ok (.aload_n 0, 1) := by decide +kernel
theorem d_Txt_append_1 : decode prog_6_method_2_code 1 = .ok (.getfield 15, 3) := by decide +kernel
theorem d_Txt_append_4 : decode prog_6_method_2_code 4 = .ok (.bipush 36, 2) := by decide +kernel
theorem d_Txt_append_6 : decode prog_6_method_2_code 6 = .ok (.if_icmp .lt 6, 3) := by decide +kernel
theorem d_Txt_append_9 : decode prog_6_method_2_code 9 = .ok (.bipush (-4), 2) := by decide +kernel
theorem d_Txt_append_11 : decode prog_6_method_2_code 11 = .ok (.ireturn, 1) := by decide +kernel
theorem d_Txt_append_12 : decode prog_6_method_2_code 12 = .ok (.aload_n 0, 1) := by decide +kernel
theorem d_Txt_append_13 : decode prog_6_method_2_code 13 = .ok (.getfield 9, 3) := by decide +kernel
theorem d_Txt_append_16 : decode prog_6_method_2_code 16 = .ok (.aload_n 0, 1) := by decide +kernel
theorem d_Txt_append_17 : decode prog_6_method_2_code 17 = .ok (.getfield 15, 3) := by decide +kernel
theorem d_Txt_append_20 : decode prog_6_method_2_code 20 = .ok (.iload_n 1, 1) := by decide +kernel
theorem d_Txt_append_21 : decode prog_6_method_2_code 21 = .ok (.iastore, 1) := by decide +kernel
theorem d_Txt_append_22 : decode prog_6_method_2_code 22 = .ok (.aload_n 0, 1) := by decide +kernel
theorem d_Txt_append_23 : decode prog_6_method_2_code 23 = .ok (.dup, 1) := by decide +kernel
theorem d_Txt_append_24 : decode prog_6_method_2_code 24 = .ok (.getfield 15, 3) := by decide +kernel
theorem d_Txt_append_27 : decode prog_6_method_2_code 27 = .ok (.iconst 1, 1) := by decide +kernel
theorem d_Txt_append_28 : decode prog_6_method_2_code 28 = .ok (.iadd, 1) := by decide +kernel
theorem d_Txt_append_29 : decode prog_6_method_2_code 29 = .ok (.putfield 15, 3) := by decide +kernel
theorem d_Txt_append_32 : decode prog_6_method_2_code 32 = .ok (.aload_n 0, 1) := by decide +kernel
theorem d_Txt_append_33 : decode prog_6_method_2_code 33 = .ok (.getfield 15, 3) := by decide +kernel
theorem d_Txt_append_36 : decode prog_6_method_2_code 36 = .ok (.ireturn, 1) := by decide +kernel
theorem d_Txt_clear_0 : decode prog_6_method_3_code 0 = .ok (.aload_n 0, 1) := by decide +kernel
theorem d_Txt_clear_1 : decode prog_6_method_3_code 1 = .ok (.getfield 15, 3) := by decide +kernel
theorem d_Txt_clear_4 : decode prog_6_method_3_code 4 = .ok (.istore_n 1, 1) := by decide +kernel
theorem d_Txt_clear_5 : decode prog_6_method_3_code 5 = .ok (.aload_n 0, 1) := by decide +kernel
theorem d_Txt_clear_6 : decode prog_6_method_3_code 6 = .ok (.iconst 0, 1) := by decide +kernel
theorem d_Txt_clear_7 : decode prog_6_method_3_code 7 = .ok (.putfield 15, 3) := by decide +kernel
theorem d_Txt_clear_10 : decode prog_6_method_3_code 10 = .ok (.iload_n 1, 1) := by decide +kernel
theorem d_Txt_clear_11 : decode prog_6_method_3_code 11 = .ok (.ireturn, 1) := by decide +kernel
theorem d_Txt_stepIntoThing_0 : decode prog_6_method_6_code 0 = .ok (.iload_n 0, 1) := by decide +kernel
theorem d_Txt_stepIntoThing_1 : decode prog_6_method_6_code 1 = .ok (.lookupswitch 42 #[(78, 35), (82, 39), (83, 37)], 35) := by decide +kernel
theorem d_Txt_stepIntoThing_36 : decode prog_6_method_6_code 36 = .ok (.iconst 2, 1) := by decide +kernel
theorem d_Txt_stepIntoThing_37 : decode prog_6_method_6_code 37 = .ok (.ireturn, 1) := by decide +kernel
theorem d_Txt_stepIntoThing_38 : decode prog_6_method_6_code 38 = .ok (.iconst 5, 1) := by decide +kernel
theorem d_Txt_stepIntoThing_39 : decode prog_6_method_6_code 39 = .ok (.ireturn, 1) := by decide +kernel
theorem d_Txt_stepIntoThing_40 : decode prog_6_method_6_code 40 = .ok (.bipush 6, 2) := by decide +kernel
theorem d_Txt_stepIntoThing_42 : decode prog_6_method_6_code 42 = .ok (.ireturn, 1) := by decide +kernel
theorem d_Txt_stepIntoThing_43 : decode prog_6_method_6_code 43 = .ok (.bipush 7, 2) := by decide +kernel
theorem d_Txt_stepIntoThing_45 : decode prog_6_method_6_code 45 = .ok (.ireturn, 1) := by decide +kernel
theorem d_Txt_stepBehind_0 : decode prog_6_method_5_code 0 = .ok (.iload_n 0, 1) := by decide +kernel
theorem d_Txt_stepBehind_1 : decode prog_6_method_5_code 1 = .ok (.tableswitch 151 0 6 #[43, 56, 61, 79, 97, 115, 133], 43) := by decide +kernel
theorem d_Txt_stepBehind_44 : decode prog_6_method_5_code 44 = .ok (.iload_n 1, 1) := by decide +kernel
theorem d_Txt_stepBehind_45 : decode prog_6_method_5_code 45 = .ok (.bipush 77, 2) := by decide +kernel
theorem d_Txt_stepBehind_47 : decode prog_6_method_5_code 47 = .ok (.if_icmp .ne 7, 3) := by decide +kernel
theorem d_Txt_stepBehind_50 : decode prog_6_method_5_code 50 = .ok (.iconst 1, 1) := by decide +kernel
theorem d_Txt_stepBehind_51 : decode prog_6_method_5_code 51 = .ok (.goto 5, 3) := by decide +kernel
theorem d_Txt_stepBehind_54 : decode prog_6_method_5_code 54 = .ok (.bipush 7, 2) := by decide +kernel
theorem d_Txt_stepBehind_56 : decode prog_6_method_5_code 56 = .ok (.ireturn, 1) := by decide +kernel
theorem d_Txt_stepBehind_57 : decode prog_6_method_5_code 57 = .ok (.iload_n 1, 1) := by decide +kernel
theorem d_Txt_stepBehind_58 : decode prog_6_method_5_code 58 = .ok (.invokestatic 23, 3) := by decide +kernel
theorem d_Txt_stepBehind_61 : decode prog_6_method_5_code 61 = .ok (.ireturn, 1) := by decide +kernel
theorem d_Txt_stepBehind_62 : decode prog_6_method_5_code 62 = .ok (.iload_n 1, 1) := by decide +kernel
theorem d_Txt_stepBehind_63 : decode prog_6_method_5_code 63 = .ok (.bipush 48, 2) := by decide +kernel
theorem d_Txt_stepBehind_65 : decode prog_6_method_5_code 65 = .ok (.bipush 51, 2) := by decide +kernel
theorem d_Txt_stepBehind_67 : decode prog_6_method_5_code 67 = .ok (.invokestatic 27, 3) := by decide +kernel
theorem d_Txt_stepBehind_70 : decode prog_6_method_5_code 70 = .ok (.ifCond .eq 7, 3) := by decide +kernel
theorem d_Txt_stepBehind_73 : decode prog_6_method_5_code 73 = .ok (.iconst 3, 1) := by decide +kernel
theorem d_Txt_stepBehind_74 : decode prog_6_method_5_code 74 = .ok (.goto 5, 3) := by decide +kernel
theorem d_Txt_stepBehind_77 : decode prog_6_method_5_code 77 = .ok (.bipush 7, 2) := by decide +kernel
theorem d_Txt_stepBehind_79 : decode prog_6_method_5_code 79 = .ok (.ireturn, 1) := by decide +kernel
theorem d_Txt_stepBehind_80 : decode prog_6_method_5_code 80 = .ok (.iload_n 1, 1) := by decide +kernel
theorem d_Txt_stepBehind_81 : decode prog_6_method_5_code 81 = .ok (.bipush 48, 2) := by decide +kernel
theorem d_Txt_stepBehind_83 : decode prog_6_method_5_code 83 = .ok (.bipush 54, 2) := by decide +kernel
theorem d_Txt_stepBehind_85 : decode prog_6_method_5_code 85 = .ok (.invokestatic 27, 3) := by decide +kernel
theorem d_Txt_stepBehind_88 : decode prog_6_method_5_code 88 = .ok (.ifCond .eq 7, 3) := by decide +kernel
theorem d_Txt_stepBehind_91 : decode prog_6_method_5_code 91 = .ok (.iconst 4, 1) := by decide +kernel
theorem d_Txt_stepBehind_92 : decode prog_6_method_5_code 92 = .ok (.goto 5, 3) := by decide +kernel
theorem d_Txt_stepBehind_95 : decode prog_6_method_5_code 95 = .ok (.bipush 7, 2) := by decide +kernel
theorem d_Txt_stepBehind_97 : decode prog_6_method_5_code 97 = .ok (.ireturn, 1) := by decide +kernel
theorem d_Txt_stepBehind_98 : decode prog_6_method_5_code 98 = .ok (.iload_n 1, 1) := by decide +kernel
theorem d_Txt_stepBehind_99 : decode prog_6_method_5_code 99 = .ok (.bipush 48, 2) := by decide +kernel
theorem d_Txt_stepBehind_101 : decode prog_6_method_5_code 101 = .ok (.bipush 57, 2) := by decide +kernel
theorem d_Txt_stepBehind_103 : decode prog_6_method_5_code 103 = .ok (.invokestatic 27, 3) := by decide +kernel
theorem d_Txt_stepBehind_106 : decode prog_6_method_5_code 106 = .ok (.ifCond .eq 7, 3) := by decide +kernel
theorem d_Txt_stepBehind_109 : decode prog_6_method_5_code 109 = .ok (.iconst 1, 1) := by decide +kernel
theorem d_Txt_stepBehind_110 : decode prog_6_method_5_code 110 = .ok (.goto 5, 3) := by decide +kernel
theorem d_Txt_stepBehind_113 : decode prog_6_method_5_code 113 = .ok (.bipush 7, 2) := by decide +kernel
theorem d_Txt_stepBehind_115 : decode prog_6_method_5_code 115 = .ok (.ireturn, 1) := by decide +kernel
theorem d_Txt_stepBehind_116 : decode prog_6_method_5_code 116 = .ok (.iload_n 1, 1) := by decide +kernel
theorem d_Txt_stepBehind_117 : decode prog_6_method_5_code 117 = .ok (.bipush 48, 2) := by decide +kernel
theorem d_Txt_stepBehind_119 : decode prog_6_method_5_code 119 = .ok (.bipush 52, 2) := by decide +kernel
theorem d_Txt_stepBehind_121 : decode prog_6_method_5_code 121 = .ok (.invokestatic 27, 3) := by decide +kernel
theorem d_Txt_stepBehind_124 : decode prog_6_method_5_code 124 = .ok (.ifCond .eq 7, 3) := by decide +kernel
theorem d_Txt_stepBehind_127 : decode prog_6_method_5_code 127 = .ok (.iconst 1, 1) := by decide +kernel
theorem d_Txt_stepBehind_128 : decode prog_6_method_5_code 128 = .ok (.goto 5, 3) := by decide +kernel
theorem d_Txt_stepBehind_131 : decode prog_6_method_5_code 131 = .ok (.bipush 7, 2) := by decide +kernel
theorem d_Txt_stepBehind_133 : decode prog_6_method_5_code 133 = .ok (.ireturn, 1) := by decide +kernel
theorem d_Txt_stepBehind_134 : decode prog_6_method_5_code 134 = .ok (.iload_n 1, 1) := by decide +kernel
theorem d_Txt_stepBehind_135 : decode prog_6_method_5_code 135 = .ok (.bipush 49, 2) := by decide +kernel
theorem d_Txt_stepBehind_137 : decode prog_6_method_5_code 137 = .ok (.bipush 52, 2) := by decide +kernel
theorem d_Txt_stepBehind_139 : decode prog_6_method_5_code 139 = .ok (.invokestatic 27, 3) := by decide +kernel
theorem d_Txt_stepBehind_142 : decode prog_6_method_5_code 142 = .ok (.ifCond .eq 7, 3) := by decide +kernel
theorem d_Txt_stepBehind_145 : decode prog_6_method_5_code 145 = .ok (.iconst 1, 1) := by decide +kernel
theorem d_Txt_stepBehind_146 : decode prog_6_method_5_code 146 = .ok (.goto 5, 3) := by decide +kernel
theorem d_Txt_stepBehind_149 : decode prog_6_method_5_code 149 = .ok (.bipush 7, 2) := by decide +kernel
theorem d_Txt_stepBehind_151 : decode prog_6_method_5_code 151 = .ok (.ireturn, 1) := by decide +kernel
theorem d_Txt_stepBehind_152 : decode prog_6_method_5_code 152 = .ok (.bipush 7, 2) := by decide +kernel
theorem d_Txt_stepBehind_154 : decode prog_6_method_5_code 154 = .ok (.ireturn, 1) := by decide +kernel
theorem d_Txt_firstFault_0 : decode prog_6_method_4_code 0 = .ok (.iconst 0, 1) := by decide +kernel
theorem d_Txt_firstFault_1 : decode prog_6_method_4_code 1 = .ok (.istore_n 1, 1) := by decide +kernel
theorem d_Txt_firstFault_2 : decode prog_6_method_4_code 2 = .ok (.iconst 0, 1) := by decide +kernel
theorem d_Txt_firstFault_3 : decode prog_6_method_4_code 3 = .ok (.istore_n 2, 1) := by decide +kernel
theorem d_Txt_firstFault_4 : decode prog_6_method_4_code 4 = .ok (.iconst 0, 1) := by decide +kernel
theorem d_Txt_firstFault_5 : decode prog_6_method_4_code 5 = .ok (.istore_n 3, 1) := by decide +kernel
theorem d_Txt_firstFault_6 : decode prog_6_method_4_code 6 = .ok (.iconst 0, 1) := by decide +kernel
theorem d_Txt_firstFault_7 : decode prog_6_method_4_code 7 = .ok (.istore 4, 2) := by decide +kernel
theorem d_Txt_firstFault_9 : decode prog_6_method_4_code 9 = .ok (.iload 4, 2) := by decide +kernel
theorem d_Txt_firstFault_11 : decode prog_6_method_4_code 11 = .ok (.aload_n 0, 1) := by decide +kernel
theorem d_Txt_firstFault_12 : decode prog_6_method_4_code 12 = .ok (.getfield 15, 3) := by decide +kernel
theorem d_Txt_firstFault_15 : decode prog_6_method_4_code 15 = .ok (.if_icmp .ge 63, 3) := by decide +kernel
theorem d_Txt_firstFault_18 : decode prog_6_method_4_code 18 = .ok (.iload_n 1, 1) := by decide +kernel
theorem d_Txt_firstFault_19 : decode prog_6_method_4_code 19 = .ok (.aload_n 0, 1) := by decide +kernel
theorem d_Txt_firstFault_20 : decode prog_6_method_4_code 20 = .ok (.getfield 9, 3) := by decide +kernel
theorem d_Txt_firstFault_23 : decode prog_6_method_4_code 23 = .ok (.iload 4, 2) := by decide +kernel
theorem d_Txt_firstFault_25 : decode prog_6_method_4_code 25 = .ok (.iaload, 1) := by decide +kernel
theorem d_Txt_firstFault_26 : decode prog_6_method_4_code 26 = .ok (.invokestatic 19, 3) := by decide +kernel
theorem d_Txt_firstFault_29 : decode prog_6_method_4_code 29 = .ok (.istore_n 1, 1) := by decide +kernel
theorem d_Txt_firstFault_30 : decode prog_6_method_4_code 30 = .ok (.iload_n 1, 1) := by decide +kernel
theorem d_Txt_firstFault_31 : decode prog_6_method_4_code 31 = .ok (.iconst 2, 1) := by decide +kernel
theorem d_Txt_firstFault_32 : decode prog_6_method_4_code 32 = .ok (.if_icmp .ne 6, 3) := by decide +kernel
theorem d_Txt_firstFault_35 : decode prog_6_method_4_code 35 = .ok (.iinc 2 1, 3) := by decide +kernel
theorem d_Txt_firstFault_38 : decode prog_6_method_4_code 38 = .ok (.iload_n 1, 1) := by decide +kernel
theorem d_Txt_firstFault_39 : decode prog_6_method_4_code 39 = .ok (.iconst 5, 1) := by decide +kernel
theorem d_Txt_firstFault_40 : decode prog_6_method_4_code 40 = .ok (.if_icmp .eq 9, 3) := by decide +kernel
theorem d_Txt_firstFault_43 : decode prog_6_method_4_code 43 = .ok (.iload_n 1, 1) := by decide +kernel
theorem d_Txt_firstFault_44 : decode prog_6_method_4_code 44 = .ok (.bipush 6, 2) := by decide +kernel
theorem d_Txt_firstFault_46 : decode prog_6_method_4_code 46 = .ok (.if_icmp .ne 6, 3) := by decide +kernel
theorem d_Txt_firstFault_49 : decode prog_6_method_4_code 49 = .ok (.iinc 3 1, 3) := by decide +kernel
theorem d_Txt_firstFault_52 : decode prog_6_method_4_code 52 = .ok (.iload_n 1, 1) := by decide +kernel
theorem d_Txt_firstFault_53 : decode prog_6_method_4_code 53 = .ok (.bipush 7, 2) := by decide +kernel
theorem d_Txt_firstFault_55 : decode prog_6_method_4_code 55 = .ok (.if_icmp .eq 14, 3) := by decide +kernel
theorem d_Txt_firstFault_58 : decode prog_6_method_4_code 58 = .ok (.iload_n 2, 1) := by decide +kernel
theorem d_Txt_firstFault_59 : decode prog_6_method_4_code 59 = .ok (.bipush 6, 2) := by decide +kernel
theorem d_Txt_firstFault_61 : decode prog_6_method_4_code 61 = .ok (.if_icmp .gt 8, 3) := by decide +kernel
theorem d_Txt_firstFault_64 : decode prog_6_method_4_code 64 = .ok (.iload_n 3, 1) := by decide +kernel
theorem d_Txt_firstFault_65 : decode prog_6_method_4_code 65 = .ok (.iconst 5, 1) := by decide +kernel
theorem d_Txt_firstFault_66 : decode prog_6_method_4_code 66 = .ok (.if_icmp .le 6, 3) := by decide +kernel
theorem d_Txt_firstFault_69 : decode prog_6_method_4_code 69 = .ok (.iload 4, 2) := by decide +kernel
theorem d_Txt_firstFault_71 : decode prog_6_method_4_code 71 = .ok (.ireturn, 1) := by decide +kernel
theorem d_Txt_firstFault_72 : decode prog_6_method_4_code 72 = .ok (.iinc 4 1, 3) := by decide +kernel
theorem d_Txt_firstFault_75 : decode prog_6_method_4_code 75 = .ok (.goto (-66), 3) := by decide +kernel
theorem d_Txt_firstFault_78 : decode prog_6_method_4_code 78 = .ok (.iload_n 1, 1) := by decide +kernel
theorem d_Txt_firstFault_79 : decode prog_6_method_4_code 79 = .ok (.iconst 1, 1) := by decide +kernel
theorem d_Txt_firstFault_80 : decode prog_6_method_4_code 80 = .ok (.if_icmp .ne 8, 3) := by decide +kernel
theorem d_Txt_firstFault_83 : decode prog_6_method_4_code 83 = .ok (.bipush (-9), 2) := by decide +kernel
theorem d_Txt_firstFault_85 : decode prog_6_method_4_code 85 = .ok (.goto 7, 3) := by decide +kernel
theorem d_Txt_firstFault_88 : decode prog_6_method_4_code 88 = .ok (.aload_n 0, 1) := by decide +kernel
theorem d_Txt_firstFault_89 : decode prog_6_method_4_code 89 = .ok (.getfield 15, 3) := by decide +kernel
theorem d_Txt_firstFault_92 : decode prog_6_method_4_code 92 = .ok (.ireturn, 1) := by decide +kernel
theorem d_Txt_layOut_0 : decode prog_6_method_7_code 0 = .ok (.aload_n 1, 1) := by decide +kernel
theorem d_Txt_layOut_1 : decode prog_6_method_7_code 1 = .ok (.invokevirtual 31, 3) := by decide +kernel
theorem d_Txt_layOut_4 : decode prog_6_method_7_code 4 = .ok (.aload_n 2, 1) := by decide +kernel
theorem d_Txt_layOut_5 : decode prog_6_method_7_code 5 = .ok (.invokevirtual 36, 3) := by decide +kernel
theorem d_Txt_layOut_8 : decode prog_6_method_7_code 8 = .ok (.iconst 0, 1) := by decide +kernel
theorem d_Txt_layOut_9 : decode prog_6_method_7_code 9 = .ok (.istore_n 3, 1) := by decide +kernel
theorem d_Txt_layOut_10 : decode prog_6_method_7_code 10 = .ok (.iconst 0, 1) := by decide +kernel
theorem d_Txt_layOut_11 : decode prog_6_method_7_code 11 = .ok (.istore 4, 2) := by decide +kernel
theorem d_Txt_layOut_13 : decode prog_6_method_7_code 13 = .ok (.iload 4, 2) := by decide +kernel
theorem d_Txt_layOut_15 : decode prog_6_method_7_code 15 = .ok (.aload_n 0, 1) := by decide +kernel
theorem d_Txt_layOut_16 : decode prog_6_method_7_code 16 = .ok (.getfield 15, 3) := by decide +kernel
theorem d_Txt_layOut_19 : decode prog_6_method_7_code 19 = .ok (.if_icmp .ge 136, 3) := by decide +kernel
theorem d_Txt_layOut_22 : decode prog_6_method_7_code 22 = .ok (.aload_n 0, 1) := by decide +kernel
theorem d_Txt_layOut_23 : decode prog_6_method_7_code 23 = .ok (.getfield 9, 3) := by decide +kernel
theorem d_Txt_layOut_26 : decode prog_6_method_7_code 26 = .ok (.iload 4, 2) := by decide +kernel
theorem d_Txt_layOut_28 : decode prog_6_method_7_code 28 = .ok (.iaload, 1) := by decide +kernel
theorem d_Txt_layOut_29 : decode prog_6_method_7_code 29 = .ok (.bipush 48, 2) := by decide +kernel
theorem d_Txt_layOut_31 : decode prog_6_method_7_code 31 = .ok (.isub, 1) := by decide +kernel
theorem d_Txt_layOut_32 : decode prog_6_method_7_code 32 = .ok (.istore 5, 2) := by decide +kernel
theorem d_Txt_layOut_34 : decode prog_6_method_7_code 34 = .ok (.iload_n 3, 1) := by decide +kernel
theorem d_Txt_layOut_35 : decode prog_6_method_7_code 35 = .ok (.tableswitch 102 2 6 #[33, 42, 61, 83, 92], 33) := by decide +kernel
theorem d_Txt_layOut_68 : decode prog_6_method_7_code 68 = .ok (.aload_n 1, 1) := by decide +kernel
theorem d_Txt_layOut_69 : decode prog_6_method_7_code 69 = .ok (.iload 5, 2) := by decide +kernel
theorem d_Txt_layOut_71 : decode prog_6_method_7_code 71 = .ok (.invokevirtual 39, 3) := by decide +kernel
theorem d_Txt_layOut_74 : decode prog_6_method_7_code 74 = .ok (.goto 63, 3) := by decide +kernel
theorem d_Txt_layOut_77 : decode prog_6_method_7_code 77 = .ok (.aload_n 2, 1) := by decide +kernel
theorem d_Txt_layOut_78 : decode prog_6_method_7_code 78 = .ok (.aload_n 2, 1) := by decide +kernel
theorem d_Txt_layOut_79 : decode prog_6_method_7_code 79 = .ok (.getfield 43, 3) := by decide +kernel
theorem d_Txt_layOut_82 : decode prog_6_method_7_code 82 = .ok (.aload_n 1, 1) := by decide +kernel
theorem d_Txt_layOut_83 : decode prog_6_method_7_code 83 = .ok (.getfield 46, 3) := by decide +kernel
theorem d_Txt_layOut_86 : decode prog_6_method_7_code 86 = .ok (.iconst 1, 1) := by decide +kernel
theorem d_Txt_layOut_87 : decode prog_6_method_7_code 87 = .ok (.isub, 1) := by decide +kernel
theorem d_Txt_layOut_88 : decode prog_6_method_7_code 88 = .ok (.iload 5, 2) := by decide +kernel
theorem d_Txt_layOut_90 : decode prog_6_method_7_code 90 = .ok (.invokevirtual 49, 3) := by decide +kernel
theorem d_Txt_layOut_93 : decode prog_6_method_7_code 93 = .ok (.goto 44, 3) := by decide +kernel
theorem d_Txt_layOut_96 : decode prog_6_method_7_code 96 = .ok (.aload_n 2, 1) := by decide +kernel
theorem d_Txt_layOut_97 : decode prog_6_method_7_code 97 = .ok (.aload_n 2, 1) := by decide +kernel
theorem d_Txt_layOut_98 : decode prog_6_method_7_code 98 = .ok (.getfield 53, 3) := by decide +kernel
theorem d_Txt_layOut_101 : decode prog_6_method_7_code 101 = .ok (.aload_n 1, 1) := by decide +kernel
theorem d_Txt_layOut_102 : decode prog_6_method_7_code 102 = .ok (.getfield 46, 3) := by decide +kernel
theorem d_Txt_layOut_105 : decode prog_6_method_7_code 105 = .ok (.iconst 1, 1) := by decide +kernel
theorem d_Txt_layOut_106 : decode prog_6_method_7_code 106 = .ok (.isub, 1) := by decide +kernel
theorem d_Txt_layOut_107 : decode prog_6_method_7_code 107 = .ok (.bipush 10, 2) := by decide +kernel
theorem d_Txt_layOut_109 : decode prog_6_method_7_code 109 = .ok (.iload 5, 2) := by decide +kernel
theorem d_Txt_layOut_111 : decode prog_6_method_7_code 111 = .ok (.imul, 1) := by decide +kernel
theorem d_Txt_layOut_112 : decode prog_6_method_7_code 112 = .ok (.invokevirtual 49, 3) := by decide +kernel
theorem d_Txt_layOut_115 : decode prog_6_method_7_code 115 = .ok (.goto 22, 3) := by decide +kernel
theorem d_Txt_layOut_118 : decode prog_6_method_7_code 118 = .ok (.aload_n 1, 1) := by decide +kernel
theorem d_Txt_layOut_119 : decode prog_6_method_7_code 119 = .ok (.iload 5, 2) := by decide +kernel
theorem d_Txt_layOut_121 : decode prog_6_method_7_code 121 = .ok (.invokevirtual 56, 3) := by decide +kernel
theorem d_Txt_layOut_124 : decode prog_6_method_7_code 124 = .ok (.goto 13, 3) := by decide +kernel
theorem d_Txt_layOut_127 : decode prog_6_method_7_code 127 = .ok (.aload_n 1, 1) := by decide +kernel
theorem d_Txt_layOut_128 : decode prog_6_method_7_code 128 = .ok (.iload 5, 2) := by decide +kernel
theorem d_Txt_layOut_130 : decode prog_6_method_7_code 130 = .ok (.ineg, 1) := by decide +kernel
theorem d_Txt_layOut_131 : decode prog_6_method_7_code 131 = .ok (.invokevirtual 56, 3) := by decide +kernel
theorem d_Txt_layOut_134 : decode prog_6_method_7_code 134 = .ok (.goto 3, 3) := by decide +kernel
theorem d_Txt_layOut_137 : decode prog_6_method_7_code 137 = .ok (.iload_n 3, 1) := by decide +kernel
theorem d_Txt_layOut_138 : decode prog_6_method_7_code 138 = .ok (.aload_n 0, 1) := by decide +kernel
theorem d_Txt_layOut_139 : decode prog_6_method_7_code 139 = .ok (.getfield 9, 3) := by decide +kernel
theorem d_Txt_layOut_142 : decode prog_6_method_7_code 142 = .ok (.iload 4, 2) := by decide +kernel
theorem d_Txt_layOut_144 : decode prog_6_method_7_code 144 = .ok (.iaload, 1) := by decide +kernel
theorem d_Txt_layOut_145 : decode prog_6_method_7_code 145 = .ok (.invokestatic 19, 3) := by decide +kernel
theorem d_Txt_layOut_148 : decode prog_6_method_7_code 148 = .ok (.istore_n 3, 1) := by decide +kernel
theorem d_Txt_layOut_149 : decode prog_6_method_7_code 149 = .ok (.iinc 4 1, 3) := by decide +kernel
theorem d_Txt_layOut_152 : decode prog_6_method_7_code 152 = .ok (.goto (-139), 3) := by decide +kernel
theorem d_Txt_layOut_155 : decode prog_6_method_7_code 155 = .ok (.return_, 1) := by decide +kernel
theorem d_Bri_write_0 : decode prog_1_method_2_code 0 = .ok (.iload_n 1, 1) := by decide +kernel
theorem d_Bri_write_1 : decode prog_1_method_2_code 1 = .ok (.ifCond .lt 10, 3) := by decide +kernel
theorem d_Bri_write_4 : decode prog_1_method_2_code 4 = .ok (.iload_n 1, 1) := by decide +kernel
theorem d_Bri_write_5 : decode prog_1_method_2_code 5 = .ok (.sipush 255, 3) := by decide +kernel
theorem d_Bri_write_8 : decode prog_1_method_2_code 8 = .ok (.if_icmp .le 6, 3) := by decide +kernel
theorem d_Bri_write_11 : decode prog_1_method_2_code 11 = .ok (.bipush (-2), 2) := by decide +kernel
theorem d_Bri_write_13 : decode prog_1_method_2_code 13 = .ok (.ireturn, 1) := by decide +kernel
theorem d_Bri_write_14 : decode prog_1_method_2_code 14 = .ok (.aload_n 0, 1) := by decide +kernel
theorem d_Bri_write_15 : decode prog_1_method_2_code 15 = .ok (.getfield 10, 3) := by decide +kernel
theorem d_Bri_write_18 : decode prog_1_method_2_code 18 = .ok (.iload_n 1, 1) := by decide +kernel
theorem d_Bri_write_19 : decode prog_1_method_2_code 19 = .ok (.invokevirtual 68, 3) := by decide +kernel
theorem d_Bri_write_22 : decode prog_1_method_2_code 22 = .ok (.ireturn, 1) := by decide +kernel
theorem d_Bri_wipe_0 : decode prog_1_method_3_code 0 = .ok (.aload_n 0, 1) := by decide +kernel
theorem d_Bri_wipe_1 : decode prog_1_method_3_code 1 = .ok (.getfield 10, 3) := by decide +kernel
theorem d_Bri_wipe_4 : decode prog_1_method_3_code 4 = .ok (.invokevirtual 72, 3) := by decide +kernel
theorem d_Bri_wipe_7 : decode prog_1_method_3_code 7 = .ok (.ireturn, 1) := by decide +kernel
theorem d_Bri_fault_0 : decode prog_1_method_4_code 0 = .ok (.aload_n 0, 1) := by decide +kernel
theorem d_Bri_fault_1 : decode prog_1_method_4_code 1 = .ok (.getfield 10, 3) := by decide +kernel
theorem d_Bri_fault_4 : decode prog_1_method_4_code 4 = .ok (.invokevirtual 76, 3) := by decide +kernel
theorem d_Bri_fault_7 : decode prog_1_method_4_code 7 = .ok (.ireturn, 1) := by decide +kernel
theorem d_Bri_marsh_0 : decode prog_1_method_5_code 0 = .ok (.aload_n 0, 1) := by decide +kernel
theorem d_Bri_marsh_1 : decode prog_1_method_5_code 1 = .ok (.getfield 10, 3) := by decide +kernel
theorem d_Bri_marsh_4 : decode prog_1_method_5_code 4 = .ok (.invokevirtual 76, 3) := by decide +kernel
theorem d_Bri_marsh_7 : decode prog_1_method_5_code 7 = .ok (.bipush (-9), 2) := by decide +kernel
theorem d_Bri_marsh_9 : decode prog_1_method_5_code 9 = .ok (.if_icmp .eq 6, 3) := by decide +kernel
theorem d_Bri_marsh_12 : decode prog_1_method_5_code 12 = .ok (.bipush (-3), 2) := by decide +kernel
theorem d_Bri_marsh_14 : decode prog_1_method_5_code 14 = .ok (.ireturn, 1) := by decide +kernel
theorem d_Bri_marsh_15 : decode prog_1_method_5_code 15 = .ok (.aload_n 0, 1) := by decide +kernel
theorem d_Bri_marsh_16 : decode prog_1_method_5_code 16 = .ok (.getfield 10, 3) := by decide +kernel
theorem d_Bri_marsh_19 : decode prog_1_method_5_code 19 = .ok (.aload_n 0, 1) := by decide +kernel
theorem d_Bri_marsh_20 : decode prog_1_method_5_code 20 = .ok (.getfield 19, 3) := by decide +kernel
theorem d_Bri_marsh_23 : decode prog_1_method_5_code 23 = .ok (.aload_n 0, 1) := by decide +kernel
theorem d_Bri_marsh_24 : decode prog_1_method_5_code 24 = .ok (.getfield 28, 3) := by decide +kernel
theorem d_Bri_marsh_27 : decode prog_1_method_5_code 27 = .ok (.invokevirtual 79, 3) := by decide +kernel
theorem d_Bri_marsh_30 : decode prog_1_method_5_code 30 = .ok (.aload_n 0, 1) := by decide +kernel
theorem d_Bri_marsh_31 : decode prog_1_method_5_code 31 = .ok (.getfield 38, 3) := by decide +kernel
theorem d_Bri_marsh_34 : decode prog_1_method_5_code 34 = .ok (.invokevirtual 83, 3) := by decide +kernel
theorem d_Bri_marsh_37 : decode prog_1_method_5_code 37 = .ok (.iconst 0, 1) := by decide +kernel
theorem d_Bri_marsh_38 : decode prog_1_method_5_code 38 = .ok (.istore_n 1, 1) := by decide +kernel
theorem d_Bri_marsh_39 : decode prog_1_method_5_code 39 = .ok (.iload_n 1, 1) := by decide +kernel
theorem d_Bri_marsh_40 : decode prog_1_method_5_code 40 = .ok (.iconst 2, 1) := by decide +kernel
theorem d_Bri_marsh_41 : decode prog_1_method_5_code 41 = .ok (.if_icmp .ge 16, 3) := by decide +kernel
theorem d_Bri_marsh_44 : decode prog_1_method_5_code 44 = .ok (.aload_n 0, 1) := by decide +kernel
theorem d_Bri_marsh_45 : decode prog_1_method_5_code 45 = .ok (.getfield 53, 3) := by decide +kernel
theorem d_Bri_marsh_48 : decode prog_1_method_5_code 48 = .ok (.iload_n 1, 1) := by decide +kernel
theorem d_Bri_marsh_49 : decode prog_1_method_5_code 49 = .ok (.iconst 0, 1) := by decide +kernel
theorem d_Bri_marsh_50 : decode prog_1_method_5_code 50 = .ok (.bastore, 1) := by decide +kernel
theorem d_Bri_marsh_51 : decode prog_1_method_5_code 51 = .ok (.iinc 1 1, 3) := by decide +kernel
theorem d_Bri_marsh_54 : decode prog_1_method_5_code 54 = .ok (.goto (-15), 3) := by decide +kernel
theorem d_Bri_marsh_57 : decode prog_1_method_5_code 57 = .ok (.bipush 10, 2) := by decide +kernel
theorem d_Bri_marsh_59 : decode prog_1_method_5_code 59 = .ok (.aload_n 0, 1) := by decide +kernel
theorem d_Bri_marsh_60 : decode prog_1_method_5_code 60 = .ok (.getfield 19, 3) := by decide +kernel
theorem d_Bri_marsh_63 : decode prog_1_method_5_code 63 = .ok (.getfield 85, 3) := by decide +kernel
theorem d_Bri_marsh_66 : decode prog_1_method_5_code 66 = .ok (.imul, 1) := by decide +kernel
theorem d_Bri_marsh_67 : decode prog_1_method_5_code 67 = .ok (.aload_n 0, 1) := by decide +kernel
theorem d_Bri_marsh_68 : decode prog_1_method_5_code 68 = .ok (.getfield 19, 3) := by decide +kernel
theorem d_Bri_marsh_71 : decode prog_1_method_5_code 71 = .ok (.getfield 89, 3) := by decide +kernel
theorem d_Bri_marsh_74 : decode prog_1_method_5_code 74 = .ok (.iadd, 1) := by decide +kernel
theorem d_Bri_marsh_75 : decode prog_1_method_5_code 75 = .ok (.ireturn, 1) := by decide +kernel
theorem d_Bri_about_0 : decode prog_1_method_6_code 0 = .ok (.iload_n 1, 1) := by decide +kernel
theorem d_Bri_about_1 : decode prog_1_method_6_code 1 = .ok (.tableswitch 192 0 12 #[67, 75, 83, 91, 106, 114, 122, 137, 152, 160, 168, 176, 184], 67) := by decide +kernel
theorem d_Bri_about_68 : decode prog_1_method_6_code 68 = .ok (.aload_n 0, 1) := by decide +kernel
theorem d_Bri_about_69 : decode prog_1_method_6_code 69 = .ok (.getfield 19, 3) := by decide +kernel
theorem d_Bri_about_72 : decode prog_1_method_6_code 72 = .ok (.getfield 85, 3) := by decide +kernel
theorem d_Bri_about_75 : decode prog_1_method_6_code 75 = .ok (.ireturn, 1) := by decide +kernel
theorem d_Bri_about_76 : decode prog_1_method_6_code 76 = .ok (.aload_n 0, 1) := by decide +kernel
theorem d_Bri_about_77 : decode prog_1_method_6_code 77 = .ok (.getfield 19, 3) := by decide +kernel
theorem d_Bri_about_80 : decode prog_1_method_6_code 80 = .ok (.getfield 89, 3) := by decide +kernel
theorem d_Bri_about_83 : decode prog_1_method_6_code 83 = .ok (.ireturn, 1) := by decide +kernel
theorem d_Bri_about_84 : decode prog_1_method_6_code 84 = .ok (.aload_n 0, 1) := by decide +kernel
theorem d_Bri_about_85 : decode prog_1_method_6_code 85 = .ok (.getfield 28, 3) := by decide +kernel
theorem d_Bri_about_88 : decode prog_1_method_6_code 88 = .ok (.getfield 92, 3) := by decide +kernel
theorem d_Bri_about_91 : decode prog_1_method_6_code 91 = .ok (.ireturn, 1) := by decide +kernel
theorem d_Bri_about_92 : decode prog_1_method_6_code 92 = .ok (.aload_n 0, 1) := by decide +kernel
theorem d_Bri_about_93 : decode prog_1_method_6_code 93 = .ok (.getfield 19, 3) := by decide +kernel
theorem d_Bri_about_96 : decode prog_1_method_6_code 96 = .ok (.aload_n 0, 1) := by decide +kernel
theorem d_Bri_about_97 : decode prog_1_method_6_code 97 = .ok (.getfield 28, 3) := by decide +kernel
theorem d_Bri_about_100 : decode prog_1_method_6_code 100 = .ok (.getfield 92, 3) := by decide +kernel
theorem d_Bri_about_103 : decode prog_1_method_6_code 103 = .ok (.invokevirtual 95, 3) := by decide +kernel
theorem d_Bri_about_106 : decode prog_1_method_6_code 106 = .ok (.ireturn, 1) := by decide +kernel
theorem d_Bri_about_107 : decode prog_1_method_6_code 107 = .ok (.aload_n 0, 1) := by decide +kernel
theorem d_Bri_about_108 : decode prog_1_method_6_code 108 = .ok (.getfield 28, 3) := by decide +kernel
theorem d_Bri_about_111 : decode prog_1_method_6_code 111 = .ok (.getfield 98, 3) := by decide +kernel
theorem d_Bri_about_114 : decode prog_1_method_6_code 114 = .ok (.ireturn, 1) := by decide +kernel
theorem d_Bri_about_115 : decode prog_1_method_6_code 115 = .ok (.aload_n 0, 1) := by decide +kernel
theorem d_Bri_about_116 : decode prog_1_method_6_code 116 = .ok (.getfield 28, 3) := by decide +kernel
theorem d_Bri_about_119 : decode prog_1_method_6_code 119 = .ok (.getfield 101, 3) := by decide +kernel
theorem d_Bri_about_122 : decode prog_1_method_6_code 122 = .ok (.ireturn, 1) := by decide +kernel
theorem d_Bri_about_123 : decode prog_1_method_6_code 123 = .ok (.aload_n 0, 1) := by decide +kernel
theorem d_Bri_about_124 : decode prog_1_method_6_code 124 = .ok (.getfield 28, 3) := by decide +kernel
theorem d_Bri_about_127 : decode prog_1_method_6_code 127 = .ok (.aload_n 0, 1) := by decide +kernel
theorem d_Bri_about_128 : decode prog_1_method_6_code 128 = .ok (.getfield 28, 3) := by decide +kernel
theorem d_Bri_about_131 : decode prog_1_method_6_code 131 = .ok (.getfield 104, 3) := by decide +kernel
theorem d_Bri_about_134 : decode prog_1_method_6_code 134 = .ok (.invokevirtual 107, 3) := by decide +kernel
theorem d_Bri_about_137 : decode prog_1_method_6_code 137 = .ok (.ireturn, 1) := by decide +kernel
theorem d_Bri_about_138 : decode prog_1_method_6_code 138 = .ok (.aload_n 0, 1) := by decide +kernel
theorem d_Bri_about_139 : decode prog_1_method_6_code 139 = .ok (.getfield 28, 3) := by decide +kernel
theorem d_Bri_about_142 : decode prog_1_method_6_code 142 = .ok (.aload_n 0, 1) := by decide +kernel
theorem d_Bri_about_143 : decode prog_1_method_6_code 143 = .ok (.getfield 28, 3) := by decide +kernel
theorem d_Bri_about_146 : decode prog_1_method_6_code 146 = .ok (.getfield 111, 3) := by decide +kernel
theorem d_Bri_about_149 : decode prog_1_method_6_code 149 = .ok (.invokevirtual 107, 3) := by decide +kernel
theorem d_Bri_about_152 : decode prog_1_method_6_code 152 = .ok (.ireturn, 1) := by decide +kernel
theorem d_Bri_about_153 : decode prog_1_method_6_code 153 = .ok (.aload_n 0, 1) := by decide +kernel
theorem d_Bri_about_154 : decode prog_1_method_6_code 154 = .ok (.getfield 28, 3) := by decide +kernel
theorem d_Bri_about_157 : decode prog_1_method_6_code 157 = .ok (.invokevirtual 114, 3) := by decide +kernel
theorem d_Bri_about_160 : decode prog_1_method_6_code 160 = .ok (.ireturn, 1) := by decide +kernel
theorem d_Bri_about_161 : decode prog_1_method_6_code 161 = .ok (.aload_n 0, 1) := by decide +kernel
theorem d_Bri_about_162 : decode prog_1_method_6_code 162 = .ok (.getfield 28, 3) := by decide +kernel
theorem d_Bri_about_165 : decode prog_1_method_6_code 165 = .ok (.invokevirtual 117, 3) := by decide +kernel
theorem d_Bri_about_168 : decode prog_1_method_6_code 168 = .ok (.ireturn, 1) := by decide +kernel
theorem d_Bri_about_169 : decode prog_1_method_6_code 169 = .ok (.aload_n 0, 1) := by decide +kernel
theorem d_Bri_about_170 : decode prog_1_method_6_code 170 = .ok (.getfield 38, 3) := by decide +kernel
theorem d_Bri_about_173 : decode prog_1_method_6_code 173 = .ok (.getfield 120, 3) := by decide +kernel
theorem d_Bri_about_176 : decode prog_1_method_6_code 176 = .ok (.ireturn, 1) := by decide +kernel
theorem d_Bri_about_177 : decode prog_1_method_6_code 177 = .ok (.aload_n 0, 1) := by decide +kernel
theorem d_Bri_about_178 : decode prog_1_method_6_code 178 = .ok (.getfield 45, 3) := by decide +kernel
theorem d_Bri_about_181 : decode prog_1_method_6_code 181 = .ok (.getfield 123, 3) := by decide +kernel
theorem d_Bri_about_184 : decode prog_1_method_6_code 184 = .ok (.ireturn, 1) := by decide +kernel
theorem d_Bri_about_185 : decode prog_1_method_6_code 185 = .ok (.aload_n 0, 1) := by decide +kernel
theorem d_Bri_about_186 : decode prog_1_method_6_code 186 = .ok (.getfield 10, 3) := by decide +kernel
theorem d_Bri_about_189 : decode prog_1_method_6_code 189 = .ok (.getfield 124, 3) := by decide +kernel
theorem d_Bri_about_192 : decode prog_1_method_6_code 192 = .ok (.ireturn, 1) := by decide +kernel
theorem d_Bri_about_193 : decode prog_1_method_6_code 193 = .ok (.bipush (-2), 2) := by decide +kernel
theorem d_Bri_about_195 : decode prog_1_method_6_code 195 = .ok (.ireturn, 1) := by decide +kernel
theorem d_Bri_pan_0 : decode prog_1_method_7_code 0 = .ok (.aload_n 0, 1) := by decide +kernel
theorem d_Bri_pan_1 : decode prog_1_method_7_code 1 = .ok (.getfield 19, 3) := by decide +kernel
theorem d_Bri_pan_4 : decode prog_1_method_7_code 4 = .ok (.iload_n 1, 1) := by decide +kernel
theorem d_Bri_pan_5 : decode prog_1_method_7_code 5 = .ok (.invokevirtual 127, 3) := by decide +kernel
theorem d_Bri_pan_8 : decode prog_1_method_7_code 8 = .ok (.ifCond .ne 5, 3) := by decide +kernel
theorem d_Bri_pan_11 : decode prog_1_method_7_code 11 = .ok (.iconst (-1), 1) := by decide +kernel
theorem d_Bri_pan_12 : decode prog_1_method_7_code 12 = .ok (.ireturn, 1) := by decide +kernel
theorem d_Bri_pan_13 : decode prog_1_method_7_code 13 = .ok (.iload_n 2, 1) := by decide +kernel
theorem d_Bri_pan_14 : decode prog_1_method_7_code 14 = .ok (.tableswitch 95 0 5 #[38, 48, 58, 68, 77, 86], 38) := by decide +kernel
theorem d_Bri_pan_52 : decode prog_1_method_7_code 52 = .ok (.aload_n 0, 1) := by decide +kernel
theorem d_Bri_pan_53 : decode prog_1_method_7_code 53 = .ok (.getfield 19, 3) := by decide +kernel
theorem d_Bri_pan_56 : decode prog_1_method_7_code 56 = .ok (.getfield 131, 3) := by decide +kernel
theorem d_Bri_pan_59 : decode prog_1_method_7_code 59 = .ok (.iload_n 1, 1) := by decide +kernel
theorem d_Bri_pan_60 : decode prog_1_method_7_code 60 = .ok (.iaload, 1) := by decide +kernel
theorem d_Bri_pan_61 : decode prog_1_method_7_code 61 = .ok (.ireturn, 1) := by decide +kernel
theorem d_Bri_pan_62 : decode prog_1_method_7_code 62 = .ok (.aload_n 0, 1) := by decide +kernel
theorem d_Bri_pan_63 : decode prog_1_method_7_code 63 = .ok (.getfield 28, 3) := by decide +kernel
theorem d_Bri_pan_66 : decode prog_1_method_7_code 66 = .ok (.getfield 104, 3) := by decide +kernel
theorem d_Bri_pan_69 : decode prog_1_method_7_code 69 = .ok (.iload_n 1, 1) := by decide +kernel
theorem d_Bri_pan_70 : decode prog_1_method_7_code 70 = .ok (.iaload, 1) := by decide +kernel
theorem d_Bri_pan_71 : decode prog_1_method_7_code 71 = .ok (.ireturn, 1) := by decide +kernel
theorem d_Bri_pan_72 : decode prog_1_method_7_code 72 = .ok (.aload_n 0, 1) := by decide +kernel
theorem d_Bri_pan_73 : decode prog_1_method_7_code 73 = .ok (.getfield 28, 3) := by decide +kernel
theorem d_Bri_pan_76 : decode prog_1_method_7_code 76 = .ok (.getfield 111, 3) := by decide +kernel
theorem d_Bri_pan_79 : decode prog_1_method_7_code 79 = .ok (.iload_n 1, 1) := by decide +kernel
theorem d_Bri_pan_80 : decode prog_1_method_7_code 80 = .ok (.iaload, 1) := by decide +kernel
theorem d_Bri_pan_81 : decode prog_1_method_7_code 81 = .ok (.ireturn, 1) := by decide +kernel
theorem d_Bri_pan_82 : decode prog_1_method_7_code 82 = .ok (.aload_n 0, 1) := by decide +kernel
theorem d_Bri_pan_83 : decode prog_1_method_7_code 83 = .ok (.getfield 28, 3) := by decide +kernel
theorem d_Bri_pan_86 : decode prog_1_method_7_code 86 = .ok (.iload_n 1, 1) := by decide +kernel
theorem d_Bri_pan_87 : decode prog_1_method_7_code 87 = .ok (.invokevirtual 134, 3) := by decide +kernel
theorem d_Bri_pan_90 : decode prog_1_method_7_code 90 = .ok (.ireturn, 1) := by decide +kernel
theorem d_Bri_pan_91 : decode prog_1_method_7_code 91 = .ok (.aload_n 0, 1) := by decide +kernel
theorem d_Bri_pan_92 : decode prog_1_method_7_code 92 = .ok (.getfield 28, 3) := by decide +kernel
theorem d_Bri_pan_95 : decode prog_1_method_7_code 95 = .ok (.iload_n 1, 1) := by decide +kernel
theorem d_Bri_pan_96 : decode prog_1_method_7_code 96 = .ok (.invokevirtual 137, 3) := by decide +kernel
theorem d_Bri_pan_99 : decode prog_1_method_7_code 99 = .ok (.ireturn, 1) := by decide +kernel
theorem d_Bri_pan_100 : decode prog_1_method_7_code 100 = .ok (.aload_n 0, 1) := by decide +kernel
theorem d_Bri_pan_101 : decode prog_1_method_7_code 101 = .ok (.getfield 28, 3) := by decide +kernel
theorem d_Bri_pan_104 : decode prog_1_method_7_code 104 = .ok (.iload_n 1, 1) := by decide +kernel
theorem d_Bri_pan_105 : decode prog_1_method_7_code 105 = .ok (.invokevirtual 140, 3) := by decide +kernel
theorem d_Bri_pan_108 : decode prog_1_method_7_code 108 = .ok (.ireturn, 1) := by decide +kernel
theorem d_Bri_pan_109 : decode prog_1_method_7_code 109 = .ok (.bipush (-2), 2) := by decide +kernel
theorem d_Bri_pan_111 : decode prog_1_method_7_code 111 = .ok (.ireturn, 1) := by decide +kernel
theorem d_Bri_fromNow_0 : decode prog_1_method_30_code 0 = .ok (.aload_n 0, 1) := by decide +kernel
theorem d_Bri_fromNow_1 : decode prog_1_method_30_code 1 = .ok (.getfield 32, 3) := by decide +kernel
theorem d_Bri_fromNow_4 : decode prog_1_method_30_code 4 = .ok (.aload_n 0, 1) := by decide +kernel
theorem d_Bri_fromNow_5 : decode prog_1_method_30_code 5 = .ok (.getfield 28, 3) := by decide +kernel
theorem d_Bri_fromNow_8 : decode prog_1_method_30_code 8 = .ok (.invokevirtual 241, 3) := by decide +kernel
theorem d_Bri_fromNow_11 : decode prog_1_method_30_code 11 = .ok (.aload_n 0, 1) := by decide +kernel
theorem d_Bri_fromNow_12 : decode prog_1_method_30_code 12 = .ok (.getfield 32, 3) := by decide +kernel
theorem d_Bri_fromNow_15 : decode prog_1_method_30_code 15 = .ok (.areturn, 1) := by decide +kernel
theorem d_Bri_settle_0 : decode prog_1_method_31_code 0 = .ok (.iload_n 1, 1) := by decide +kernel
theorem d_Bri_settle_1 : decode prog_1_method_31_code 1 = .ok (.ifCond .lt 25, 3) := by decide +kernel
theorem d_Bri_settle_4 : decode prog_1_method_31_code 4 = .ok (.aload_n 0, 1) := by decide +kernel
theorem d_Bri_settle_5 : decode prog_1_method_31_code 5 = .ok (.getfield 38, 3) := by decide +kernel
theorem d_Bri_settle_8 : decode prog_1_method_31_code 8 = .ok (.aload_n 0, 1) := by decide +kernel
theorem d_Bri_settle_9 : decode prog_1_method_31_code 9 = .ok (.getfield 28, 3) := by decide +kernel
theorem d_Bri_settle_12 : decode prog_1_method_31_code 12 = .ok (.invokevirtual 245, 3) := by decide +kernel
theorem d_Bri_settle_15 : decode prog_1_method_31_code 15 = .ok (.aload_n 0, 1) := by decide +kernel
theorem d_Bri_settle_16 : decode prog_1_method_31_code 16 = .ok (.getfield 28, 3) := by decide +kernel
theorem d_Bri_settle_19 : decode prog_1_method_31_code 19 = .ok (.aload_n 0, 1) := by decide +kernel
theorem d_Bri_settle_20 : decode prog_1_method_31_code 20 = .ok (.getfield 32, 3) := by decide +kernel
theorem d_Bri_settle_23 : decode prog_1_method_31_code 23 = .ok (.invokevirtual 241, 3) := by decide +kernel
theorem d_Bri_settle_26 : decode prog_1_method_31_code 26 = .ok (.iload_n 1, 1) := by decide +kernel
theorem d_Bri_settle_27 : decode prog_1_method_31_code 27 = .ok (.ireturn, 1) := by decide +kernel
theorem d_Bri_day_0 : decode prog_1_method_8_code 0 = .ok (.aload_n 0, 1) := by decide +kernel
theorem d_Bri_day_1 : decode prog_1_method_8_code 1 = .ok (.invokevirtual 143, 3) := by decide +kernel
theorem d_Bri_day_4 : decode prog_1_method_8_code 4 = .ok (.astore_n 1, 1) := by decide +kernel
theorem d_Bri_day_5 : decode prog_1_method_8_code 5 = .ok (.aload_n 1, 1) := by decide +kernel
theorem d_Bri_day_6 : decode prog_1_method_8_code 6 = .ok (.iconst 0, 1) := by decide +kernel
theorem d_Bri_day_7 : decode prog_1_method_8_code 7 = .ok (.invokevirtual 147, 3) := by decide +kernel
theorem d_Bri_day_10 : decode prog_1_method_8_code 10 = .ok (.aload_n 0, 1) := by decide +kernel
theorem d_Bri_day_11 : decode prog_1_method_8_code 11 = .ok (.aload_n 1, 1) := by decide +kernel
theorem d_Bri_day_12 : decode prog_1_method_8_code 12 = .ok (.invokevirtual 114, 3) := by decide +kernel
theorem d_Bri_day_15 : decode prog_1_method_8_code 15 = .ok (.invokevirtual 151, 3) := by decide +kernel
theorem d_Bri_day_18 : decode prog_1_method_8_code 18 = .ok (.ireturn, 1) := by decide +kernel
theorem d_Bri_sea_0 : decode prog_1_method_9_code 0 = .ok (.aload_n 0, 1) := by decide +kernel
theorem d_Bri_sea_1 : decode prog_1_method_9_code 1 = .ok (.aload_n 0, 1) := by decide +kernel
theorem d_Bri_sea_2 : decode prog_1_method_9_code 2 = .ok (.invokevirtual 143, 3) := by decide +kernel
theorem d_Bri_sea_5 : decode prog_1_method_9_code 5 = .ok (.iload_n 1, 1) := by decide +kernel
theorem d_Bri_sea_6 : decode prog_1_method_9_code 6 = .ok (.invokevirtual 154, 3) := by decide +kernel
theorem d_Bri_sea_9 : decode prog_1_method_9_code 9 = .ok (.invokevirtual 151, 3) := by decide +kernel
theorem d_Bri_sea_12 : decode prog_1_method_9_code 12 = .ok (.ireturn, 1) := by decide +kernel
theorem d_Bri_let_0 : decode prog_1_method_10_code 0 = .ok (.aload_n 0, 1) := by decide +kernel
theorem d_Bri_let_1 : decode prog_1_method_10_code 1 = .ok (.aload_n 0, 1) := by decide +kernel
theorem d_Bri_let_2 : decode prog_1_method_10_code 2 = .ok (.invokevirtual 143, 3) := by decide +kernel
theorem d_Bri_let_5 : decode prog_1_method_10_code 5 = .ok (.iload_n 1, 1) := by decide +kernel
theorem d_Bri_let_6 : decode prog_1_method_10_code 6 = .ok (.iload_n 2, 1) := by decide +kernel
theorem d_Bri_let_7 : decode prog_1_method_10_code 7 = .ok (.invokevirtual 157, 3) := by decide +kernel
theorem d_Bri_let_10 : decode prog_1_method_10_code 10 = .ok (.invokevirtual 151, 3) := by decide +kernel
theorem d_Bri_let_13 : decode prog_1_method_10_code 13 = .ok (.ireturn, 1) := by decide +kernel
theorem d_Bri_turn_0 : decode prog_1_method_11_code 0 = .ok (.aload_n 0, 1) := by decide +kernel
theorem d_Bri_turn_1 : decode prog_1_method_11_code 1 = .ok (.aload_n 0, 1) := by decide +kernel
theorem d_Bri_turn_2 : decode prog_1_method_11_code 2 = .ok (.invokevirtual 143, 3) := by decide +kernel
theorem d_Bri_turn_5 : decode prog_1_method_11_code 5 = .ok (.iload_n 1, 1) := by decide +kernel
theorem d_Bri_turn_6 : decode prog_1_method_11_code 6 = .ok (.invokevirtual 161, 3) := by decide +kernel
theorem d_Bri_turn_9 : decode prog_1_method_11_code 9 = .ok (.invokevirtual 151, 3) := by decide +kernel
theorem d_Bri_turn_12 : decode prog_1_method_11_code 12 = .ok (.ireturn, 1) := by decide +kernel
theorem d_Bri_rake_0 : decode prog_1_method_12_code 0 = .ok (.aload_n 0, 1) := by decide +kernel
theorem d_Bri_rake_1 : decode prog_1_method_12_code 1 = .ok (.aload_n 0, 1) := by decide +kernel
theorem d_Bri_rake_2 : decode prog_1_method_12_code 2 = .ok (.invokevirtual 143, 3) := by decide +kernel
theorem d_Bri_rake_5 : decode prog_1_method_12_code 5 = .ok (.iload_n 1, 1) := by decide +kernel
theorem d_Bri_rake_6 : decode prog_1_method_12_code 6 = .ok (.invokevirtual 164, 3) := by decide +kernel
theorem d_Bri_rake_9 : decode prog_1_method_12_code 9 = .ok (.invokevirtual 151, 3) := by decide +kernel
theorem d_Bri_rake_12 : decode prog_1_method_12_code 12 = .ok (.ireturn, 1) := by decide +kernel
theorem d_Bri_undo_0 : decode prog_1_method_13_code 0 = .ok (.aload_n 0, 1) := by decide +kernel
theorem d_Bri_undo_1 : decode prog_1_method_13_code 1 = .ok (.getfield 38, 3) := by decide +kernel
theorem d_Bri_undo_4 : decode prog_1_method_13_code 4 = .ok (.aload_n 0, 1) := by decide +kernel
theorem d_Bri_undo_5 : decode prog_1_method_13_code 5 = .ok (.getfield 28, 3) := by decide +kernel
theorem d_Bri_undo_8 : decode prog_1_method_13_code 8 = .ok (.invokevirtual 167, 3) := by decide +kernel
theorem d_Bri_undo_11 : decode prog_1_method_13_code 11 = .ok (.ireturn, 1) := by decide +kernel
theorem d_Bri_later_0 : decode prog_1_method_14_code 0 = .ok (.aload_n 0, 1) := by decide +kernel
theorem d_Bri_later_1 : decode prog_1_method_14_code 1 = .ok (.getfield 19, 3) := by decide +kernel
theorem d_Bri_later_4 : decode prog_1_method_14_code 4 = .ok (.iload_n 1, 1) := by decide +kernel
theorem d_Bri_later_5 : decode prog_1_method_14_code 5 = .ok (.invokevirtual 127, 3) := by decide +kernel
theorem d_Bri_later_8 : decode prog_1_method_14_code 8 = .ok (.ifCond .ne 5, 3) := by decide +kernel
theorem d_Bri_later_11 : decode prog_1_method_14_code 11 = .ok (.iconst (-1), 1) := by decide +kernel
theorem d_Bri_later_12 : decode prog_1_method_14_code 12 = .ok (.ireturn, 1) := by decide +kernel
theorem d_Bri_later_13 : decode prog_1_method_14_code 13 = .ok (.iload_n 2, 1) := by decide +kernel
theorem d_Bri_later_14 : decode prog_1_method_14_code 14 = .ok (.iconst 0, 1) := by decide +kernel
theorem d_Bri_later_15 : decode prog_1_method_14_code 15 = .ok (.bipush 30, 2) := by decide +kernel
theorem d_Bri_later_17 : decode prog_1_method_14_code 17 = .ok (.invokestatic 171, 3) := by decide +kernel
theorem d_Bri_later_20 : decode prog_1_method_14_code 20 = .ok (.ifCond .eq 12, 3) := by decide +kernel
theorem d_Bri_later_23 : decode prog_1_method_14_code 23 = .ok (.iload_n 3, 1) := by decide +kernel
theorem d_Bri_later_24 : decode prog_1_method_14_code 24 = .ok (.iconst 0, 1) := by decide +kernel
theorem d_Bri_later_25 : decode prog_1_method_14_code 25 = .ok (.iconst 2, 1) := by decide +kernel
theorem d_Bri_later_26 : decode prog_1_method_14_code 26 = .ok (.invokestatic 171, 3) := by decide +kernel
theorem d_Bri_later_29 : decode prog_1_method_14_code 29 = .ok (.ifCond .ne 6, 3) := by decide +kernel
theorem d_Bri_later_32 : decode prog_1_method_14_code 32 = .ok (.bipush (-2), 2) := by decide +kernel
theorem d_Bri_later_34 : decode prog_1_method_14_code 34 = .ok (.ireturn, 1) := by decide +kernel
theorem d_Bri_later_35 : decode prog_1_method_14_code 35 = .ok (.aload_n 0, 1) := by decide +kernel
theorem d_Bri_later_36 : decode prog_1_method_14_code 36 = .ok (.invokevirtual 143, 3) := by decide +kernel
theorem d_Bri_later_39 : decode prog_1_method_14_code 39 = .ok (.astore 4, 2) := by decide +kernel
theorem d_Bri_later_41 : decode prog_1_method_14_code 41 = .ok (.aload 4, 2) := by decide +kernel
theorem d_Bri_later_43 : decode prog_1_method_14_code 43 = .ok (.iload_n 2, 1) := by decide +kernel
theorem d_Bri_later_44 : decode prog_1_method_14_code 44 = .ok (.invokevirtual 175, 3) := by decide +kernel
theorem d_Bri_later_47 : decode prog_1_method_14_code 47 = .ok (.iload_n 3, 1) := by decide +kernel
theorem d_Bri_later_48 : decode prog_1_method_14_code 48 = .ok (.ifCond .ne 11, 3) := by decide +kernel
theorem d_Bri_later_51 : decode prog_1_method_14_code 51 = .ok (.aload 4, 2) := by decide +kernel
theorem d_Bri_later_53 : decode prog_1_method_14_code 53 = .ok (.getfield 104, 3) := by decide +kernel
theorem d_Bri_later_56 : decode prog_1_method_14_code 56 = .ok (.iload_n 1, 1) := by decide +kernel
theorem d_Bri_later_57 : decode prog_1_method_14_code 57 = .ok (.iaload, 1) := by decide +kernel
theorem d_Bri_later_58 : decode prog_1_method_14_code 58 = .ok (.ireturn, 1) := by decide +kernel
theorem d_Bri_later_59 : decode prog_1_method_14_code 59 = .ok (.iload_n 3, 1) := by decide +kernel
theorem d_Bri_later_60 : decode prog_1_method_14_code 60 = .ok (.iconst 1, 1) := by decide +kernel
theorem d_Bri_later_61 : decode prog_1_method_14_code 61 = .ok (.if_icmp .ne 13, 3) := by decide +kernel
theorem d_Bri_later_64 : decode prog_1_method_14_code 64 = .ok (.aload 4, 2) := by decide +kernel
theorem d_Bri_later_66 : decode prog_1_method_14_code 66 = .ok (.getfield 111, 3) := by decide +kernel
theorem d_Bri_later_69 : decode prog_1_method_14_code 69 = .ok (.iload_n 1, 1) := by decide +kernel
theorem d_Bri_later_70 : decode prog_1_method_14_code 70 = .ok (.iaload, 1) := by decide +kernel
theorem d_Bri_later_71 : decode prog_1_method_14_code 71 = .ok (.goto 9, 3) := by decide +kernel
theorem d_Bri_later_74 : decode prog_1_method_14_code 74 = .ok (.aload 4, 2) := by decide +kernel
theorem d_Bri_later_76 : decode prog_1_method_14_code 76 = .ok (.iload_n 1, 1) := by decide +kernel
theorem d_Bri_later_77 : decode prog_1_method_14_code 77 = .ok (.invokevirtual 137, 3) := by decide +kernel
theorem d_Bri_later_80 : decode prog_1_method_14_code 80 = .ok (.ireturn, 1) := by decide +kernel
theorem d_Bri_crust_0 : decode prog_1_method_15_code 0 = .ok (.iload_n 1, 1) := by decide +kernel
theorem d_Bri_crust_1 : decode prog_1_method_15_code 1 = .ok (.iconst 0, 1) := by decide +kernel
theorem d_Bri_crust_2 : decode prog_1_method_15_code 2 = .ok (.bipush 30, 2) := by decide +kernel
theorem d_Bri_crust_4 : decode prog_1_method_15_code 4 = .ok (.invokestatic 171, 3) := by decide +kernel
theorem d_Bri_crust_7 : decode prog_1_method_15_code 7 = .ok (.ifCond .ne 6, 3) := by decide +kernel
theorem d_Bri_crust_10 : decode prog_1_method_15_code 10 = .ok (.bipush (-2), 2) := by decide +kernel
theorem d_Bri_crust_12 : decode prog_1_method_15_code 12 = .ok (.ireturn, 1) := by decide +kernel
theorem d_Bri_crust_13 : decode prog_1_method_15_code 13 = .ok (.aload_n 0, 1) := by decide +kernel
theorem d_Bri_crust_14 : decode prog_1_method_15_code 14 = .ok (.invokevirtual 143, 3) := by decide +kernel
theorem d_Bri_crust_17 : decode prog_1_method_15_code 17 = .ok (.iload_n 1, 1) := by decide +kernel
theorem d_Bri_crust_18 : decode prog_1_method_15_code 18 = .ok (.invokevirtual 179, 3) := by decide +kernel
theorem d_Bri_crust_21 : decode prog_1_method_15_code 21 = .ok (.ireturn, 1) := by decide +kernel
theorem d_Bri_ripe_0 : decode prog_1_method_16_code 0 = .ok (.aload_n 0, 1) := by decide +kernel
theorem d_Bri_ripe_1 : decode prog_1_method_16_code 1 = .ok (.getfield 19, 3) := by decide +kernel
theorem d_Bri_ripe_4 : decode prog_1_method_16_code 4 = .ok (.iload_n 1, 1) := by decide +kernel
theorem d_Bri_ripe_5 : decode prog_1_method_16_code 5 = .ok (.invokevirtual 127, 3) := by decide +kernel
theorem d_Bri_ripe_8 : decode prog_1_method_16_code 8 = .ok (.ifCond .ne 5, 3) := by decide +kernel
theorem d_Bri_ripe_11 : decode prog_1_method_16_code 11 = .ok (.iconst (-1), 1) := by decide +kernel
theorem d_Bri_ripe_12 : decode prog_1_method_16_code 12 = .ok (.ireturn, 1) := by decide +kernel
theorem d_Bri_ripe_13 : decode prog_1_method_16_code 13 = .ok (.aload_n 0, 1) := by decide +kernel
theorem d_Bri_ripe_14 : decode prog_1_method_16_code 14 = .ok (.invokevirtual 143, 3) := by decide +kernel
theorem d_Bri_ripe_17 : decode prog_1_method_16_code 17 = .ok (.astore_n 2, 1) := by decide +kernel
theorem d_Bri_ripe_18 : decode prog_1_method_16_code 18 = .ok (.iconst 0, 1) := by decide +kernel
theorem d_Bri_ripe_19 : decode prog_1_method_16_code 19 = .ok (.istore_n 3, 1) := by decide +kernel
theorem d_Bri_ripe_20 : decode prog_1_method_16_code 20 = .ok (.iload_n 3, 1) := by decide +kernel
theorem d_Bri_ripe_21 : decode prog_1_method_16_code 21 = .ok (.bipush 30, 2) := by decide +kernel
theorem d_Bri_ripe_23 : decode prog_1_method_16_code 23 = .ok (.if_icmp .gt 24, 3) := by decide +kernel
theorem d_Bri_ripe_26 : decode prog_1_method_16_code 26 = .ok (.aload_n 2, 1) := by decide +kernel
theorem d_Bri_ripe_27 : decode prog_1_method_16_code 27 = .ok (.iload_n 1, 1) := by decide +kernel
theorem d_Bri_ripe_28 : decode prog_1_method_16_code 28 = .ok (.invokevirtual 182, 3) := by decide +kernel
theorem d_Bri_ripe_31 : decode prog_1_method_16_code 31 = .ok (.ifCond .eq 5, 3) := by decide +kernel
theorem d_Bri_ripe_34 : decode prog_1_method_16_code 34 = .ok (.iload_n 3, 1) := by decide +kernel
theorem d_Bri_ripe_35 : decode prog_1_method_16_code 35 = .ok (.ireturn, 1) := by decide +kernel
theorem d_Bri_ripe_36 : decode prog_1_method_16_code 36 = .ok (.aload_n 2, 1) := by decide +kernel
theorem d_Bri_ripe_37 : decode prog_1_method_16_code 37 = .ok (.iconst 0, 1) := by decide +kernel
theorem d_Bri_ripe_38 : decode prog_1_method_16_code 38 = .ok (.invokevirtual 147, 3) := by decide +kernel
theorem d_Bri_ripe_41 : decode prog_1_method_16_code 41 = .ok (.iinc 3 1, 3) := by decide +kernel
theorem d_Bri_ripe_44 : decode prog_1_method_16_code 44 = .ok (.goto (-24), 3) := by decide +kernel
theorem d_Bri_ripe_47 : decode prog_1_method_16_code 47 = .ok (.bipush (-9), 2) := by decide +kernel
theorem d_Bri_ripe_49 : decode prog_1_method_16_code 49 = .ok (.ireturn, 1) := by decide +kernel
theorem d_Bri_best_0 : decode prog_1_method_17_code 0 = .ok (.iload_n 1, 1) := by decide +kernel
theorem d_Bri_best_1 : decode prog_1_method_17_code 1 = .ok (.iconst 1, 1) := by decide +kernel
theorem d_Bri_best_2 : decode prog_1_method_17_code 2 = .ok (.bipush 9, 2) := by decide +kernel
theorem d_Bri_best_4 : decode prog_1_method_17_code 4 = .ok (.invokestatic 171, 3) := by decide +kernel
theorem d_Bri_best_7 : decode prog_1_method_17_code 7 = .ok (.ifCond .eq 12, 3) := by decide +kernel
theorem d_Bri_best_10 : decode prog_1_method_17_code 10 = .ok (.iload_n 2, 1) := by decide +kernel
theorem d_Bri_best_11 : decode prog_1_method_17_code 11 = .ok (.iconst 0, 1) := by decide +kernel
theorem d_Bri_best_12 : decode prog_1_method_17_code 12 = .ok (.iconst 1, 1) := by decide +kernel
theorem d_Bri_best_13 : decode prog_1_method_17_code 13 = .ok (.invokestatic 171, 3) := by decide +kernel
theorem d_Bri_best_16 : decode prog_1_method_17_code 16 = .ok (.ifCond .ne 6, 3) := by decide +kernel
theorem d_Bri_best_19 : decode prog_1_method_17_code 19 = .ok (.bipush (-2), 2) := by decide +kernel
theorem d_Bri_best_21 : decode prog_1_method_17_code 21 = .ok (.ireturn, 1) := by decide +kernel
theorem d_Bri_best_22 : decode prog_1_method_17_code 22 = .ok (.aload_n 0, 1) := by decide +kernel
theorem d_Bri_best_23 : decode prog_1_method_17_code 23 = .ok (.invokevirtual 143, 3) := by decide +kernel
theorem d_Bri_best_26 : decode prog_1_method_17_code 26 = .ok (.iload_n 1, 1) := by decide +kernel
theorem d_Bri_best_27 : decode prog_1_method_17_code 27 = .ok (.invokevirtual 179, 3) := by decide +kernel
theorem d_Bri_best_30 : decode prog_1_method_17_code 30 = .ok (.istore_n 3, 1) := by decide +kernel
theorem d_Bri_best_31 : decode prog_1_method_17_code 31 = .ok (.iconst 0, 1) := by decide +kernel
theorem d_Bri_best_32 : decode prog_1_method_17_code 32 = .ok (.istore 4, 2) := by decide +kernel
theorem d_Bri_best_34 : decode prog_1_method_17_code 34 = .ok (.iconst 0, 1) := by decide +kernel
theorem d_Bri_best_35 : decode prog_1_method_17_code 35 = .ok (.istore 5, 2) := by decide +kernel
theorem d_Bri_best_37 : decode prog_1_method_17_code 37 = .ok (.iload 5, 2) := by decide +kernel
theorem d_Bri_best_39 : decode prog_1_method_17_code 39 = .ok (.aload_n 0, 1) := by decide +kernel
theorem d_Bri_best_40 : decode prog_1_method_17_code 40 = .ok (.getfield 19, 3) := by decide +kernel
theorem d_Bri_best_43 : decode prog_1_method_17_code 43 = .ok (.invokevirtual 185, 3) := by decide +kernel
theorem d_Bri_best_46 : decode prog_1_method_17_code 46 = .ok (.if_icmp .ge 81, 3) := by decide +kernel
theorem d_Bri_best_49 : decode prog_1_method_17_code 49 = .ok (.iconst 1, 1) := by decide +kernel
theorem d_Bri_best_50 : decode prog_1_method_17_code 50 = .ok (.istore 6, 2) := by decide +kernel
theorem d_Bri_best_52 : decode prog_1_method_17_code 52 = .ok (.iload 6, 2) := by decide +kernel
theorem d_Bri_best_54 : decode prog_1_method_17_code 54 = .ok (.aload_n 0, 1) := by decide +kernel
theorem d_Bri_best_55 : decode prog_1_method_17_code 55 = .ok (.getfield 28, 3) := by decide +kernel
theorem d_Bri_best_58 : decode prog_1_method_17_code 58 = .ok (.getfield 104, 3) := by decide +kernel
theorem d_Bri_best_61 : decode prog_1_method_17_code 61 = .ok (.iload 5, 2) := by decide +kernel
theorem d_Bri_best_63 : decode prog_1_method_17_code 63 = .ok (.iaload, 1) := by decide +kernel
theorem d_Bri_best_64 : decode prog_1_method_17_code 64 = .ok (.if_icmp .gt 57, 3) := by decide +kernel
theorem d_Bri_best_67 : decode prog_1_method_17_code 67 = .ok (.aload_n 0, 1) := by decide +kernel
theorem d_Bri_best_68 : decode prog_1_method_17_code 68 = .ok (.invokevirtual 143, 3) := by decide +kernel
theorem d_Bri_best_71 : decode prog_1_method_17_code 71 = .ok (.astore 7, 2) := by decide +kernel
theorem d_Bri_best_73 : decode prog_1_method_17_code 73 = .ok (.aload 7, 2) := by decide +kernel
theorem d_Bri_best_75 : decode prog_1_method_17_code 75 = .ok (.iload 5, 2) := by decide +kernel
theorem d_Bri_best_77 : decode prog_1_method_17_code 77 = .ok (.iload 6, 2) := by decide +kernel
theorem d_Bri_best_79 : decode prog_1_method_17_code 79 = .ok (.invokevirtual 157, 3) := by decide +kernel
theorem d_Bri_best_82 : decode prog_1_method_17_code 82 = .ok (.ifCond .ge 6, 3) := by decide +kernel
theorem d_Bri_best_85 : decode prog_1_method_17_code 85 = .ok (.goto 30, 3) := by decide +kernel
theorem d_Bri_best_88 : decode prog_1_method_17_code 88 = .ok (.aload 7, 2) := by decide +kernel
theorem d_Bri_best_90 : decode prog_1_method_17_code 90 = .ok (.iload_n 1, 1) := by decide +kernel
theorem d_Bri_best_91 : decode prog_1_method_17_code 91 = .ok (.invokevirtual 179, 3) := by decide +kernel
theorem d_Bri_best_94 : decode prog_1_method_17_code 94 = .ok (.istore 8, 2) := by decide +kernel
theorem d_Bri_best_96 : decode prog_1_method_17_code 96 = .ok (.iload 8, 2) := by decide +kernel
theorem d_Bri_best_98 : decode prog_1_method_17_code 98 = .ok (.iload_n 3, 1) := by decide +kernel
theorem d_Bri_best_99 : decode prog_1_method_17_code 99 = .ok (.if_icmp .le 16, 3) := by decide +kernel
theorem d_Bri_best_102 : decode prog_1_method_17_code 102 = .ok (.iload 8, 2) := by decide +kernel
theorem d_Bri_best_104 : decode prog_1_method_17_code 104 = .ok (.istore_n 3, 1) := by decide +kernel
theorem d_Bri_best_105 : decode prog_1_method_17_code 105 = .ok (.bipush 10, 2) := by decide +kernel
theorem d_Bri_best_107 : decode prog_1_method_17_code 107 = .ok (.iload 5, 2) := by decide +kernel
theorem d_Bri_best_109 : decode prog_1_method_17_code 109 = .ok (.imul, 1) := by decide +kernel
theorem d_Bri_best_110 : decode prog_1_method_17_code 110 = .ok (.iload 6, 2) := by decide +kernel
theorem d_Bri_best_112 : decode prog_1_method_17_code 112 = .ok (.iadd, 1) := by decide +kernel
theorem d_Bri_best_113 : decode prog_1_method_17_code 113 = .ok (.istore 4, 2) := by decide +kernel
theorem d_Bri_best_115 : decode prog_1_method_17_code 115 = .ok (.iinc 6 1, 3) := by decide +kernel
theorem d_Bri_best_118 : decode prog_1_method_17_code 118 = .ok (.goto (-66), 3) := by decide +kernel
theorem d_Bri_best_121 : decode prog_1_method_17_code 121 = .ok (.iinc 5 1, 3) := by decide +kernel
theorem d_Bri_best_124 : decode prog_1_method_17_code 124 = .ok (.goto (-87), 3) := by decide +kernel
theorem d_Bri_best_127 : decode prog_1_method_17_code 127 = .ok (.iload_n 2, 1) := by decide +kernel
theorem d_Bri_best_128 : decode prog_1_method_17_code 128 = .ok (.ifCond .ne 7, 3) := by decide +kernel
theorem d_Bri_best_131 : decode prog_1_method_17_code 131 = .ok (.iload_n 3, 1) := by decide +kernel
theorem d_Bri_best_132 : decode prog_1_method_17_code 132 = .ok (.goto 5, 3) := by decide +kernel
theorem d_Bri_best_135 : decode prog_1_method_17_code 135 = .ok (.iload 4, 2) := by decide +kernel
theorem d_Bri_best_137 : decode prog_1_method_17_code 137 = .ok (.ireturn, 1) := by decide +kernel
theorem d_Bri_gates_0 : decode prog_1_method_18_code 0 = .ok (.iload_n 1, 1) := by decide +kernel
theorem d_Bri_gates_1 : decode prog_1_method_18_code 1 = .ok (.iconst 1, 1) := by decide +kernel
theorem d_Bri_gates_2 : decode prog_1_method_18_code 2 = .ok (.bipush 9, 2) := by decide +kernel
theorem d_Bri_gates_4 : decode prog_1_method_18_code 4 = .ok (.invokestatic 171, 3) := by decide +kernel
theorem d_Bri_gates_7 : decode prog_1_method_18_code 7 = .ok (.ifCond .eq 14, 3) := by decide +kernel
theorem d_Bri_gates_10 : decode prog_1_method_18_code 10 = .ok (.iload_n 2, 1) := by decide +kernel
theorem d_Bri_gates_11 : decode prog_1_method_18_code 11 = .ok (.iconst 0, 1) := by decide +kernel
theorem d_Bri_gates_12 : decode prog_1_method_18_code 12 = .ok (.sipush 999, 3) := by decide +kernel
theorem d_Bri_gates_15 : decode prog_1_method_18_code 15 = .ok (.invokestatic 171, 3) := by decide +kernel
theorem d_Bri_gates_18 : decode prog_1_method_18_code 18 = .ok (.ifCond .ne 6, 3) := by decide +kernel
theorem d_Bri_gates_21 : decode prog_1_method_18_code 21 = .ok (.bipush (-2), 2) := by decide +kernel
theorem d_Bri_gates_23 : decode prog_1_method_18_code 23 = .ok (.ireturn, 1) := by decide +kernel
theorem d_Bri_gates_24 : decode prog_1_method_18_code 24 = .ok (.bipush (-9), 2) := by decide +kernel
theorem d_Bri_gates_26 : decode prog_1_method_18_code 26 = .ok (.istore_n 3, 1) := by decide +kernel
theorem d_Bri_gates_27 : decode prog_1_method_18_code 27 = .ok (.iconst 0, 1) := by decide +kernel
theorem d_Bri_gates_28 : decode prog_1_method_18_code 28 = .ok (.istore 4, 2) := by decide +kernel
theorem d_Bri_gates_30 : decode prog_1_method_18_code 30 = .ok (.iload 4, 2) := by decide +kernel
theorem d_Bri_gates_32 : decode prog_1_method_18_code 32 = .ok (.iconst 1, 1) := by decide +kernel
theorem d_Bri_gates_33 : decode prog_1_method_18_code 33 = .ok (.aload_n 0, 1) := by decide +kernel
theorem d_Bri_gates_34 : decode prog_1_method_18_code 34 = .ok (.getfield 19, 3) := by decide +kernel
theorem d_Bri_gates_37 : decode prog_1_method_18_code 37 = .ok (.invokevirtual 185, 3) := by decide +kernel
theorem d_Bri_gates_40 : decode prog_1_method_18_code 40 = .ok (.ishl, 1) := by decide +kernel
theorem d_Bri_gates_41 : decode prog_1_method_18_code 41 = .ok (.if_icmp .ge 56, 3) := by decide +kernel
theorem d_Bri_gates_44 : decode prog_1_method_18_code 44 = .ok (.iload_n 3, 1) := by decide +kernel
theorem d_Bri_gates_45 : decode prog_1_method_18_code 45 = .ok (.bipush (-9), 2) := by decide +kernel
theorem d_Bri_gates_47 : decode prog_1_method_18_code 47 = .ok (.if_icmp .eq 18, 3) := by decide +kernel
theorem d_Bri_gates_50 : decode prog_1_method_18_code 50 = .ok (.iload 4, 2) := by decide +kernel
theorem d_Bri_gates_52 : decode prog_1_method_18_code 52 = .ok (.invokestatic 188, 3) := by decide +kernel
theorem d_Bri_gates_55 : decode prog_1_method_18_code 55 = .ok (.iload_n 3, 1) := by decide +kernel
theorem d_Bri_gates_56 : decode prog_1_method_18_code 56 = .ok (.invokestatic 188, 3) := by decide +kernel
theorem d_Bri_gates_59 : decode prog_1_method_18_code 59 = .ok (.if_icmp .lt 6, 3) := by decide +kernel
theorem d_Bri_gates_62 : decode prog_1_method_18_code 62 = .ok (.goto 29, 3) := by decide +kernel
theorem d_Bri_gates_65 : decode prog_1_method_18_code 65 = .ok (.aload_n 0, 1) := by decide +kernel
theorem d_Bri_gates_66 : decode prog_1_method_18_code 66 = .ok (.invokevirtual 143, 3) := by decide +kernel
theorem d_Bri_gates_69 : decode prog_1_method_18_code 69 = .ok (.astore 5, 2) := by decide +kernel
theorem d_Bri_gates_71 : decode prog_1_method_18_code 71 = .ok (.aload 5, 2) := by decide +kernel
theorem d_Bri_gates_73 : decode prog_1_method_18_code 73 = .ok (.iload 4, 2) := by decide +kernel
theorem d_Bri_gates_75 : decode prog_1_method_18_code 75 = .ok (.putfield 98, 3) := by decide +kernel
theorem d_Bri_gates_78 : decode prog_1_method_18_code 78 = .ok (.aload 5, 2) := by decide +kernel
theorem d_Bri_gates_80 : decode prog_1_method_18_code 80 = .ok (.iload_n 1, 1) := by decide +kernel
theorem d_Bri_gates_81 : decode prog_1_method_18_code 81 = .ok (.invokevirtual 179, 3) := by decide +kernel
theorem d_Bri_gates_84 : decode prog_1_method_18_code 84 = .ok (.iload_n 2, 1) := by decide +kernel
theorem d_Bri_gates_85 : decode prog_1_method_18_code 85 = .ok (.if_icmp .lt 6, 3) := by decide +kernel
theorem d_Bri_gates_88 : decode prog_1_method_18_code 88 = .ok (.iload 4, 2) := by decide +kernel
theorem d_Bri_gates_90 : decode prog_1_method_18_code 90 = .ok (.istore_n 3, 1) := by decide +kernel
theorem d_Bri_gates_91 : decode prog_1_method_18_code 91 = .ok (.iinc 4 1, 3) := by decide +kernel
theorem d_Bri_gates_94 : decode prog_1_method_18_code 94 = .ok (.goto (-64), 3) := by decide +kernel
theorem d_Bri_gates_97 : decode prog_1_method_18_code 97 = .ok (.iload_n 3, 1) := by decide +kernel
theorem d_Bri_gates_98 : decode prog_1_method_18_code 98 = .ok (.ireturn, 1) := by decide +kernel
theorem d_Bri_judge_0 : decode prog_1_method_19_code 0 = .ok (.iload_n 1, 1) := by decide +kernel
theorem d_Bri_judge_1 : decode prog_1_method_19_code 1 = .ok (.iconst 1, 1) := by decide +kernel
theorem d_Bri_judge_2 : decode prog_1_method_19_code 2 = .ok (.getstatic 193, 3) := by decide +kernel
theorem d_Bri_judge_5 : decode prog_1_method_19_code 5 = .ok (.arraylength, 1) := by decide +kernel
theorem d_Bri_judge_6 : decode prog_1_method_19_code 6 = .ok (.invokestatic 171, 3) := by decide +kernel
theorem d_Bri_judge_9 : decode prog_1_method_19_code 9 = .ok (.ifCond .ne 6, 3) := by decide +kernel
theorem d_Bri_judge_12 : decode prog_1_method_19_code 12 = .ok (.bipush (-2), 2) := by decide +kernel
theorem d_Bri_judge_14 : decode prog_1_method_19_code 14 = .ok (.ireturn, 1) := by decide +kernel
theorem d_Bri_judge_15 : decode prog_1_method_19_code 15 = .ok (.lload_n 2, 1) := by decide +kernel
theorem d_Bri_judge_16 : decode prog_1_method_19_code 16 = .ok (.lconst 0, 1) := by decide +kernel
theorem d_Bri_judge_17 : decode prog_1_method_19_code 17 = .ok (.lcmp, 1) := by decide +kernel
theorem d_Bri_judge_18 : decode prog_1_method_19_code 18 = .ok (.ifCond .lt 19, 3) := by decide +kernel
theorem d_Bri_judge_21 : decode prog_1_method_19_code 21 = .ok (.lload_n 2, 1) := by decide +kernel
theorem d_Bri_judge_22 : decode prog_1_method_19_code 22 = .ok (.getstatic 193, 3) := by decide +kernel
theorem d_Bri_judge_25 : decode prog_1_method_19_code 25 = .ok (.iload_n 1, 1) := by decide +kernel
theorem d_Bri_judge_26 : decode prog_1_method_19_code 26 = .ok (.iconst 1, 1) := by decide +kernel
theorem d_Bri_judge_27 : decode prog_1_method_19_code 27 = .ok (.isub, 1) := by decide +kernel
theorem d_Bri_judge_28 : decode prog_1_method_19_code 28 = .ok (.laload, 1) := by decide +kernel
theorem d_Bri_judge_29 : decode prog_1_method_19_code 29 = .ok (.ldiv, 1) := by decide +kernel
theorem d_Bri_judge_30 : decode prog_1_method_19_code 30 = .ok (.ldc2_w 197, 3) := by decide +kernel
theorem d_Bri_judge_33 : decode prog_1_method_19_code 33 = .ok (.lcmp, 1) := by decide +kernel
theorem d_Bri_judge_34 : decode prog_1_method_19_code 34 = .ok (.ifCond .le 6, 3) := by decide +kernel
theorem d_Bri_judge_37 : decode prog_1_method_19_code 37 = .ok (.bipush (-2), 2) := by decide +kernel
theorem d_Bri_judge_39 : decode prog_1_method_19_code 39 = .ok (.ireturn, 1) := by decide +kernel
theorem d_Bri_judge_40 : decode prog_1_method_19_code 40 = .ok (.aload_n 0, 1) := by decide +kernel
theorem d_Bri_judge_41 : decode prog_1_method_19_code 41 = .ok (.invokevirtual 143, 3) := by decide +kernel
theorem d_Bri_judge_44 : decode prog_1_method_19_code 44 = .ok (.astore 4, 2) := by decide +kernel
theorem d_Bri_judge_46 : decode prog_1_method_19_code 46 = .ok (.iconst 0, 1) := by decide +kernel
theorem d_Bri_judge_47 : decode prog_1_method_19_code 47 = .ok (.istore 5, 2) := by decide +kernel
theorem d_Bri_judge_49 : decode prog_1_method_19_code 49 = .ok (.iload 5, 2) := by decide +kernel
theorem d_Bri_judge_51 : decode prog_1_method_19_code 51 = .ok (.iload_n 1, 1) := by decide +kernel
theorem d_Bri_judge_52 : decode prog_1_method_19_code 52 = .ok (.if_icmp .ge 57, 3) := by decide +kernel
theorem d_Bri_judge_55 : decode prog_1_method_19_code 55 = .ok (.lload_n 2, 1) := by decide +kernel
theorem d_Bri_judge_56 : decode prog_1_method_19_code 56 = .ok (.getstatic 193, 3) := by decide +kernel
theorem d_Bri_judge_59 : decode prog_1_method_19_code 59 = .ok (.iload_n 1, 1) := by decide +kernel
theorem d_Bri_judge_60 : decode prog_1_method_19_code 60 = .ok (.iconst 1, 1) := by decide +kernel
theorem d_Bri_judge_61 : decode prog_1_method_19_code 61 = .ok (.isub, 1) := by decide +kernel
theorem d_Bri_judge_62 : decode prog_1_method_19_code 62 = .ok (.iload 5, 2) := by decide +kernel
theorem d_Bri_judge_64 : decode prog_1_method_19_code 64 = .ok (.isub, 1) := by decide +kernel
theorem d_Bri_judge_65 : decode prog_1_method_19_code 65 = .ok (.laload, 1) := by decide +kernel
theorem d_Bri_judge_66 : decode prog_1_method_19_code 66 = .ok (.ldiv, 1) := by decide +kernel
theorem d_Bri_judge_67 : decode prog_1_method_19_code 67 = .ok (.ldc2_w 199, 3) := by decide +kernel
theorem d_Bri_judge_70 : decode prog_1_method_19_code 70 = .ok (.lrem, 1) := by decide +kernel
theorem d_Bri_judge_71 : decode prog_1_method_19_code 71 = .ok (.l2i, 1) := by decide +kernel
theorem d_Bri_judge_72 : decode prog_1_method_19_code 72 = .ok (.istore 6, 2) := by decide +kernel
theorem d_Bri_judge_74 : decode prog_1_method_19_code 74 = .ok (.aload 4, 2) := by decide +kernel
theorem d_Bri_judge_76 : decode prog_1_method_19_code 76 = .ok (.iload 6, 2) := by decide +kernel
theorem d_Bri_judge_78 : decode prog_1_method_19_code 78 = .ok (.bipush 100, 2) := by decide +kernel
theorem d_Bri_judge_80 : decode prog_1_method_19_code 80 = .ok (.idiv, 1) := by decide +kernel
theorem d_Bri_judge_81 : decode prog_1_method_19_code 81 = .ok (.iload 6, 2) := by decide +kernel
theorem d_Bri_judge_83 : decode prog_1_method_19_code 83 = .ok (.bipush 10, 2) := by decide +kernel
theorem d_Bri_judge_85 : decode prog_1_method_19_code 85 = .ok (.idiv, 1) := by decide +kernel
theorem d_Bri_judge_86 : decode prog_1_method_19_code 86 = .ok (.bipush 10, 2) := by decide +kernel
theorem d_Bri_judge_88 : decode prog_1_method_19_code 88 = .ok (.irem, 1) := by decide +kernel
theorem d_Bri_judge_89 : decode prog_1_method_19_code 89 = .ok (.iload 6, 2) := by decide +kernel
theorem d_Bri_judge_91 : decode prog_1_method_19_code 91 = .ok (.bipush 10, 2) := by decide +kernel
theorem d_Bri_judge_93 : decode prog_1_method_19_code 93 = .ok (.irem, 1) := by decide +kernel
theorem d_Bri_judge_94 : decode prog_1_method_19_code 94 = .ok (.invokevirtual 201, 3) := by decide +kernel
theorem d_Bri_judge_97 : decode prog_1_method_19_code 97 = .ok (.ifCond .ne 6, 3) := by decide +kernel
theorem d_Bri_judge_100 : decode prog_1_method_19_code 100 = .ok (.iload 5, 2) := by decide +kernel
theorem d_Bri_judge_102 : decode prog_1_method_19_code 102 = .ok (.ireturn, 1) := by decide +kernel
theorem d_Bri_judge_103 : decode prog_1_method_19_code 103 = .ok (.iinc 5 1, 3) := by decide +kernel
theorem d_Bri_judge_106 : decode prog_1_method_19_code 106 = .ok (.goto (-57), 3) := by decide +kernel
theorem d_Bri_judge_109 : decode prog_1_method_19_code 109 = .ok (.bipush (-9), 2) := by decide +kernel
theorem d_Bri_judge_111 : decode prog_1_method_19_code 111 = .ok (.ireturn, 1) := by decide +kernel
theorem d_Bri_orders_0 : decode prog_1_method_34_code 0 = .ok (.iload_n 0, 1) := by decide +kernel
theorem d_Bri_orders_1 : decode prog_1_method_34_code 1 = .ok (.iconst 0, 1) := by decide +kernel
theorem d_Bri_orders_2 : decode prog_1_method_34_code 2 = .ok (.bipush 6, 2) := by decide +kernel
theorem d_Bri_orders_4 : decode prog_1_method_34_code 4 = .ok (.invokestatic 171, 3) := by decide +kernel
theorem d_Bri_orders_7 : decode prog_1_method_34_code 7 = .ok (.ifCond .eq 13, 3) := by decide +kernel
theorem d_Bri_orders_10 : decode prog_1_method_34_code 10 = .ok (.iload_n 1, 1) := by decide +kernel
theorem d_Bri_orders_11 : decode prog_1_method_34_code 11 = .ok (.iconst 0, 1) := by decide +kernel
theorem d_Bri_orders_12 : decode prog_1_method_34_code 12 = .ok (.bipush 6, 2) := by decide +kernel
theorem d_Bri_orders_14 : decode prog_1_method_34_code 14 = .ok (.invokestatic 171, 3) := by decide +kernel
theorem d_Bri_orders_17 : decode prog_1_method_34_code 17 = .ok (.ifCond .ne 5, 3) := by decide +kernel
theorem d_Bri_orders_20 : decode prog_1_method_34_code 20 = .ok (.iconst 0, 1) := by decide +kernel
theorem d_Bri_orders_21 : decode prog_1_method_34_code 21 = .ok (.ireturn, 1) := by decide +kernel
theorem d_Bri_orders_22 : decode prog_1_method_34_code 22 = .ok (.getstatic 251, 3) := by decide +kernel
theorem d_Bri_orders_25 : decode prog_1_method_34_code 25 = .ok (.iload_n 0, 1) := by decide +kernel
theorem d_Bri_orders_26 : decode prog_1_method_34_code 26 = .ok (.iaload, 1) := by decide +kernel
theorem d_Bri_orders_27 : decode prog_1_method_34_code 27 = .ok (.getstatic 251, 3) := by decide +kernel
theorem d_Bri_orders_30 : decode prog_1_method_34_code 30 = .ok (.iload_n 1, 1) := by decide +kernel
theorem d_Bri_orders_31 : decode prog_1_method_34_code 31 = .ok (.iaload, 1) := by decide +kernel
theorem d_Bri_orders_32 : decode prog_1_method_34_code 32 = .ok (.imul, 1) := by decide +kernel
theorem d_Bri_orders_33 : decode prog_1_method_34_code 33 = .ok (.ireturn, 1) := by decide +kernel
theorem d_Bri_commonMeasure_0 : decode prog_1_method_37_code 0 = .ok (.iconst 0, 1) := by decide +kernel
theorem d_Bri_commonMeasure_1 : decode prog_1_method_37_code 1 = .ok (.istore_n 2, 1) := by decide +kernel
theorem d_Bri_commonMeasure_2 : decode prog_1_method_37_code 2 = .ok (.iload_n 2, 1) := by decide +kernel
theorem d_Bri_commonMeasure_3 : decode prog_1_method_37_code 3 = .ok (.bipush 64, 2) := by decide +kernel
theorem d_Bri_commonMeasure_5 : decode prog_1_method_37_code 5 = .ok (.if_icmp .ge 21, 3) := by decide +kernel
theorem d_Bri_commonMeasure_8 : decode prog_1_method_37_code 8 = .ok (.iload_n 1, 1) := by decide +kernel
theorem d_Bri_commonMeasure_9 : decode prog_1_method_37_code 9 = .ok (.ifCond .eq 17, 3) := by decide +kernel
theorem d_Bri_commonMeasure_12 : decode prog_1_method_37_code 12 = .ok (.iload_n 0, 1) := by decide +kernel
theorem d_Bri_commonMeasure_13 : decode prog_1_method_37_code 13 = .ok (.iload_n 1, 1) := by decide +kernel
theorem d_Bri_commonMeasure_14 : decode prog_1_method_37_code 14 = .ok (.irem, 1) := by decide +kernel
theorem d_Bri_commonMeasure_15 : decode prog_1_method_37_code 15 = .ok (.istore_n 3, 1) := by decide +kernel
theorem d_Bri_commonMeasure_16 : decode prog_1_method_37_code 16 = .ok (.iload_n 1, 1) := by decide +kernel
theorem d_Bri_commonMeasure_17 : decode prog_1_method_37_code 17 = .ok (.istore_n 0, 1) := by decide +kernel
theorem d_Bri_commonMeasure_18 : decode prog_1_method_37_code 18 = .ok (.iload_n 3, 1) := by decide +kernel
theorem d_Bri_commonMeasure_19 : decode prog_1_method_37_code 19 = .ok (.istore_n 1, 1) := by decide +kernel
theorem d_Bri_commonMeasure_20 : decode prog_1_method_37_code 20 = .ok (.iinc 2 1, 3) := by decide +kernel
theorem d_Bri_commonMeasure_23 : decode prog_1_method_37_code 23 = .ok (.goto (-21), 3) := by decide +kernel
theorem d_Bri_commonMeasure_26 : decode prog_1_method_37_code 26 = .ok (.iload_n 0, 1) := by decide +kernel
theorem d_Bri_commonMeasure_27 : decode prog_1_method_37_code 27 = .ok (.ireturn, 1) := by decide +kernel
theorem d_Bri_told_0 : decode prog_1_method_36_code 0 = .ok (.iload_n 0, 1) := by decide +kernel
theorem d_Bri_told_1 : decode prog_1_method_36_code 1 = .ok (.invokestatic 254, 3) := by decide +kernel
theorem d_Bri_told_4 : decode prog_1_method_36_code 4 = .ok (.iload_n 1, 1) := by decide +kernel
theorem d_Bri_told_5 : decode prog_1_method_36_code 5 = .ok (.invokestatic 259, 3) := by decide +kernel
theorem d_Bri_told_8 : decode prog_1_method_36_code 8 = .ok (.istore_n 3, 1) := by decide +kernel
theorem d_Bri_told_9 : decode prog_1_method_36_code 9 = .ok (.iload_n 3, 1) := by decide +kernel
theorem d_Bri_told_10 : decode prog_1_method_36_code 10 = .ok (.iconst 1, 1) := by decide +kernel
theorem d_Bri_told_11 : decode prog_1_method_36_code 11 = .ok (.if_icmp .ge 6, 3) := by decide +kernel
theorem d_Bri_told_14 : decode prog_1_method_36_code 14 = .ok (.bipush (-9), 2) := by decide +kernel
theorem d_Bri_told_16 : decode prog_1_method_36_code 16 = .ok (.ireturn, 1) := by decide +kernel
theorem d_Bri_told_17 : decode prog_1_method_36_code 17 = .ok (.iload_n 2, 1) := by decide +kernel
theorem d_Bri_told_18 : decode prog_1_method_36_code 18 = .ok (.ifCond .eq 7, 3) := by decide +kernel
theorem d_Bri_told_21 : decode prog_1_method_36_code 21 = .ok (.iload_n 0, 1) := by decide +kernel
theorem d_Bri_told_22 : decode prog_1_method_36_code 22 = .ok (.goto 4, 3) := by decide +kernel
theorem d_Bri_told_25 : decode prog_1_method_36_code 25 = .ok (.iload_n 1, 1) := by decide +kernel
theorem d_Bri_told_26 : decode prog_1_method_36_code 26 = .ok (.iload_n 3, 1) := by decide +kernel
theorem d_Bri_told_27 : decode prog_1_method_36_code 27 = .ok (.idiv, 1) := by decide +kernel
theorem d_Bri_told_28 : decode prog_1_method_36_code 28 = .ok (.ireturn, 1) := by decide +kernel
theorem d_Bri_share_0 : decode prog_1_method_20_code 0 = .ok (.aload_n 0, 1) := by decide +kernel
theorem d_Bri_share_1 : decode prog_1_method_20_code 1 = .ok (.getfield 19, 3) := by decide +kernel
theorem d_Bri_share_4 : decode prog_1_method_20_code 4 = .ok (.iload_n 1, 1) := by decide +kernel
theorem d_Bri_share_5 : decode prog_1_method_20_code 5 = .ok (.invokevirtual 127, 3) := by decide +kernel
theorem d_Bri_share_8 : decode prog_1_method_20_code 8 = .ok (.ifCond .ne 5, 3) := by decide +kernel
theorem d_Bri_share_11 : decode prog_1_method_20_code 11 = .ok (.iconst (-1), 1) := by decide +kernel
theorem d_Bri_share_12 : decode prog_1_method_20_code 12 = .ok (.ireturn, 1) := by decide +kernel
theorem d_Bri_share_13 : decode prog_1_method_20_code 13 = .ok (.iconst 1, 1) := by decide +kernel
theorem d_Bri_share_14 : decode prog_1_method_20_code 14 = .ok (.aload_n 0, 1) := by decide +kernel
theorem d_Bri_share_15 : decode prog_1_method_20_code 15 = .ok (.getfield 19, 3) := by decide +kernel
theorem d_Bri_share_18 : decode prog_1_method_20_code 18 = .ok (.getfield 85, 3) := by decide +kernel
theorem d_Bri_share_21 : decode prog_1_method_20_code 21 = .ok (.ishl, 1) := by decide +kernel
theorem d_Bri_share_22 : decode prog_1_method_20_code 22 = .ok (.istore_n 3, 1) := by decide +kernel
theorem d_Bri_share_23 : decode prog_1_method_20_code 23 = .ok (.iconst 0, 1) := by decide +kernel
theorem d_Bri_share_24 : decode prog_1_method_20_code 24 = .ok (.istore 4, 2) := by decide +kernel
theorem d_Bri_share_26 : decode prog_1_method_20_code 26 = .ok (.iload 4, 2) := by decide +kernel
theorem d_Bri_share_28 : decode prog_1_method_20_code 28 = .ok (.iload_n 3, 1) := by decide +kernel
theorem d_Bri_share_29 : decode prog_1_method_20_code 29 = .ok (.if_icmp .ge 35, 3) := by decide +kernel
theorem d_Bri_share_32 : decode prog_1_method_20_code 32 = .ok (.aload_n 0, 1) := by decide +kernel
theorem d_Bri_share_33 : decode prog_1_method_20_code 33 = .ok (.invokevirtual 143, 3) := by decide +kernel
theorem d_Bri_share_36 : decode prog_1_method_20_code 36 = .ok (.astore 5, 2) := by decide +kernel
theorem d_Bri_share_38 : decode prog_1_method_20_code 38 = .ok (.aload 5, 2) := by decide +kernel
theorem d_Bri_share_40 : decode prog_1_method_20_code 40 = .ok (.iload 4, 2) := by decide +kernel
theorem d_Bri_share_42 : decode prog_1_method_20_code 42 = .ok (.invokevirtual 204, 3) := by decide +kernel
theorem d_Bri_share_45 : decode prog_1_method_20_code 45 = .ok (.aload_n 0, 1) := by decide +kernel
theorem d_Bri_share_46 : decode prog_1_method_20_code 46 = .ok (.getfield 57, 3) := by decide +kernel
theorem d_Bri_share_49 : decode prog_1_method_20_code 49 = .ok (.iload 4, 2) := by decide +kernel
theorem d_Bri_share_51 : decode prog_1_method_20_code 51 = .ok (.aload 5, 2) := by decide +kernel
theorem d_Bri_share_53 : decode prog_1_method_20_code 53 = .ok (.iconst 4, 1) := by decide +kernel
theorem d_Bri_share_54 : decode prog_1_method_20_code 54 = .ok (.invokevirtual 179, 3) := by decide +kernel
theorem d_Bri_share_57 : decode prog_1_method_20_code 57 = .ok (.iastore, 1) := by decide +kernel
theorem d_Bri_share_58 : decode prog_1_method_20_code 58 = .ok (.iinc 4 1, 3) := by decide +kernel
theorem d_Bri_share_61 : decode prog_1_method_20_code 61 = .ok (.goto (-35), 3) := by decide +kernel
theorem d_Bri_share_64 : decode prog_1_method_20_code 64 = .ok (.iconst 0, 1) := by decide +kernel
theorem d_Bri_share_65 : decode prog_1_method_20_code 65 = .ok (.istore 4, 2) := by decide +kernel
theorem d_Bri_share_67 : decode prog_1_method_20_code 67 = .ok (.iconst 0, 1) := by decide +kernel
theorem d_Bri_share_68 : decode prog_1_method_20_code 68 = .ok (.istore 5, 2) := by decide +kernel
theorem d_Bri_share_70 : decode prog_1_method_20_code 70 = .ok (.iload 5, 2) := by decide +kernel
theorem d_Bri_share_72 : decode prog_1_method_20_code 72 = .ok (.iload_n 3, 1) := by decide +kernel
theorem d_Bri_share_73 : decode prog_1_method_20_code 73 = .ok (.if_icmp .ge 67, 3) := by decide +kernel
theorem d_Bri_share_76 : decode prog_1_method_20_code 76 = .ok (.iload 5, 2) := by decide +kernel
theorem d_Bri_share_78 : decode prog_1_method_20_code 78 = .ok (.iload_n 1, 1) := by decide +kernel
theorem d_Bri_share_79 : decode prog_1_method_20_code 79 = .ok (.ishr, 1) := by decide +kernel
theorem d_Bri_share_80 : decode prog_1_method_20_code 80 = .ok (.iconst 1, 1) := by decide +kernel
theorem d_Bri_share_81 : decode prog_1_method_20_code 81 = .ok (.iand, 1) := by decide +kernel
theorem d_Bri_share_82 : decode prog_1_method_20_code 82 = .ok (.ifCond .ne 52, 3) := by decide +kernel
theorem d_Bri_share_85 : decode prog_1_method_20_code 85 = .ok (.iload 5, 2) := by decide +kernel
theorem d_Bri_share_87 : decode prog_1_method_20_code 87 = .ok (.invokestatic 188, 3) := by decide +kernel
theorem d_Bri_share_90 : decode prog_1_method_20_code 90 = .ok (.istore 6, 2) := by decide +kernel
theorem d_Bri_share_92 : decode prog_1_method_20_code 92 = .ok (.iload 4, 2) := by decide +kernel
theorem d_Bri_share_94 : decode prog_1_method_20_code 94 = .ok (.iload 6, 2) := by decide +kernel
theorem d_Bri_share_96 : decode prog_1_method_20_code 96 = .ok (.aload_n 0, 1) := by decide +kernel
theorem d_Bri_share_97 : decode prog_1_method_20_code 97 = .ok (.getfield 19, 3) := by decide +kernel
theorem d_Bri_share_100 : decode prog_1_method_20_code 100 = .ok (.getfield 85, 3) := by decide +kernel
theorem d_Bri_share_103 : decode prog_1_method_20_code 103 = .ok (.iconst 1, 1) := by decide +kernel
theorem d_Bri_share_104 : decode prog_1_method_20_code 104 = .ok (.isub, 1) := by decide +kernel
theorem d_Bri_share_105 : decode prog_1_method_20_code 105 = .ok (.iload 6, 2) := by decide +kernel
theorem d_Bri_share_107 : decode prog_1_method_20_code 107 = .ok (.isub, 1) := by decide +kernel
theorem d_Bri_share_108 : decode prog_1_method_20_code 108 = .ok (.invokestatic 207, 3) := by decide +kernel
theorem d_Bri_share_111 : decode prog_1_method_20_code 111 = .ok (.aload_n 0, 1) := by decide +kernel
theorem d_Bri_share_112 : decode prog_1_method_20_code 112 = .ok (.getfield 57, 3) := by decide +kernel
theorem d_Bri_share_115 : decode prog_1_method_20_code 115 = .ok (.iload 5, 2) := by decide +kernel
theorem d_Bri_share_117 : decode prog_1_method_20_code 117 = .ok (.iconst 1, 1) := by decide +kernel
theorem d_Bri_share_118 : decode prog_1_method_20_code 118 = .ok (.iload_n 1, 1) := by decide +kernel
theorem d_Bri_share_119 : decode prog_1_method_20_code 119 = .ok (.ishl, 1) := by decide +kernel
theorem d_Bri_share_120 : decode prog_1_method_20_code 120 = .ok (.ior, 1) := by decide +kernel
theorem d_Bri_share_121 : decode prog_1_method_20_code 121 = .ok (.iaload, 1) := by decide +kernel
theorem d_Bri_share_122 : decode prog_1_method_20_code 122 = .ok (.aload_n 0, 1) := by decide +kernel
theorem d_Bri_share_123 : decode prog_1_method_20_code 123 = .ok (.getfield 57, 3) := by decide +kernel
theorem d_Bri_share_126 : decode prog_1_method_20_code 126 = .ok (.iload 5, 2) := by decide +kernel
theorem d_Bri_share_128 : decode prog_1_method_20_code 128 = .ok (.iaload, 1) := by decide +kernel
theorem d_Bri_share_129 : decode prog_1_method_20_code 129 = .ok (.isub, 1) := by decide +kernel
theorem d_Bri_share_130 : decode prog_1_method_20_code 130 = .ok (.imul, 1) := by decide +kernel
theorem d_Bri_share_131 : decode prog_1_method_20_code 131 = .ok (.iadd, 1) := by decide +kernel
theorem d_Bri_share_132 : decode prog_1_method_20_code 132 = .ok (.istore 4, 2) := by decide +kernel
theorem d_Bri_share_134 : decode prog_1_method_20_code 134 = .ok (.iinc 5 1, 3) := by decide +kernel
theorem d_Bri_share_137 : decode prog_1_method_20_code 137 = .ok (.goto (-67), 3) := by decide +kernel
theorem d_Bri_share_140 : decode prog_1_method_20_code 140 = .ok (.iload 4, 2) := by decide +kernel
theorem d_Bri_share_142 : decode prog_1_method_20_code 142 = .ok (.aload_n 0, 1) := by decide +kernel
theorem d_Bri_share_143 : decode prog_1_method_20_code 143 = .ok (.getfield 19, 3) := by decide +kernel
theorem d_Bri_share_146 : decode prog_1_method_20_code 146 = .ok (.getfield 85, 3) := by decide +kernel
theorem d_Bri_share_149 : decode prog_1_method_20_code 149 = .ok (.iconst 0, 1) := by decide +kernel
theorem d_Bri_share_150 : decode prog_1_method_20_code 150 = .ok (.invokestatic 207, 3) := by decide +kernel
theorem d_Bri_share_153 : decode prog_1_method_20_code 153 = .ok (.iload_n 2, 1) := by decide +kernel
theorem d_Bri_share_154 : decode prog_1_method_20_code 154 = .ok (.invokestatic 210, 3) := by decide +kernel
theorem d_Bri_share_157 : decode prog_1_method_20_code 157 = .ok (.ireturn, 1) := by decide +kernel
theorem d_Bri_find_0 : decode prog_1_method_21_code 0 = .ok (.iload_n 1, 1) := by decide +kernel
theorem d_Bri_find_1 : decode prog_1_method_21_code 1 = .ok (.iconst 0, 1) := by decide +kernel
theorem d_Bri_find_2 : decode prog_1_method_21_code 2 = .ok (.bipush 9, 2) := by decide +kernel
theorem d_Bri_find_4 : decode prog_1_method_21_code 4 = .ok (.invokestatic 171, 3) := by decide +kernel
theorem d_Bri_find_7 : decode prog_1_method_21_code 7 = .ok (.ifCond .eq 22, 3) := by decide +kernel
theorem d_Bri_find_10 : decode prog_1_method_21_code 10 = .ok (.iload_n 2, 1) := by decide +kernel
theorem d_Bri_find_11 : decode prog_1_method_21_code 11 = .ok (.iconst 0, 1) := by decide +kernel
theorem d_Bri_find_12 : decode prog_1_method_21_code 12 = .ok (.bipush 99, 2) := by decide +kernel
theorem d_Bri_find_14 : decode prog_1_method_21_code 14 = .ok (.invokestatic 171, 3) := by decide +kernel
theorem d_Bri_find_17 : decode prog_1_method_21_code 17 = .ok (.ifCond .eq 12, 3) := by decide +kernel
theorem d_Bri_find_20 : decode prog_1_method_21_code 20 = .ok (.iload_n 3, 1) := by decide +kernel
theorem d_Bri_find_21 : decode prog_1_method_21_code 21 = .ok (.iconst 0, 1) := by decide +kernel
theorem d_Bri_find_22 : decode prog_1_method_21_code 22 = .ok (.iconst 1, 1) := by decide +kernel
theorem d_Bri_find_23 : decode prog_1_method_21_code 23 = .ok (.invokestatic 171, 3) := by decide +kernel
theorem d_Bri_find_26 : decode prog_1_method_21_code 26 = .ok (.ifCond .ne 6, 3) := by decide +kernel
theorem d_Bri_find_29 : decode prog_1_method_21_code 29 = .ok (.bipush (-2), 2) := by decide +kernel
theorem d_Bri_find_31 : decode prog_1_method_21_code 31 = .ok (.ireturn, 1) := by decide +kernel
theorem d_Bri_find_32 : decode prog_1_method_21_code 32 = .ok (.aload_n 0, 1) := by decide +kernel
theorem d_Bri_find_33 : decode prog_1_method_21_code 33 = .ok (.getfield 45, 3) := by decide +kernel
theorem d_Bri_find_36 : decode prog_1_method_21_code 36 = .ok (.iload_n 1, 1) := by decide +kernel
theorem d_Bri_find_37 : decode prog_1_method_21_code 37 = .ok (.iload_n 2, 1) := by decide +kernel
theorem d_Bri_find_38 : decode prog_1_method_21_code 38 = .ok (.iload_n 3, 1) := by decide +kernel
theorem d_Bri_find_39 : decode prog_1_method_21_code 39 = .ok (.invokevirtual 214, 3) := by decide +kernel
theorem d_Bri_find_42 : decode prog_1_method_21_code 42 = .ok (.ireturn, 1) := by decide +kernel
theorem d_Bri_forget_0 : decode prog_1_method_22_code 0 = .ok (.aload_n 0, 1) := by decide +kernel
theorem d_Bri_forget_1 : decode prog_1_method_22_code 1 = .ok (.getfield 45, 3) := by decide +kernel
theorem d_Bri_forget_4 : decode prog_1_method_22_code 4 = .ok (.invokevirtual 218, 3) := by decide +kernel
theorem d_Bri_forget_7 : decode prog_1_method_22_code 7 = .ok (.ireturn, 1) := by decide +kernel
theorem d_Bri_salts_0 : decode prog_1_method_23_code 0 = .ok (.iload_n 1, 1) := by decide +kernel
theorem d_Bri_salts_1 : decode prog_1_method_23_code 1 = .ok (.iconst 0, 1) := by decide +kernel
theorem d_Bri_salts_2 : decode prog_1_method_23_code 2 = .ok (.iconst 1, 1) := by decide +kernel
theorem d_Bri_salts_3 : decode prog_1_method_23_code 3 = .ok (.invokestatic 171, 3) := by decide +kernel
theorem d_Bri_salts_6 : decode prog_1_method_23_code 6 = .ok (.ifCond .ne 6, 3) := by decide +kernel
theorem d_Bri_salts_9 : decode prog_1_method_23_code 9 = .ok (.bipush (-2), 2) := by decide +kernel
theorem d_Bri_salts_11 : decode prog_1_method_23_code 11 = .ok (.ireturn, 1) := by decide +kernel
theorem d_Bri_salts_12 : decode prog_1_method_23_code 12 = .ok (.iconst 0, 1) := by decide +kernel
theorem d_Bri_salts_13 : decode prog_1_method_23_code 13 = .ok (.istore_n 2, 1) := by decide +kernel
theorem d_Bri_salts_14 : decode prog_1_method_23_code 14 = .ok (.bipush (-9), 2) := by decide +kernel
theorem d_Bri_salts_16 : decode prog_1_method_23_code 16 = .ok (.istore_n 3, 1) := by decide +kernel
theorem d_Bri_salts_17 : decode prog_1_method_23_code 17 = .ok (.iconst 0, 1) := by decide +kernel
theorem d_Bri_salts_18 : decode prog_1_method_23_code 18 = .ok (.istore 4, 2) := by decide +kernel
theorem d_Bri_salts_20 : decode prog_1_method_23_code 20 = .ok (.iload 4, 2) := by decide +kernel
theorem d_Bri_salts_22 : decode prog_1_method_23_code 22 = .ok (.bipush 100, 2) := by decide +kernel
theorem d_Bri_salts_24 : decode prog_1_method_23_code 24 = .ok (.if_icmp .ge 33, 3) := by decide +kernel
theorem d_Bri_salts_27 : decode prog_1_method_23_code 27 = .ok (.aload_n 0, 1) := by decide +kernel
theorem d_Bri_salts_28 : decode prog_1_method_23_code 28 = .ok (.getfield 45, 3) := by decide +kernel
theorem d_Bri_salts_31 : decode prog_1_method_23_code 31 = .ok (.iload 4, 2) := by decide +kernel
theorem d_Bri_salts_33 : decode prog_1_method_23_code 33 = .ok (.invokevirtual 219, 3) := by decide +kernel
theorem d_Bri_salts_36 : decode prog_1_method_23_code 36 = .ok (.ifCond .eq 15, 3) := by decide +kernel
theorem d_Bri_salts_39 : decode prog_1_method_23_code 39 = .ok (.iinc 2 1, 3) := by decide +kernel
theorem d_Bri_salts_42 : decode prog_1_method_23_code 42 = .ok (.iload_n 3, 1) := by decide +kernel
theorem d_Bri_salts_43 : decode prog_1_method_23_code 43 = .ok (.bipush (-9), 2) := by decide +kernel
theorem d_Bri_salts_45 : decode prog_1_method_23_code 45 = .ok (.if_icmp .ne 6, 3) := by decide +kernel
theorem d_Bri_salts_48 : decode prog_1_method_23_code 48 = .ok (.iload 4, 2) := by decide +kernel
theorem d_Bri_salts_50 : decode prog_1_method_23_code 50 = .ok (.istore_n 3, 1) := by decide +kernel
theorem d_Bri_salts_51 : decode prog_1_method_23_code 51 = .ok (.iinc 4 1, 3) := by decide +kernel
theorem d_Bri_salts_54 : decode prog_1_method_23_code 54 = .ok (.goto (-34), 3) := by decide +kernel
theorem d_Bri_salts_57 : decode prog_1_method_23_code 57 = .ok (.iload_n 1, 1) := by decide +kernel
theorem d_Bri_salts_58 : decode prog_1_method_23_code 58 = .ok (.ifCond .ne 7, 3) := by decide +kernel
theorem d_Bri_salts_61 : decode prog_1_method_23_code 61 = .ok (.iload_n 2, 1) := by decide +kernel
theorem d_Bri_salts_62 : decode prog_1_method_23_code 62 = .ok (.goto 4, 3) := by decide +kernel
theorem d_Bri_salts_65 : decode prog_1_method_23_code 65 = .ok (.iload_n 3, 1) := by decide +kernel
theorem d_Bri_salts_66 : decode prog_1_method_23_code 66 = .ok (.ireturn, 1) := by decide +kernel
theorem d_Bri_isAtRest_0 : decode prog_1_method_33_code 0 = .ok (.aload_n 0, 1) := by decide +kernel
theorem d_Bri_isAtRest_1 : decode prog_1_method_33_code 1 = .ok (.getfield 61, 3) := by decide +kernel
theorem d_Bri_isAtRest_4 : decode prog_1_method_33_code 4 = .ok (.iconst 2, 1) := by decide +kernel
theorem d_Bri_isAtRest_5 : decode prog_1_method_33_code 5 = .ok (.iload_n 1, 1) := by decide +kernel
theorem d_Bri_isAtRest_6 : decode prog_1_method_33_code 6 = .ok (.iconst 2, 1) := by decide +kernel
theorem d_Bri_isAtRest_7 : decode prog_1_method_33_code 7 = .ok (.ixor, 1) := by decide +kernel
theorem d_Bri_isAtRest_8 : decode prog_1_method_33_code 8 = .ok (.imul, 1) := by decide +kernel
theorem d_Bri_isAtRest_9 : decode prog_1_method_33_code 9 = .ok (.iaload, 1) := by decide +kernel
theorem d_Bri_isAtRest_10 : decode prog_1_method_33_code 10 = .ok (.aload_n 0, 1) := by decide +kernel
theorem d_Bri_isAtRest_11 : decode prog_1_method_33_code 11 = .ok (.getfield 61, 3) := by decide +kernel
theorem d_Bri_isAtRest_14 : decode prog_1_method_33_code 14 = .ok (.iconst 2, 1) := by decide +kernel
theorem d_Bri_isAtRest_15 : decode prog_1_method_33_code 15 = .ok (.iload_n 1, 1) := by decide +kernel
theorem d_Bri_isAtRest_16 : decode prog_1_method_33_code 16 = .ok (.imul, 1) := by decide +kernel
theorem d_Bri_isAtRest_17 : decode prog_1_method_33_code 17 = .ok (.iaload, 1) := by decide +kernel
theorem d_Bri_isAtRest_18 : decode prog_1_method_33_code 18 = .ok (.if_icmp .gt 32, 3) := by decide +kernel
theorem d_Bri_isAtRest_21 : decode prog_1_method_33_code 21 = .ok (.aload_n 0, 1) := by decide +kernel
theorem d_Bri_isAtRest_22 : decode prog_1_method_33_code 22 = .ok (.getfield 61, 3) := by decide +kernel
theorem d_Bri_isAtRest_25 : decode prog_1_method_33_code 25 = .ok (.iconst 2, 1) := by decide +kernel
theorem d_Bri_isAtRest_26 : decode prog_1_method_33_code 26 = .ok (.iload_n 1, 1) := by decide +kernel
theorem d_Bri_isAtRest_27 : decode prog_1_method_33_code 27 = .ok (.iconst 1, 1) := by decide +kernel
theorem d_Bri_isAtRest_28 : decode prog_1_method_33_code 28 = .ok (.ixor, 1) := by decide +kernel
theorem d_Bri_isAtRest_29 : decode prog_1_method_33_code 29 = .ok (.imul, 1) := by decide +kernel
theorem d_Bri_isAtRest_30 : decode prog_1_method_33_code 30 = .ok (.iconst 1, 1) := by decide +kernel
theorem d_Bri_isAtRest_31 : decode prog_1_method_33_code 31 = .ok (.iadd, 1) := by decide +kernel
theorem d_Bri_isAtRest_32 : decode prog_1_method_33_code 32 = .ok (.iaload, 1) := by decide +kernel
theorem d_Bri_isAtRest_33 : decode prog_1_method_33_code 33 = .ok (.aload_n 0, 1) := by decide +kernel
theorem d_Bri_isAtRest_34 : decode prog_1_method_33_code 34 = .ok (.getfield 61, 3) := by decide +kernel
theorem d_Bri_isAtRest_37 : decode prog_1_method_33_code 37 = .ok (.iconst 2, 1) := by decide +kernel
theorem d_Bri_isAtRest_38 : decode prog_1_method_33_code 38 = .ok (.iload_n 1, 1) := by decide +kernel
theorem d_Bri_isAtRest_39 : decode prog_1_method_33_code 39 = .ok (.imul, 1) := by decide +kernel
theorem d_Bri_isAtRest_40 : decode prog_1_method_33_code 40 = .ok (.iconst 1, 1) := by decide +kernel
theorem d_Bri_isAtRest_41 : decode prog_1_method_33_code 41 = .ok (.iadd, 1) := by decide +kernel
theorem d_Bri_isAtRest_42 : decode prog_1_method_33_code 42 = .ok (.iaload, 1) := by decide +kernel
theorem d_Bri_isAtRest_43 : decode prog_1_method_33_code 43 = .ok (.if_icmp .gt 7, 3) := by decide +kernel
theorem d_Bri_isAtRest_46 : decode prog_1_method_33_code 46 = .ok (.iconst 1, 1) := by decide +kernel
theorem d_Bri_isAtRest_47 : decode prog_1_method_33_code 47 = .ok (.goto 4, 3) := by decide +kernel
theorem d_Bri_isAtRest_50 : decode prog_1_method_33_code 50 = .ok (.iconst 0, 1) := by decide +kernel
theorem d_Bri_isAtRest_51 : decode prog_1_method_33_code 51 = .ok (.ireturn, 1) := by decide +kernel
theorem d_Bri_weigh_0 : decode prog_1_method_32_code 0 = .ok (.aload_n 0, 1) := by decide +kernel
theorem d_Bri_weigh_1 : decode prog_1_method_32_code 1 = .ok (.invokevirtual 143, 3) := by decide +kernel
theorem d_Bri_weigh_4 : decode prog_1_method_32_code 4 = .ok (.astore 4, 2) := by decide +kernel
theorem d_Bri_weigh_6 : decode prog_1_method_32_code 6 = .ok (.aload 4, 2) := by decide +kernel
theorem d_Bri_weigh_8 : decode prog_1_method_32_code 8 = .ok (.iload_n 2, 1) := by decide +kernel
theorem d_Bri_weigh_9 : decode prog_1_method_32_code 9 = .ok (.iload_n 1, 1) := by decide +kernel
theorem d_Bri_weigh_10 : decode prog_1_method_32_code 10 = .ok (.iconst 1, 1) := by decide +kernel
theorem d_Bri_weigh_11 : decode prog_1_method_32_code 11 = .ok (.ishr, 1) := by decide +kernel
theorem d_Bri_weigh_12 : decode prog_1_method_32_code 12 = .ok (.iconst 1, 1) := by decide +kernel
theorem d_Bri_weigh_13 : decode prog_1_method_32_code 13 = .ok (.if_icmp .ne 7, 3) := by decide +kernel
theorem d_Bri_weigh_16 : decode prog_1_method_32_code 16 = .ok (.iconst 1, 1) := by decide +kernel
theorem d_Bri_weigh_17 : decode prog_1_method_32_code 17 = .ok (.goto 4, 3) := by decide +kernel
theorem d_Bri_weigh_20 : decode prog_1_method_32_code 20 = .ok (.iconst 0, 1) := by decide +kernel
theorem d_Bri_weigh_21 : decode prog_1_method_32_code 21 = .ok (.invokevirtual 247, 3) := by decide +kernel
theorem d_Bri_weigh_24 : decode prog_1_method_32_code 24 = .ok (.aload 4, 2) := by decide +kernel
theorem d_Bri_weigh_26 : decode prog_1_method_32_code 26 = .ok (.iload_n 3, 1) := by decide +kernel
theorem d_Bri_weigh_27 : decode prog_1_method_32_code 27 = .ok (.iload_n 1, 1) := by decide +kernel
theorem d_Bri_weigh_28 : decode prog_1_method_32_code 28 = .ok (.iconst 1, 1) := by decide +kernel
theorem d_Bri_weigh_29 : decode prog_1_method_32_code 29 = .ok (.iand, 1) := by decide +kernel
theorem d_Bri_weigh_30 : decode prog_1_method_32_code 30 = .ok (.iconst 1, 1) := by decide +kernel
theorem d_Bri_weigh_31 : decode prog_1_method_32_code 31 = .ok (.if_icmp .ne 7, 3) := by decide +kernel
theorem d_Bri_weigh_34 : decode prog_1_method_32_code 34 = .ok (.iconst 1, 1) := by decide +kernel
theorem d_Bri_weigh_35 : decode prog_1_method_32_code 35 = .ok (.goto 4, 3) := by decide +kernel
theorem d_Bri_weigh_38 : decode prog_1_method_32_code 38 = .ok (.iconst 0, 1) := by decide +kernel
theorem d_Bri_weigh_39 : decode prog_1_method_32_code 39 = .ok (.invokevirtual 247, 3) := by decide +kernel
theorem d_Bri_weigh_42 : decode prog_1_method_32_code 42 = .ok (.aload 4, 2) := by decide +kernel
theorem d_Bri_weigh_44 : decode prog_1_method_32_code 44 = .ok (.iconst 3, 1) := by decide +kernel
theorem d_Bri_weigh_45 : decode prog_1_method_32_code 45 = .ok (.invokevirtual 175, 3) := by decide +kernel
theorem d_Bri_weigh_48 : decode prog_1_method_32_code 48 = .ok (.aload_n 0, 1) := by decide +kernel
theorem d_Bri_weigh_49 : decode prog_1_method_32_code 49 = .ok (.getfield 61, 3) := by decide +kernel
theorem d_Bri_weigh_52 : decode prog_1_method_32_code 52 = .ok (.iconst 2, 1) := by decide +kernel
theorem d_Bri_weigh_53 : decode prog_1_method_32_code 53 = .ok (.iload_n 1, 1) := by decide +kernel
theorem d_Bri_weigh_54 : decode prog_1_method_32_code 54 = .ok (.imul, 1) := by decide +kernel
theorem d_Bri_weigh_55 : decode prog_1_method_32_code 55 = .ok (.aload 4, 2) := by decide +kernel
theorem d_Bri_weigh_57 : decode prog_1_method_32_code 57 = .ok (.iload_n 2, 1) := by decide +kernel
theorem d_Bri_weigh_58 : decode prog_1_method_32_code 58 = .ok (.invokevirtual 137, 3) := by decide +kernel
theorem d_Bri_weigh_61 : decode prog_1_method_32_code 61 = .ok (.aload 4, 2) := by decide +kernel
theorem d_Bri_weigh_63 : decode prog_1_method_32_code 63 = .ok (.getfield 104, 3) := by decide +kernel
theorem d_Bri_weigh_66 : decode prog_1_method_32_code 66 = .ok (.iload_n 2, 1) := by decide +kernel
theorem d_Bri_weigh_67 : decode prog_1_method_32_code 67 = .ok (.iconst 1, 1) := by decide +kernel
theorem d_Bri_weigh_68 : decode prog_1_method_32_code 68 = .ok (.iadd, 1) := by decide +kernel
theorem d_Bri_weigh_69 : decode prog_1_method_32_code 69 = .ok (.iaload, 1) := by decide +kernel
theorem d_Bri_weigh_70 : decode prog_1_method_32_code 70 = .ok (.iadd, 1) := by decide +kernel
theorem d_Bri_weigh_71 : decode prog_1_method_32_code 71 = .ok (.iastore, 1) := by decide +kernel
theorem d_Bri_weigh_72 : decode prog_1_method_32_code 72 = .ok (.aload_n 0, 1) := by decide +kernel
theorem d_Bri_weigh_73 : decode prog_1_method_32_code 73 = .ok (.getfield 61, 3) := by decide +kernel
theorem d_Bri_weigh_76 : decode prog_1_method_32_code 76 = .ok (.iconst 2, 1) := by decide +kernel
theorem d_Bri_weigh_77 : decode prog_1_method_32_code 77 = .ok (.iload_n 1, 1) := by decide +kernel
theorem d_Bri_weigh_78 : decode prog_1_method_32_code 78 = .ok (.imul, 1) := by decide +kernel
theorem d_Bri_weigh_79 : decode prog_1_method_32_code 79 = .ok (.iconst 1, 1) := by decide +kernel
theorem d_Bri_weigh_80 : decode prog_1_method_32_code 80 = .ok (.iadd, 1) := by decide +kernel
theorem d_Bri_weigh_81 : decode prog_1_method_32_code 81 = .ok (.aload 4, 2) := by decide +kernel
theorem d_Bri_weigh_83 : decode prog_1_method_32_code 83 = .ok (.iload_n 3, 1) := by decide +kernel
theorem d_Bri_weigh_84 : decode prog_1_method_32_code 84 = .ok (.invokevirtual 137, 3) := by decide +kernel
theorem d_Bri_weigh_87 : decode prog_1_method_32_code 87 = .ok (.aload 4, 2) := by decide +kernel
theorem d_Bri_weigh_89 : decode prog_1_method_32_code 89 = .ok (.getfield 104, 3) := by decide +kernel
theorem d_Bri_weigh_92 : decode prog_1_method_32_code 92 = .ok (.iload_n 3, 1) := by decide +kernel
theorem d_Bri_weigh_93 : decode prog_1_method_32_code 93 = .ok (.iconst 1, 1) := by decide +kernel
theorem d_Bri_weigh_94 : decode prog_1_method_32_code 94 = .ok (.iadd, 1) := by decide +kernel
theorem d_Bri_weigh_95 : decode prog_1_method_32_code 95 = .ok (.iaload, 1) := by decide +kernel
theorem d_Bri_weigh_96 : decode prog_1_method_32_code 96 = .ok (.iadd, 1) := by decide +kernel
theorem d_Bri_weigh_97 : decode prog_1_method_32_code 97 = .ok (.iastore, 1) := by decide +kernel
theorem d_Bri_weigh_98 : decode prog_1_method_32_code 98 = .ok (.return_, 1) := by decide +kernel
theorem d_Bri_rests_0 : decode prog_1_method_24_code 0 = .ok (.aload_n 0, 1) := by decide +kernel
theorem d_Bri_rests_1 : decode prog_1_method_24_code 1 = .ok (.getfield 19, 3) := by decide +kernel
theorem d_Bri_rests_4 : decode prog_1_method_24_code 4 = .ok (.iload_n 1, 1) := by decide +kernel
theorem d_Bri_rests_5 : decode prog_1_method_24_code 5 = .ok (.invokevirtual 222, 3) := by decide +kernel
theorem d_Bri_rests_8 : decode prog_1_method_24_code 8 = .ok (.ifCond .eq 14, 3) := by decide +kernel
theorem d_Bri_rests_11 : decode prog_1_method_24_code 11 = .ok (.aload_n 0, 1) := by decide +kernel
theorem d_Bri_rests_12 : decode prog_1_method_24_code 12 = .ok (.getfield 19, 3) := by decide +kernel
theorem d_Bri_rests_15 : decode prog_1_method_24_code 15 = .ok (.iload_n 2, 1) := by decide +kernel
theorem d_Bri_rests_16 : decode prog_1_method_24_code 16 = .ok (.invokevirtual 222, 3) := by decide +kernel
theorem d_Bri_rests_19 : decode prog_1_method_24_code 19 = .ok (.ifCond .ne 5, 3) := by decide +kernel
theorem d_Bri_rests_22 : decode prog_1_method_24_code 22 = .ok (.iconst (-1), 1) := by decide +kernel
theorem d_Bri_rests_23 : decode prog_1_method_24_code 23 = .ok (.ireturn, 1) := by decide +kernel
theorem d_Bri_rests_24 : decode prog_1_method_24_code 24 = .ok (.iload_n 1, 1) := by decide +kernel
theorem d_Bri_rests_25 : decode prog_1_method_24_code 25 = .ok (.iload_n 2, 1) := by decide +kernel
theorem d_Bri_rests_26 : decode prog_1_method_24_code 26 = .ok (.if_icmp .eq 12, 3) := by decide +kernel
theorem d_Bri_rests_29 : decode prog_1_method_24_code 29 = .ok (.iload_n 3, 1) := by decide +kernel
theorem d_Bri_rests_30 : decode prog_1_method_24_code 30 = .ok (.iconst 0, 1) := by decide +kernel
theorem d_Bri_rests_31 : decode prog_1_method_24_code 31 = .ok (.iconst 1, 1) := by decide +kernel
theorem d_Bri_rests_32 : decode prog_1_method_24_code 32 = .ok (.invokestatic 171, 3) := by decide +kernel
theorem d_Bri_rests_35 : decode prog_1_method_24_code 35 = .ok (.ifCond .ne 6, 3) := by decide +kernel
theorem d_Bri_rests_38 : decode prog_1_method_24_code 38 = .ok (.bipush (-2), 2) := by decide +kernel
theorem d_Bri_rests_40 : decode prog_1_method_24_code 40 = .ok (.ireturn, 1) := by decide +kernel
theorem d_Bri_rests_41 : decode prog_1_method_24_code 41 = .ok (.iconst 0, 1) := by decide +kernel
theorem d_Bri_rests_42 : decode prog_1_method_24_code 42 = .ok (.istore 4, 2) := by decide +kernel
theorem d_Bri_rests_44 : decode prog_1_method_24_code 44 = .ok (.iload 4, 2) := by decide +kernel
theorem d_Bri_rests_46 : decode prog_1_method_24_code 46 = .ok (.iconst 4, 1) := by decide +kernel
theorem d_Bri_rests_47 : decode prog_1_method_24_code 47 = .ok (.if_icmp .ge 17, 3) := by decide +kernel
theorem d_Bri_rests_50 : decode prog_1_method_24_code 50 = .ok (.aload_n 0, 1) := by decide +kernel
theorem d_Bri_rests_51 : decode prog_1_method_24_code 51 = .ok (.iload 4, 2) := by decide +kernel
theorem d_Bri_rests_53 : decode prog_1_method_24_code 53 = .ok (.iload_n 1, 1) := by decide +kernel
theorem d_Bri_rests_54 : decode prog_1_method_24_code 54 = .ok (.iload_n 2, 1) := by decide +kernel
theorem d_Bri_rests_55 : decode prog_1_method_24_code 55 = .ok (.invokevirtual 225, 3) := by decide +kernel
theorem d_Bri_rests_58 : decode prog_1_method_24_code 58 = .ok (.iinc 4 1, 3) := by decide +kernel
theorem d_Bri_rests_61 : decode prog_1_method_24_code 61 = .ok (.goto (-17), 3) := by decide +kernel
theorem d_Bri_rests_64 : decode prog_1_method_24_code 64 = .ok (.iconst 0, 1) := by decide +kernel
theorem d_Bri_rests_65 : decode prog_1_method_24_code 65 = .ok (.istore 4, 2) := by decide +kernel
theorem d_Bri_rests_67 : decode prog_1_method_24_code 67 = .ok (.bipush (-9), 2) := by decide +kernel
theorem d_Bri_rests_69 : decode prog_1_method_24_code 69 = .ok (.istore 5, 2) := by decide +kernel
theorem d_Bri_rests_71 : decode prog_1_method_24_code 71 = .ok (.iconst 0, 1) := by decide +kernel
theorem d_Bri_rests_72 : decode prog_1_method_24_code 72 = .ok (.istore 6, 2) := by decide +kernel
theorem d_Bri_rests_74 : decode prog_1_method_24_code 74 = .ok (.iload 6, 2) := by decide +kernel
theorem d_Bri_rests_76 : decode prog_1_method_24_code 76 = .ok (.iconst 4, 1) := by decide +kernel
theorem d_Bri_rests_77 : decode prog_1_method_24_code 77 = .ok (.if_icmp .ge 42, 3) := by decide +kernel
theorem d_Bri_rests_80 : decode prog_1_method_24_code 80 = .ok (.aload_n 0, 1) := by decide +kernel
theorem d_Bri_rests_81 : decode prog_1_method_24_code 81 = .ok (.iload 6, 2) := by decide +kernel
theorem d_Bri_rests_83 : decode prog_1_method_24_code 83 = .ok (.invokevirtual 229, 3) := by decide +kernel
theorem d_Bri_rests_86 : decode prog_1_method_24_code 86 = .ok (.ifCond .eq 27, 3) := by decide +kernel
theorem d_Bri_rests_89 : decode prog_1_method_24_code 89 = .ok (.iinc 4 1, 3) := by decide +kernel
theorem d_Bri_rests_92 : decode prog_1_method_24_code 92 = .ok (.iload 5, 2) := by decide +kernel
theorem d_Bri_rests_94 : decode prog_1_method_24_code 94 = .ok (.bipush (-9), 2) := by decide +kernel
theorem d_Bri_rests_96 : decode prog_1_method_24_code 96 = .ok (.if_icmp .ne 17, 3) := by decide +kernel
theorem d_Bri_rests_99 : decode prog_1_method_24_code 99 = .ok (.bipush 10, 2) := by decide +kernel
theorem d_Bri_rests_101 : decode prog_1_method_24_code 101 = .ok (.iload 6, 2) := by decide +kernel
theorem d_Bri_rests_103 : decode prog_1_method_24_code 103 = .ok (.iconst 1, 1) := by decide +kernel
theorem d_Bri_rests_104 : decode prog_1_method_24_code 104 = .ok (.ishr, 1) := by decide +kernel
theorem d_Bri_rests_105 : decode prog_1_method_24_code 105 = .ok (.imul, 1) := by decide +kernel
theorem d_Bri_rests_106 : decode prog_1_method_24_code 106 = .ok (.iload 6, 2) := by decide +kernel
theorem d_Bri_rests_108 : decode prog_1_method_24_code 108 = .ok (.iconst 1, 1) := by decide +kernel
theorem d_Bri_rests_109 : decode prog_1_method_24_code 109 = .ok (.iand, 1) := by decide +kernel
theorem d_Bri_rests_110 : decode prog_1_method_24_code 110 = .ok (.iadd, 1) := by decide +kernel
theorem d_Bri_rests_111 : decode prog_1_method_24_code 111 = .ok (.istore 5, 2) := by decide +kernel
theorem d_Bri_rests_113 : decode prog_1_method_24_code 113 = .ok (.iinc 6 1, 3) := by decide +kernel
theorem d_Bri_rests_116 : decode prog_1_method_24_code 116 = .ok (.goto (-42), 3) := by decide +kernel
theorem d_Bri_rests_119 : decode prog_1_method_24_code 119 = .ok (.iload_n 3, 1) := by decide +kernel
theorem d_Bri_rests_120 : decode prog_1_method_24_code 120 = .ok (.ifCond .ne 8, 3) := by decide +kernel
theorem d_Bri_rests_123 : decode prog_1_method_24_code 123 = .ok (.iload 4, 2) := by decide +kernel
theorem d_Bri_rests_125 : decode prog_1_method_24_code 125 = .ok (.goto 5, 3) := by decide +kernel
theorem d_Bri_rests_128 : decode prog_1_method_24_code 128 = .ok (.iload 5, 2) := by decide +kernel
theorem d_Bri_rests_130 : decode prog_1_method_24_code 130 = .ok (.ireturn, 1) := by decide +kernel
theorem d_Bri_clouds_0 : decode prog_1_method_25_code 0 = .ok (.aload_n 0, 1) := by decide +kernel
theorem d_Bri_clouds_1 : decode prog_1_method_25_code 1 = .ok (.getfield 19, 3) := by decide +kernel
theorem d_Bri_clouds_4 : decode prog_1_method_25_code 4 = .ok (.iload_n 1, 1) := by decide +kernel
theorem d_Bri_clouds_5 : decode prog_1_method_25_code 5 = .ok (.invokevirtual 127, 3) := by decide +kernel
theorem d_Bri_clouds_8 : decode prog_1_method_25_code 8 = .ok (.ifCond .ne 5, 3) := by decide +kernel
theorem d_Bri_clouds_11 : decode prog_1_method_25_code 11 = .ok (.iconst (-1), 1) := by decide +kernel
theorem d_Bri_clouds_12 : decode prog_1_method_25_code 12 = .ok (.ireturn, 1) := by decide +kernel
theorem d_Bri_clouds_13 : decode prog_1_method_25_code 13 = .ok (.iload_n 2, 1) := by decide +kernel
theorem d_Bri_clouds_14 : decode prog_1_method_25_code 14 = .ok (.iconst 1, 1) := by decide +kernel
theorem d_Bri_clouds_15 : decode prog_1_method_25_code 15 = .ok (.bipush 6, 2) := by decide +kernel
theorem d_Bri_clouds_17 : decode prog_1_method_25_code 17 = .ok (.invokestatic 171, 3) := by decide +kernel
theorem d_Bri_clouds_20 : decode prog_1_method_25_code 20 = .ok (.ifCond .eq 24, 3) := by decide +kernel
theorem d_Bri_clouds_23 : decode prog_1_method_25_code 23 = .ok (.iload_n 3, 1) := by decide +kernel
theorem d_Bri_clouds_24 : decode prog_1_method_25_code 24 = .ok (.iconst 0, 1) := by decide +kernel
theorem d_Bri_clouds_25 : decode prog_1_method_25_code 25 = .ok (.bipush 99, 2) := by decide +kernel
theorem d_Bri_clouds_27 : decode prog_1_method_25_code 27 = .ok (.invokestatic 171, 3) := by decide +kernel
theorem d_Bri_clouds_30 : decode prog_1_method_25_code 30 = .ok (.ifCond .eq 14, 3) := by decide +kernel
theorem d_Bri_clouds_33 : decode prog_1_method_25_code 33 = .ok (.iload 4, 2) := by decide +kernel
theorem d_Bri_clouds_35 : decode prog_1_method_25_code 35 = .ok (.iconst 0, 1) := by decide +kernel
theorem d_Bri_clouds_36 : decode prog_1_method_25_code 36 = .ok (.bipush 10, 2) := by decide +kernel
theorem d_Bri_clouds_38 : decode prog_1_method_25_code 38 = .ok (.invokestatic 171, 3) := by decide +kernel
theorem d_Bri_clouds_41 : decode prog_1_method_25_code 41 = .ok (.ifCond .ne 6, 3) := by decide +kernel
theorem d_Bri_clouds_44 : decode prog_1_method_25_code 44 = .ok (.bipush (-2), 2) := by decide +kernel
theorem d_Bri_clouds_46 : decode prog_1_method_25_code 46 = .ok (.ireturn, 1) := by decide +kernel
theorem d_Bri_clouds_47 : decode prog_1_method_25_code 47 = .ok (.iconst 0, 1) := by decide +kernel
theorem d_Bri_clouds_48 : decode prog_1_method_25_code 48 = .ok (.istore 6, 2) := by decide +kernel
theorem d_Bri_clouds_50 : decode prog_1_method_25_code 50 = .ok (.iconst 1, 1) := by decide +kernel
theorem d_Bri_clouds_51 : decode prog_1_method_25_code 51 = .ok (.istore 7, 2) := by decide +kernel
theorem d_Bri_clouds_53 : decode prog_1_method_25_code 53 = .ok (.iconst 0, 1) := by decide +kernel
theorem d_Bri_clouds_54 : decode prog_1_method_25_code 54 = .ok (.istore 8, 2) := by decide +kernel
theorem d_Bri_clouds_56 : decode prog_1_method_25_code 56 = .ok (.iload 8, 2) := by decide +kernel
theorem d_Bri_clouds_58 : decode prog_1_method_25_code 58 = .ok (.iload_n 2, 1) := by decide +kernel
theorem d_Bri_clouds_59 : decode prog_1_method_25_code 59 = .ok (.if_icmp .ge 16, 3) := by decide +kernel
theorem d_Bri_clouds_62 : decode prog_1_method_25_code 62 = .ok (.iload 7, 2) := by decide +kernel
theorem d_Bri_clouds_64 : decode prog_1_method_25_code 64 = .ok (.bipush 10, 2) := by decide +kernel
theorem d_Bri_clouds_66 : decode prog_1_method_25_code 66 = .ok (.imul, 1) := by decide +kernel
theorem d_Bri_clouds_67 : decode prog_1_method_25_code 67 = .ok (.istore 7, 2) := by decide +kernel
theorem d_Bri_clouds_69 : decode prog_1_method_25_code 69 = .ok (.iinc 8 1, 3) := by decide +kernel
theorem d_Bri_clouds_72 : decode prog_1_method_25_code 72 = .ok (.goto (-16), 3) := by decide +kernel
theorem d_Bri_clouds_75 : decode prog_1_method_25_code 75 = .ok (.iconst 0, 1) := by decide +kernel
theorem d_Bri_clouds_76 : decode prog_1_method_25_code 76 = .ok (.istore 8, 2) := by decide +kernel
theorem d_Bri_clouds_78 : decode prog_1_method_25_code 78 = .ok (.iload 8, 2) := by decide +kernel
theorem d_Bri_clouds_80 : decode prog_1_method_25_code 80 = .ok (.iconst 1, 1) := by decide +kernel
theorem d_Bri_clouds_81 : decode prog_1_method_25_code 81 = .ok (.iload_n 2, 1) := by decide +kernel
theorem d_Bri_clouds_82 : decode prog_1_method_25_code 82 = .ok (.ishl, 1) := by decide +kernel
theorem d_Bri_clouds_83 : decode prog_1_method_25_code 83 = .ok (.if_icmp .ge 95, 3) := by decide +kernel
theorem d_Bri_clouds_86 : decode prog_1_method_25_code 86 = .ok (.aload_n 0, 1) := by decide +kernel
theorem d_Bri_clouds_87 : decode prog_1_method_25_code 87 = .ok (.invokevirtual 143, 3) := by decide +kernel
theorem d_Bri_clouds_90 : decode prog_1_method_25_code 90 = .ok (.astore 9, 2) := by decide +kernel
theorem d_Bri_clouds_92 : decode prog_1_method_25_code 92 = .ok (.iconst 1, 1) := by decide +kernel
theorem d_Bri_clouds_93 : decode prog_1_method_25_code 93 = .ok (.istore 10, 2) := by decide +kernel
theorem d_Bri_clouds_95 : decode prog_1_method_25_code 95 = .ok (.iconst 0, 1) := by decide +kernel
theorem d_Bri_clouds_96 : decode prog_1_method_25_code 96 = .ok (.istore 11, 2) := by decide +kernel
theorem d_Bri_clouds_98 : decode prog_1_method_25_code 98 = .ok (.iload 11, 2) := by decide +kernel
theorem d_Bri_clouds_100 : decode prog_1_method_25_code 100 = .ok (.iload_n 2, 1) := by decide +kernel
theorem d_Bri_clouds_101 : decode prog_1_method_25_code 101 = .ok (.if_icmp .ge 54, 3) := by decide +kernel
theorem d_Bri_clouds_104 : decode prog_1_method_25_code 104 = .ok (.iload 8, 2) := by decide +kernel
theorem d_Bri_clouds_106 : decode prog_1_method_25_code 106 = .ok (.iload 11, 2) := by decide +kernel
theorem d_Bri_clouds_108 : decode prog_1_method_25_code 108 = .ok (.ishr, 1) := by decide +kernel
theorem d_Bri_clouds_109 : decode prog_1_method_25_code 109 = .ok (.iconst 1, 1) := by decide +kernel
theorem d_Bri_clouds_110 : decode prog_1_method_25_code 110 = .ok (.iand, 1) := by decide +kernel
theorem d_Bri_clouds_111 : decode prog_1_method_25_code 111 = .ok (.iconst 1, 1) := by decide +kernel
theorem d_Bri_clouds_112 : decode prog_1_method_25_code 112 = .ok (.if_icmp .ne 7, 3) := by decide +kernel
theorem d_Bri_clouds_115 : decode prog_1_method_25_code 115 = .ok (.iconst 1, 1) := by decide +kernel
theorem d_Bri_clouds_116 : decode prog_1_method_25_code 116 = .ok (.goto 4, 3) := by decide +kernel
theorem d_Bri_clouds_119 : decode prog_1_method_25_code 119 = .ok (.iconst 0, 1) := by decide +kernel
theorem d_Bri_clouds_120 : decode prog_1_method_25_code 120 = .ok (.istore 12, 2) := by decide +kernel
theorem d_Bri_clouds_122 : decode prog_1_method_25_code 122 = .ok (.iload 10, 2) := by decide +kernel
theorem d_Bri_clouds_124 : decode prog_1_method_25_code 124 = .ok (.iload 12, 2) := by decide +kernel
theorem d_Bri_clouds_126 : decode prog_1_method_25_code 126 = .ok (.ifCond .eq 8, 3) := by decide +kernel
theorem d_Bri_clouds_129 : decode prog_1_method_25_code 129 = .ok (.iload 4, 2) := by decide +kernel
theorem d_Bri_clouds_131 : decode prog_1_method_25_code 131 = .ok (.goto 8, 3) := by decide +kernel
theorem d_Bri_clouds_134 : decode prog_1_method_25_code 134 = .ok (.bipush 10, 2) := by decide +kernel
theorem d_Bri_clouds_136 : decode prog_1_method_25_code 136 = .ok (.iload 4, 2) := by decide +kernel
theorem d_Bri_clouds_138 : decode prog_1_method_25_code 138 = .ok (.isub, 1) := by decide +kernel
theorem d_Bri_clouds_139 : decode prog_1_method_25_code 139 = .ok (.imul, 1) := by decide +kernel
theorem d_Bri_clouds_140 : decode prog_1_method_25_code 140 = .ok (.istore 10, 2) := by decide +kernel
theorem d_Bri_clouds_142 : decode prog_1_method_25_code 142 = .ok (.aload 9, 2) := by decide +kernel
theorem d_Bri_clouds_144 : decode prog_1_method_25_code 144 = .ok (.iload 12, 2) := by decide +kernel
theorem d_Bri_clouds_146 : decode prog_1_method_25_code 146 = .ok (.invokevirtual 147, 3) := by decide +kernel
theorem d_Bri_clouds_149 : decode prog_1_method_25_code 149 = .ok (.iinc 11 1, 3) := by decide +kernel
theorem d_Bri_clouds_152 : decode prog_1_method_25_code 152 = .ok (.goto (-54), 3) := by decide +kernel
theorem d_Bri_clouds_155 : decode prog_1_method_25_code 155 = .ok (.aload 9, 2) := by decide +kernel
theorem d_Bri_clouds_157 : decode prog_1_method_25_code 157 = .ok (.iload_n 1, 1) := by decide +kernel
theorem d_Bri_clouds_158 : decode prog_1_method_25_code 158 = .ok (.invokevirtual 137, 3) := by decide +kernel
theorem d_Bri_clouds_161 : decode prog_1_method_25_code 161 = .ok (.iload_n 3, 1) := by decide +kernel
theorem d_Bri_clouds_162 : decode prog_1_method_25_code 162 = .ok (.if_icmp .lt 10, 3) := by decide +kernel
theorem d_Bri_clouds_165 : decode prog_1_method_25_code 165 = .ok (.iload 6, 2) := by decide +kernel
theorem d_Bri_clouds_167 : decode prog_1_method_25_code 167 = .ok (.iload 10, 2) := by decide +kernel
theorem d_Bri_clouds_169 : decode prog_1_method_25_code 169 = .ok (.iadd, 1) := by decide +kernel
theorem d_Bri_clouds_170 : decode prog_1_method_25_code 170 = .ok (.istore 6, 2) := by decide +kernel
theorem d_Bri_clouds_172 : decode prog_1_method_25_code 172 = .ok (.iinc 8 1, 3) := by decide +kernel
theorem d_Bri_clouds_175 : decode prog_1_method_25_code 175 = .ok (.goto (-97), 3) := by decide +kernel
theorem d_Bri_clouds_178 : decode prog_1_method_25_code 178 = .ok (.iload 6, 2) := by decide +kernel
theorem d_Bri_clouds_180 : decode prog_1_method_25_code 180 = .ok (.iload 7, 2) := by decide +kernel
theorem d_Bri_clouds_182 : decode prog_1_method_25_code 182 = .ok (.iload 5, 2) := by decide +kernel
theorem d_Bri_clouds_184 : decode prog_1_method_25_code 184 = .ok (.invokestatic 210, 3) := by decide +kernel
theorem d_Bri_clouds_187 : decode prog_1_method_25_code 187 = .ok (.ireturn, 1) := by decide +kernel
theorem d_Bri_seed_0 : decode prog_1_method_26_code 0 = .ok (.aload_n 0, 1) := by decide +kernel
theorem d_Bri_seed_1 : decode prog_1_method_26_code 1 = .ok (.getfield 64, 3) := by decide +kernel
theorem d_Bri_seed_4 : decode prog_1_method_26_code 4 = .ok (.lstore_n 3, 1) := by decide +kernel
theorem d_Bri_seed_5 : decode prog_1_method_26_code 5 = .ok (.aload_n 0, 1) := by decide +kernel
theorem d_Bri_seed_6 : decode prog_1_method_26_code 6 = .ok (.lload_n 1, 1) := by decide +kernel
theorem d_Bri_seed_7 : decode prog_1_method_26_code 7 = .ok (.putfield 64, 3) := by decide +kernel
theorem d_Bri_seed_10 : decode prog_1_method_26_code 10 = .ok (.lload_n 3, 1) := by decide +kernel
theorem d_Bri_seed_11 : decode prog_1_method_26_code 11 = .ok (.lreturn, 1) := by decide +kernel
theorem d_Bri_years_0 : decode prog_1_method_27_code 0 = .ok (.iload_n 1, 1) := by decide +kernel
theorem d_Bri_years_1 : decode prog_1_method_27_code 1 = .ok (.iconst 1, 1) := by decide +kernel
theorem d_Bri_years_2 : decode prog_1_method_27_code 2 = .ok (.bipush 30, 2) := by decide +kernel
theorem d_Bri_years_4 : decode prog_1_method_27_code 4 = .ok (.invokestatic 171, 3) := by decide +kernel
theorem d_Bri_years_7 : decode prog_1_method_27_code 7 = .ok (.ifCond .ne 6, 3) := by decide +kernel
theorem d_Bri_years_10 : decode prog_1_method_27_code 10 = .ok (.bipush (-2), 2) := by decide +kernel
theorem d_Bri_years_12 : decode prog_1_method_27_code 12 = .ok (.ireturn, 1) := by decide +kernel
theorem d_Bri_years_13 : decode prog_1_method_27_code 13 = .ok (.aload_n 0, 1) := by decide +kernel
theorem d_Bri_years_14 : decode prog_1_method_27_code 14 = .ok (.invokevirtual 143, 3) := by decide +kernel
theorem d_Bri_years_17 : decode prog_1_method_27_code 17 = .ok (.astore_n 2, 1) := by decide +kernel
theorem d_Bri_years_18 : decode prog_1_method_27_code 18 = .ok (.iconst 0, 1) := by decide +kernel
theorem d_Bri_years_19 : decode prog_1_method_27_code 19 = .ok (.istore_n 3, 1) := by decide +kernel
theorem d_Bri_years_20 : decode prog_1_method_27_code 20 = .ok (.iconst 0, 1) := by decide +kernel
theorem d_Bri_years_21 : decode prog_1_method_27_code 21 = .ok (.istore 4, 2) := by decide +kernel
theorem d_Bri_years_23 : decode prog_1_method_27_code 23 = .ok (.iload 4, 2) := by decide +kernel
theorem d_Bri_years_25 : decode prog_1_method_27_code 25 = .ok (.iload_n 1, 1) := by decide +kernel
theorem d_Bri_years_26 : decode prog_1_method_27_code 26 = .ok (.if_icmp .ge 48, 3) := by decide +kernel
theorem d_Bri_years_29 : decode prog_1_method_27_code 29 = .ok (.aload_n 0, 1) := by decide +kernel
theorem d_Bri_years_30 : decode prog_1_method_27_code 30 = .ok (.aload_n 0, 1) := by decide +kernel
theorem d_Bri_years_31 : decode prog_1_method_27_code 31 = .ok (.getfield 64, 3) := by decide +kernel
theorem d_Bri_years_34 : decode prog_1_method_27_code 34 = .ok (.ldc2_w 232, 3) := by decide +kernel
theorem d_Bri_years_37 : decode prog_1_method_27_code 37 = .ok (.lmul, 1) := by decide +kernel
theorem d_Bri_years_38 : decode prog_1_method_27_code 38 = .ok (.ldc2_w 234, 3) := by decide +kernel
theorem d_Bri_years_41 : decode prog_1_method_27_code 41 = .ok (.ladd, 1) := by decide +kernel
theorem d_Bri_years_42 : decode prog_1_method_27_code 42 = .ok (.putfield 64, 3) := by decide +kernel
theorem d_Bri_years_45 : decode prog_1_method_27_code 45 = .ok (.aload_n 2, 1) := by decide +kernel
theorem d_Bri_years_46 : decode prog_1_method_27_code 46 = .ok (.aload_n 0, 1) := by decide +kernel
theorem d_Bri_years_47 : decode prog_1_method_27_code 47 = .ok (.getfield 64, 3) := by decide +kernel
theorem d_Bri_years_50 : decode prog_1_method_27_code 50 = .ok (.bipush 33, 2) := by decide +kernel
theorem d_Bri_years_52 : decode prog_1_method_27_code 52 = .ok (.lushr, 1) := by decide +kernel
theorem d_Bri_years_53 : decode prog_1_method_27_code 53 = .ok (.ldc2_w 236, 3) := by decide +kernel
theorem d_Bri_years_56 : decode prog_1_method_27_code 56 = .ok (.lrem, 1) := by decide +kernel
theorem d_Bri_years_57 : decode prog_1_method_27_code 57 = .ok (.l2i, 1) := by decide +kernel
theorem d_Bri_years_58 : decode prog_1_method_27_code 58 = .ok (.invokevirtual 238, 3) := by decide +kernel
theorem d_Bri_years_61 : decode prog_1_method_27_code 61 = .ok (.iload_n 3, 1) := by decide +kernel
theorem d_Bri_years_62 : decode prog_1_method_27_code 62 = .ok (.aload_n 2, 1) := by decide +kernel
theorem d_Bri_years_63 : decode prog_1_method_27_code 63 = .ok (.invokevirtual 114, 3) := by decide +kernel
theorem d_Bri_years_66 : decode prog_1_method_27_code 66 = .ok (.iadd, 1) := by decide +kernel
theorem d_Bri_years_67 : decode prog_1_method_27_code 67 = .ok (.istore_n 3, 1) := by decide +kernel
theorem d_Bri_years_68 : decode prog_1_method_27_code 68 = .ok (.iinc 4 1, 3) := by decide +kernel
theorem d_Bri_years_71 : decode prog_1_method_27_code 71 = .ok (.goto (-48), 3) := by decide +kernel
theorem d_Bri_years_74 : decode prog_1_method_27_code 74 = .ok (.iload_n 3, 1) := by decide +kernel
theorem d_Bri_years_75 : decode prog_1_method_27_code 75 = .ok (.ireturn, 1) := by decide +kernel
theorem d_Bri_keep_0 : decode prog_1_method_28_code 0 = .ok (.iload_n 1, 1) := by decide +kernel
theorem d_Bri_keep_1 : decode prog_1_method_28_code 1 = .ok (.iconst 0, 1) := by decide +kernel
theorem d_Bri_keep_2 : decode prog_1_method_28_code 2 = .ok (.iconst 1, 1) := by decide +kernel
theorem d_Bri_keep_3 : decode prog_1_method_28_code 3 = .ok (.invokestatic 171, 3) := by decide +kernel
theorem d_Bri_keep_6 : decode prog_1_method_28_code 6 = .ok (.ifCond .ne 5, 3) := by decide +kernel
theorem d_Bri_keep_9 : decode prog_1_method_28_code 9 = .ok (.iconst (-1), 1) := by decide +kernel
theorem d_Bri_keep_10 : decode prog_1_method_28_code 10 = .ok (.ireturn, 1) := by decide +kernel
theorem d_Bri_keep_11 : decode prog_1_method_28_code 11 = .ok (.aload_n 0, 1) := by decide +kernel
theorem d_Bri_keep_12 : decode prog_1_method_28_code 12 = .ok (.getfield 49, 3) := by decide +kernel
theorem d_Bri_keep_15 : decode prog_1_method_28_code 15 = .ok (.iload_n 1, 1) := by decide +kernel
theorem d_Bri_keep_16 : decode prog_1_method_28_code 16 = .ok (.aaload, 1) := by decide +kernel
theorem d_Bri_keep_17 : decode prog_1_method_28_code 17 = .ok (.aload_n 0, 1) := by decide +kernel
theorem d_Bri_keep_18 : decode prog_1_method_28_code 18 = .ok (.getfield 28, 3) := by decide +kernel
theorem d_Bri_keep_21 : decode prog_1_method_28_code 21 = .ok (.invokevirtual 241, 3) := by decide +kernel
theorem d_Bri_keep_24 : decode prog_1_method_28_code 24 = .ok (.aload_n 0, 1) := by decide +kernel
theorem d_Bri_keep_25 : decode prog_1_method_28_code 25 = .ok (.getfield 53, 3) := by decide +kernel
theorem d_Bri_keep_28 : decode prog_1_method_28_code 28 = .ok (.iload_n 1, 1) := by decide +kernel
theorem d_Bri_keep_29 : decode prog_1_method_28_code 29 = .ok (.iconst 1, 1) := by decide +kernel
theorem d_Bri_keep_30 : decode prog_1_method_28_code 30 = .ok (.bastore, 1) := by decide +kernel
theorem d_Bri_keep_31 : decode prog_1_method_28_code 31 = .ok (.aload_n 0, 1) := by decide +kernel
theorem d_Bri_keep_32 : decode prog_1_method_28_code 32 = .ok (.getfield 28, 3) := by decide +kernel
theorem d_Bri_keep_35 : decode prog_1_method_28_code 35 = .ok (.getfield 92, 3) := by decide +kernel
theorem d_Bri_keep_38 : decode prog_1_method_28_code 38 = .ok (.ireturn, 1) := by decide +kernel
theorem d_Bri_again_0 : decode prog_1_method_29_code 0 = .ok (.iload_n 1, 1) := by decide +kernel
theorem d_Bri_again_1 : decode prog_1_method_29_code 1 = .ok (.iconst 0, 1) := by decide +kernel
theorem d_Bri_again_2 : decode prog_1_method_29_code 2 = .ok (.iconst 1, 1) := by decide +kernel
theorem d_Bri_again_3 : decode prog_1_method_29_code 3 = .ok (.invokestatic 171, 3) := by decide +kernel
theorem d_Bri_again_6 : decode prog_1_method_29_code 6 = .ok (.ifCond .ne 5, 3) := by decide +kernel
theorem d_Bri_again_9 : decode prog_1_method_29_code 9 = .ok (.iconst (-1), 1) := by decide +kernel
theorem d_Bri_again_10 : decode prog_1_method_29_code 10 = .ok (.ireturn, 1) := by decide +kernel
theorem d_Bri_again_11 : decode prog_1_method_29_code 11 = .ok (.aload_n 0, 1) := by decide +kernel
theorem d_Bri_again_12 : decode prog_1_method_29_code 12 = .ok (.getfield 53, 3) := by decide +kernel
theorem d_Bri_again_15 : decode prog_1_method_29_code 15 = .ok (.iload_n 1, 1) := by decide +kernel
theorem d_Bri_again_16 : decode prog_1_method_29_code 16 = .ok (.baload, 1) := by decide +kernel
theorem d_Bri_again_17 : decode prog_1_method_29_code 17 = .ok (.ifCond .ne 6, 3) := by decide +kernel
theorem d_Bri_again_20 : decode prog_1_method_29_code 20 = .ok (.bipush (-3), 2) := by decide +kernel
theorem d_Bri_again_22 : decode prog_1_method_29_code 22 = .ok (.ireturn, 1) := by decide +kernel
theorem d_Bri_again_23 : decode prog_1_method_29_code 23 = .ok (.aload_n 0, 1) := by decide +kernel
theorem d_Bri_again_24 : decode prog_1_method_29_code 24 = .ok (.getfield 28, 3) := by decide +kernel
theorem d_Bri_again_27 : decode prog_1_method_29_code 27 = .ok (.aload_n 0, 1) := by decide +kernel
theorem d_Bri_again_28 : decode prog_1_method_29_code 28 = .ok (.getfield 49, 3) := by decide +kernel
theorem d_Bri_again_31 : decode prog_1_method_29_code 31 = .ok (.iload_n 1, 1) := by decide +kernel
theorem d_Bri_again_32 : decode prog_1_method_29_code 32 = .ok (.aaload, 1) := by decide +kernel
theorem d_Bri_again_33 : decode prog_1_method_29_code 33 = .ok (.invokevirtual 241, 3) := by decide +kernel
theorem d_Bri_again_36 : decode prog_1_method_29_code 36 = .ok (.aload_n 0, 1) := by decide +kernel
theorem d_Bri_again_37 : decode prog_1_method_29_code 37 = .ok (.getfield 38, 3) := by decide +kernel
theorem d_Bri_again_40 : decode prog_1_method_29_code 40 = .ok (.invokevirtual 83, 3) := by decide +kernel
theorem d_Bri_again_43 : decode prog_1_method_29_code 43 = .ok (.aload_n 0, 1) := by decide +kernel
theorem d_Bri_again_44 : decode prog_1_method_29_code 44 = .ok (.getfield 28, 3) := by decide +kernel
theorem d_Bri_again_47 : decode prog_1_method_29_code 47 = .ok (.getfield 92, 3) := by decide +kernel
theorem d_Bri_again_50 : decode prog_1_method_29_code 50 = .ok (.ireturn, 1) := by decide +kernel
