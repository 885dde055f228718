/-! the constructors -/
theorem n_to {D : va_G} {z : TYs} {own : String} {cc : ByteArray} {nL : Nat} {R : Room} {q0 sz mc ms : Nat} {Post : va_W → Prop} {cells slots pc : Nat} {Lv : List (Nat × Value)} {S : List Value} {ws ws' : va_W} (e : ws = ws') (h : JN D z own cc nL R q0 sz mc ms Post cells slots pc Lv S ws') : JN D z own cc nL R q0 sz mc ms Post cells slots pc Lv S ws := by rw [e]; exact h
theorem di_Act_0 : decode prog_2_method_1_code 0 = .ok (.aload_n 0, 1) := by decide +kernel
theorem di_Act_1 : decode prog_2_method_1_code 1 = .ok (.invokespecial 3, 3) := by decide +kernel
theorem di_Act_4 : decode prog_2_method_1_code 4 = .ok (.aload_n 0, 1) := by decide +kernel
theorem di_Act_5 : decode prog_2_method_1_code 5 = .ok (.bipush 14, 2) := by decide +kernel
theorem di_Act_7 : decode prog_2_method_1_code 7 = .ok (.anewarray 9, 3) := by decide +kernel
theorem di_Act_10 : decode prog_2_method_1_code 10 = .ok (.putfield 11, 3) := by decide +kernel
theorem di_Act_13 : decode prog_2_method_1_code 13 = .ok (.aload_n 0, 1) := by decide +kernel
theorem di_Act_14 : decode prog_2_method_1_code 14 = .ok (.iconst 0, 1) := by decide +kernel
theorem di_Act_15 : decode prog_2_method_1_code 15 = .ok (.putfield 17, 3) := by decide +kernel
theorem di_Act_18 : decode prog_2_method_1_code 18 = .ok (.aload_n 0, 1) := by decide +kernel
theorem di_Act_19 : decode prog_2_method_1_code 19 = .ok (.iconst 0, 1) := by decide +kernel
theorem di_Act_20 : decode prog_2_method_1_code 20 = .ok (.putfield 21, 3) := by decide +kernel
theorem di_Act_23 : decode prog_2_method_1_code 23 = .ok (.iconst 0, 1) := by decide +kernel
theorem di_Act_24 : decode prog_2_method_1_code 24 = .ok (.istore_n 2, 1) := by decide +kernel
theorem di_Act_25 : decode prog_2_method_1_code 25 = .ok (.iload_n 2, 1) := by decide +kernel
theorem di_Act_26 : decode prog_2_method_1_code 26 = .ok (.bipush 14, 2) := by decide +kernel
theorem di_Act_28 : decode prog_2_method_1_code 28 = .ok (.if_icmp .ge 23, 3) := by decide +kernel
theorem di_Act_31 : decode prog_2_method_1_code 31 = .ok (.aload_n 0, 1) := by decide +kernel
theorem di_Act_32 : decode prog_2_method_1_code 32 = .ok (.getfield 11, 3) := by decide +kernel
theorem di_Act_35 : decode prog_2_method_1_code 35 = .ok (.iload_n 2, 1) := by decide +kernel
theorem di_Act_36 : decode prog_2_method_1_code 36 = .ok (.new 9, 3) := by decide +kernel
theorem di_Act_39 : decode prog_2_method_1_code 39 = .ok (.dup, 1) := by decide +kernel
theorem di_Act_40 : decode prog_2_method_1_code 40 = .ok (.aload_n 1, 1) := by decide +kernel
theorem di_Act_41 : decode prog_2_method_1_code 41 = .ok (.invokespecial 24, 3) := by decide +kernel
theorem di_Act_44 : decode prog_2_method_1_code 44 = .ok (.aastore, 1) := by decide +kernel
theorem di_Act_45 : decode prog_2_method_1_code 45 = .ok (.iinc 2 1, 3) := by decide +kernel
theorem di_Act_48 : decode prog_2_method_1_code 48 = .ok (.goto (-23), 3) := by decide +kernel
theorem di_Act_51 : decode prog_2_method_1_code 51 = .ok (.return_, 1) := by decide +kernel
theorem di_Fin_0 : decode prog_3_method_1_code 0 = .ok (.aload_n 0, 1) := by decide +kernel
theorem di_Fin_1 : decode prog_3_method_1_code 1 = .ok (.invokespecial 3, 3) := by decide +kernel
theorem di_Fin_4 : decode prog_3_method_1_code 4 = .ok (.aload_n 0, 1) := by decide +kernel
theorem di_Fin_5 : decode prog_3_method_1_code 5 = .ok (.bipush 6, 2) := by decide +kernel
theorem di_Fin_7 : decode prog_3_method_1_code 7 = .ok (.newarray .int, 2) := by decide +kernel
theorem di_Fin_9 : decode prog_3_method_1_code 9 = .ok (.putfield 9, 3) := by decide +kernel
theorem di_Fin_12 : decode prog_3_method_1_code 12 = .ok (.aload_n 0, 1) := by decide +kernel
theorem di_Fin_13 : decode prog_3_method_1_code 13 = .ok (.bipush 6, 2) := by decide +kernel
theorem di_Fin_15 : decode prog_3_method_1_code 15 = .ok (.newarray .int, 2) := by decide +kernel
theorem di_Fin_17 : decode prog_3_method_1_code 17 = .ok (.putfield 15, 3) := by decide +kernel
theorem di_Fin_20 : decode prog_3_method_1_code 20 = .ok (.aload_n 0, 1) := by decide +kernel
theorem di_Fin_21 : decode prog_3_method_1_code 21 = .ok (.bipush 6, 2) := by decide +kernel
theorem di_Fin_23 : decode prog_3_method_1_code 23 = .ok (.newarray .boolean, 2) := by decide +kernel
theorem di_Fin_25 : decode prog_3_method_1_code 25 = .ok (.putfield 18, 3) := by decide +kernel
theorem di_Fin_28 : decode prog_3_method_1_code 28 = .ok (.aload_n 0, 1) := by decide +kernel
theorem di_Fin_29 : decode prog_3_method_1_code 29 = .ok (.iconst 0, 1) := by decide +kernel
theorem di_Fin_30 : decode prog_3_method_1_code 30 = .ok (.putfield 22, 3) := by decide +kernel
theorem di_Fin_33 : decode prog_3_method_1_code 33 = .ok (.return_, 1) := by decide +kernel
theorem di_Gro_0 : decode prog_4_method_1_code 0 = .ok (.aload_n 0, 1) := by decide +kernel
theorem di_Gro_1 : decode prog_4_method_1_code 1 = .ok (.invokespecial 3, 3) := by decide +kernel
theorem di_Gro_4 : decode prog_4_method_1_code 4 = .ok (.aload_n 0, 1) := by decide +kernel
theorem di_Gro_5 : decode prog_4_method_1_code 5 = .ok (.bipush 6, 2) := by decide +kernel
theorem di_Gro_7 : decode prog_4_method_1_code 7 = .ok (.newarray .int, 2) := by decide +kernel
theorem di_Gro_9 : decode prog_4_method_1_code 9 = .ok (.putfield 9, 3) := by decide +kernel
theorem di_Gro_12 : decode prog_4_method_1_code 12 = .ok (.aload_n 0, 1) := by decide +kernel
theorem di_Gro_13 : decode prog_4_method_1_code 13 = .ok (.iconst 5, 1) := by decide +kernel
theorem di_Gro_14 : decode prog_4_method_1_code 14 = .ok (.newarray .int, 2) := by decide +kernel
theorem di_Gro_16 : decode prog_4_method_1_code 16 = .ok (.putfield 15, 3) := by decide +kernel
theorem di_Gro_19 : decode prog_4_method_1_code 19 = .ok (.aload_n 0, 1) := by decide +kernel
theorem di_Gro_20 : decode prog_4_method_1_code 20 = .ok (.iconst 0, 1) := by decide +kernel
theorem di_Gro_21 : decode prog_4_method_1_code 21 = .ok (.putfield 18, 3) := by decide +kernel
theorem di_Gro_24 : decode prog_4_method_1_code 24 = .ok (.aload_n 0, 1) := by decide +kernel
theorem di_Gro_25 : decode prog_4_method_1_code 25 = .ok (.iconst 0, 1) := by decide +kernel
theorem di_Gro_26 : decode prog_4_method_1_code 26 = .ok (.putfield 22, 3) := by decide +kernel
theorem di_Gro_29 : decode prog_4_method_1_code 29 = .ok (.return_, 1) := by decide +kernel
theorem di_Pan_0 : decode prog_5_method_1_code 0 = .ok (.aload_n 0, 1) := by decide +kernel
theorem di_Pan_1 : decode prog_5_method_1_code 1 = .ok (.invokespecial 3, 3) := by decide +kernel
theorem di_Pan_4 : decode prog_5_method_1_code 4 = .ok (.aload_n 0, 1) := by decide +kernel
theorem di_Pan_5 : decode prog_5_method_1_code 5 = .ok (.bipush 6, 2) := by decide +kernel
theorem di_Pan_7 : decode prog_5_method_1_code 7 = .ok (.newarray .int, 2) := by decide +kernel
theorem di_Pan_9 : decode prog_5_method_1_code 9 = .ok (.putfield 9, 3) := by decide +kernel
theorem di_Pan_12 : decode prog_5_method_1_code 12 = .ok (.aload_n 0, 1) := by decide +kernel
theorem di_Pan_13 : decode prog_5_method_1_code 13 = .ok (.bipush 6, 2) := by decide +kernel
theorem di_Pan_15 : decode prog_5_method_1_code 15 = .ok (.newarray .int, 2) := by decide +kernel
theorem di_Pan_17 : decode prog_5_method_1_code 17 = .ok (.putfield 15, 3) := by decide +kernel
theorem di_Pan_20 : decode prog_5_method_1_code 20 = .ok (.aload_n 0, 1) := by decide +kernel
theorem di_Pan_21 : decode prog_5_method_1_code 21 = .ok (.iconst 0, 1) := by decide +kernel
theorem di_Pan_22 : decode prog_5_method_1_code 22 = .ok (.putfield 18, 3) := by decide +kernel
theorem di_Pan_25 : decode prog_5_method_1_code 25 = .ok (.aload_n 0, 1) := by decide +kernel
theorem di_Pan_26 : decode prog_5_method_1_code 26 = .ok (.iconst 0, 1) := by decide +kernel
theorem di_Pan_27 : decode prog_5_method_1_code 27 = .ok (.putfield 22, 3) := by decide +kernel
theorem di_Pan_30 : decode prog_5_method_1_code 30 = .ok (.aload_n 0, 1) := by decide +kernel
theorem di_Pan_31 : decode prog_5_method_1_code 31 = .ok (.iconst 0, 1) := by decide +kernel
theorem di_Pan_32 : decode prog_5_method_1_code 32 = .ok (.putfield 25, 3) := by decide +kernel
theorem di_Pan_35 : decode prog_5_method_1_code 35 = .ok (.aload_n 0, 1) := by decide +kernel
theorem di_Pan_36 : decode prog_5_method_1_code 36 = .ok (.aload_n 1, 1) := by decide +kernel
theorem di_Pan_37 : decode prog_5_method_1_code 37 = .ok (.putfield 28, 3) := by decide +kernel
theorem di_Pan_40 : decode prog_5_method_1_code 40 = .ok (.return_, 1) := by decide +kernel
theorem di_Txt_0 : decode prog_6_method_1_code 0 = .ok (.aload_n 0, 1) := by decide +kernel
theorem di_Txt_1 : decode prog_6_method_1_code 1 = .ok (.invokespecial 3, 3) := by decide +kernel
theorem di_Txt_4 : decode prog_6_method_1_code 4 = .ok (.aload_n 0, 1) := by decide +kernel
theorem di_Txt_5 : decode prog_6_method_1_code 5 = .ok (.bipush 36, 2) := by decide +kernel
theorem di_Txt_7 : decode prog_6_method_1_code 7 = .ok (.newarray .int, 2) := by decide +kernel
theorem di_Txt_9 : decode prog_6_method_1_code 9 = .ok (.putfield 9, 3) := by decide +kernel
theorem di_Txt_12 : decode prog_6_method_1_code 12 = .ok (.aload_n 0, 1) := by decide +kernel
theorem di_Txt_13 : decode prog_6_method_1_code 13 = .ok (.iconst 0, 1) := by decide +kernel
theorem di_Txt_14 : decode prog_6_method_1_code 14 = .ok (.putfield 15, 3) := by decide +kernel
theorem di_Txt_17 : decode prog_6_method_1_code 17 = .ok (.return_, 1) := by decide +kernel
theorem di_Bri_0 : decode prog_1_method_1_code 0 = .ok (.aload_n 0, 1) := by decide +kernel
theorem di_Bri_1 : decode prog_1_method_1_code 1 = .ok (.invokespecial 1, 3) := by decide +kernel
theorem di_Bri_4 : decode prog_1_method_1_code 4 = .ok (.aload_n 0, 1) := by decide +kernel
theorem di_Bri_5 : decode prog_1_method_1_code 5 = .ok (.new 7, 3) := by decide +kernel
theorem di_Bri_8 : decode prog_1_method_1_code 8 = .ok (.dup, 1) := by decide +kernel
theorem di_Bri_9 : decode prog_1_method_1_code 9 = .ok (.invokespecial 9, 3) := by decide +kernel
theorem di_Bri_12 : decode prog_1_method_1_code 12 = .ok (.putfield 10, 3) := by decide +kernel
theorem di_Bri_15 : decode prog_1_method_1_code 15 = .ok (.aload_n 0, 1) := by decide +kernel
theorem di_Bri_16 : decode prog_1_method_1_code 16 = .ok (.new 16, 3) := by decide +kernel
theorem di_Bri_19 : decode prog_1_method_1_code 19 = .ok (.dup, 1) := by decide +kernel
theorem di_Bri_20 : decode prog_1_method_1_code 20 = .ok (.invokespecial 18, 3) := by decide +kernel
theorem di_Bri_23 : decode prog_1_method_1_code 23 = .ok (.putfield 19, 3) := by decide +kernel
theorem di_Bri_26 : decode prog_1_method_1_code 26 = .ok (.aload_n 0, 1) := by decide +kernel
theorem di_Bri_27 : decode prog_1_method_1_code 27 = .ok (.new 23, 3) := by decide +kernel
theorem di_Bri_30 : decode prog_1_method_1_code 30 = .ok (.dup, 1) := by decide +kernel
theorem di_Bri_31 : decode prog_1_method_1_code 31 = .ok (.aload_n 0, 1) := by decide +kernel
theorem di_Bri_32 : decode prog_1_method_1_code 32 = .ok (.getfield 19, 3) := by decide +kernel
theorem di_Bri_35 : decode prog_1_method_1_code 35 = .ok (.invokespecial 25, 3) := by decide +kernel
theorem di_Bri_38 : decode prog_1_method_1_code 38 = .ok (.putfield 28, 3) := by decide +kernel
theorem di_Bri_41 : decode prog_1_method_1_code 41 = .ok (.aload_n 0, 1) := by decide +kernel
theorem di_Bri_42 : decode prog_1_method_1_code 42 = .ok (.new 23, 3) := by decide +kernel
theorem di_Bri_45 : decode prog_1_method_1_code 45 = .ok (.dup, 1) := by decide +kernel
theorem di_Bri_46 : decode prog_1_method_1_code 46 = .ok (.aload_n 0, 1) := by decide +kernel
theorem di_Bri_47 : decode prog_1_method_1_code 47 = .ok (.getfield 19, 3) := by decide +kernel
theorem di_Bri_50 : decode prog_1_method_1_code 50 = .ok (.invokespecial 25, 3) := by decide +kernel
theorem di_Bri_53 : decode prog_1_method_1_code 53 = .ok (.putfield 32, 3) := by decide +kernel
theorem di_Bri_56 : decode prog_1_method_1_code 56 = .ok (.aload_n 0, 1) := by decide +kernel
theorem di_Bri_57 : decode prog_1_method_1_code 57 = .ok (.new 35, 3) := by decide +kernel
theorem di_Bri_60 : decode prog_1_method_1_code 60 = .ok (.dup, 1) := by decide +kernel
theorem di_Bri_61 : decode prog_1_method_1_code 61 = .ok (.aload_n 0, 1) := by decide +kernel
theorem di_Bri_62 : decode prog_1_method_1_code 62 = .ok (.getfield 19, 3) := by decide +kernel
theorem di_Bri_65 : decode prog_1_method_1_code 65 = .ok (.invokespecial 37, 3) := by decide +kernel
theorem di_Bri_68 : decode prog_1_method_1_code 68 = .ok (.putfield 38, 3) := by decide +kernel
theorem di_Bri_71 : decode prog_1_method_1_code 71 = .ok (.aload_n 0, 1) := by decide +kernel
theorem di_Bri_72 : decode prog_1_method_1_code 72 = .ok (.new 42, 3) := by decide +kernel
theorem di_Bri_75 : decode prog_1_method_1_code 75 = .ok (.dup, 1) := by decide +kernel
theorem di_Bri_76 : decode prog_1_method_1_code 76 = .ok (.invokespecial 44, 3) := by decide +kernel
theorem di_Bri_79 : decode prog_1_method_1_code 79 = .ok (.putfield 45, 3) := by decide +kernel
theorem di_Bri_82 : decode prog_1_method_1_code 82 = .ok (.aload_n 0, 1) := by decide +kernel
theorem di_Bri_83 : decode prog_1_method_1_code 83 = .ok (.iconst 2, 1) := by decide +kernel
theorem di_Bri_84 : decode prog_1_method_1_code 84 = .ok (.anewarray 23, 3) := by decide +kernel
theorem di_Bri_87 : decode prog_1_method_1_code 87 = .ok (.putfield 49, 3) := by decide +kernel
theorem di_Bri_90 : decode prog_1_method_1_code 90 = .ok (.iconst 0, 1) := by decide +kernel
theorem di_Bri_91 : decode prog_1_method_1_code 91 = .ok (.istore_n 1, 1) := by decide +kernel
theorem di_Bri_92 : decode prog_1_method_1_code 92 = .ok (.iload_n 1, 1) := by decide +kernel
theorem di_Bri_93 : decode prog_1_method_1_code 93 = .ok (.iconst 2, 1) := by decide +kernel
theorem di_Bri_94 : decode prog_1_method_1_code 94 = .ok (.if_icmp .ge 26, 3) := by decide +kernel
theorem di_Bri_97 : decode prog_1_method_1_code 97 = .ok (.aload_n 0, 1) := by decide +kernel
theorem di_Bri_98 : decode prog_1_method_1_code 98 = .ok (.getfield 49, 3) := by decide +kernel
theorem di_Bri_101 : decode prog_1_method_1_code 101 = .ok (.iload_n 1, 1) := by decide +kernel
theorem di_Bri_102 : decode prog_1_method_1_code 102 = .ok (.new 23, 3) := by decide +kernel
theorem di_Bri_105 : decode prog_1_method_1_code 105 = .ok (.dup, 1) := by decide +kernel
theorem di_Bri_106 : decode prog_1_method_1_code 106 = .ok (.aload_n 0, 1) := by decide +kernel
theorem di_Bri_107 : decode prog_1_method_1_code 107 = .ok (.getfield 19, 3) := by decide +kernel
theorem di_Bri_110 : decode prog_1_method_1_code 110 = .ok (.invokespecial 25, 3) := by decide +kernel
theorem di_Bri_113 : decode prog_1_method_1_code 113 = .ok (.aastore, 1) := by decide +kernel
theorem di_Bri_114 : decode prog_1_method_1_code 114 = .ok (.iinc 1 1, 3) := by decide +kernel
theorem di_Bri_117 : decode prog_1_method_1_code 117 = .ok (.goto (-25), 3) := by decide +kernel
theorem di_Bri_120 : decode prog_1_method_1_code 120 = .ok (.aload_n 0, 1) := by decide +kernel
theorem di_Bri_121 : decode prog_1_method_1_code 121 = .ok (.iconst 2, 1) := by decide +kernel
theorem di_Bri_122 : decode prog_1_method_1_code 122 = .ok (.newarray .boolean, 2) := by decide +kernel
theorem di_Bri_124 : decode prog_1_method_1_code 124 = .ok (.putfield 53, 3) := by decide +kernel
theorem di_Bri_127 : decode prog_1_method_1_code 127 = .ok (.aload_n 0, 1) := by decide +kernel
theorem di_Bri_128 : decode prog_1_method_1_code 128 = .ok (.bipush 64, 2) := by decide +kernel
theorem di_Bri_130 : decode prog_1_method_1_code 130 = .ok (.newarray .int, 2) := by decide +kernel
theorem di_Bri_132 : decode prog_1_method_1_code 132 = .ok (.putfield 57, 3) := by decide +kernel
theorem di_Bri_135 : decode prog_1_method_1_code 135 = .ok (.aload_n 0, 1) := by decide +kernel
theorem di_Bri_136 : decode prog_1_method_1_code 136 = .ok (.bipush 8, 2) := by decide +kernel
theorem di_Bri_138 : decode prog_1_method_1_code 138 = .ok (.newarray .int, 2) := by decide +kernel
theorem di_Bri_140 : decode prog_1_method_1_code 140 = .ok (.putfield 61, 3) := by decide +kernel
theorem di_Bri_143 : decode prog_1_method_1_code 143 = .ok (.aload_n 0, 1) := by decide +kernel
theorem di_Bri_144 : decode prog_1_method_1_code 144 = .ok (.lconst 0, 1) := by decide +kernel
theorem di_Bri_145 : decode prog_1_method_1_code 145 = .ok (.putfield 64, 3) := by decide +kernel
theorem di_Bri_148 : decode prog_1_method_1_code 148 = .ok (.return_, 1) := by decide +kernel
theorem di_Mod_0 : decode prog_8_method_1_code 0 = .ok (.aload_n 0, 1) := by decide +kernel
theorem di_Mod_1 : decode prog_8_method_1_code 1 = .ok (.invokespecial 1, 3) := by decide +kernel
theorem di_Mod_4 : decode prog_8_method_1_code 4 = .ok (.aload_n 0, 1) := by decide +kernel
theorem di_Mod_5 : decode prog_8_method_1_code 5 = .ok (.bipush 36, 2) := by decide +kernel
theorem di_Mod_7 : decode prog_8_method_1_code 7 = .ok (.newarray .int, 2) := by decide +kernel
theorem di_Mod_9 : decode prog_8_method_1_code 9 = .ok (.putfield 7, 3) := by decide +kernel
theorem di_Mod_12 : decode prog_8_method_1_code 12 = .ok (.aload_n 0, 1) := by decide +kernel
theorem di_Mod_13 : decode prog_8_method_1_code 13 = .ok (.bipush 6, 2) := by decide +kernel
theorem di_Mod_15 : decode prog_8_method_1_code 15 = .ok (.newarray .int, 2) := by decide +kernel
theorem di_Mod_17 : decode prog_8_method_1_code 17 = .ok (.putfield 13, 3) := by decide +kernel
theorem di_Mod_20 : decode prog_8_method_1_code 20 = .ok (.aload_n 0, 1) := by decide +kernel
theorem di_Mod_21 : decode prog_8_method_1_code 21 = .ok (.iconst 5, 1) := by decide +kernel
theorem di_Mod_22 : decode prog_8_method_1_code 22 = .ok (.newarray .int, 2) := by decide +kernel
theorem di_Mod_24 : decode prog_8_method_1_code 24 = .ok (.putfield 16, 3) := by decide +kernel
theorem di_Mod_27 : decode prog_8_method_1_code 27 = .ok (.aload_n 0, 1) := by decide +kernel
theorem di_Mod_28 : decode prog_8_method_1_code 28 = .ok (.bipush 18, 2) := by decide +kernel
theorem di_Mod_30 : decode prog_8_method_1_code 30 = .ok (.newarray .int, 2) := by decide +kernel
theorem di_Mod_32 : decode prog_8_method_1_code 32 = .ok (.putfield 19, 3) := by decide +kernel
theorem di_Mod_35 : decode prog_8_method_1_code 35 = .ok (.aload_n 0, 1) := by decide +kernel
theorem di_Mod_36 : decode prog_8_method_1_code 36 = .ok (.iconst 5, 1) := by decide +kernel
theorem di_Mod_37 : decode prog_8_method_1_code 37 = .ok (.newarray .int, 2) := by decide +kernel
theorem di_Mod_39 : decode prog_8_method_1_code 39 = .ok (.putfield 22, 3) := by decide +kernel
theorem di_Mod_42 : decode prog_8_method_1_code 42 = .ok (.aload_n 0, 1) := by decide +kernel
theorem di_Mod_43 : decode prog_8_method_1_code 43 = .ok (.bipush 15, 2) := by decide +kernel
theorem di_Mod_45 : decode prog_8_method_1_code 45 = .ok (.newarray .int, 2) := by decide +kernel
theorem di_Mod_47 : decode prog_8_method_1_code 47 = .ok (.putfield 25, 3) := by decide +kernel
theorem di_Mod_50 : decode prog_8_method_1_code 50 = .ok (.aload_n 0, 1) := by decide +kernel
theorem di_Mod_51 : decode prog_8_method_1_code 51 = .ok (.bipush 15, 2) := by decide +kernel
theorem di_Mod_53 : decode prog_8_method_1_code 53 = .ok (.newarray .int, 2) := by decide +kernel
theorem di_Mod_55 : decode prog_8_method_1_code 55 = .ok (.putfield 28, 3) := by decide +kernel
theorem di_Mod_58 : decode prog_8_method_1_code 58 = .ok (.aload_n 0, 1) := by decide +kernel
theorem di_Mod_59 : decode prog_8_method_1_code 59 = .ok (.sipush 210, 3) := by decide +kernel
theorem di_Mod_62 : decode prog_8_method_1_code 62 = .ok (.newarray .int, 2) := by decide +kernel
theorem di_Mod_64 : decode prog_8_method_1_code 64 = .ok (.putfield 31, 3) := by decide +kernel
theorem di_Mod_67 : decode prog_8_method_1_code 67 = .ok (.aload_n 0, 1) := by decide +kernel
theorem di_Mod_68 : decode prog_8_method_1_code 68 = .ok (.bipush 30, 2) := by decide +kernel
theorem di_Mod_70 : decode prog_8_method_1_code 70 = .ok (.newarray .int, 2) := by decide +kernel
theorem di_Mod_72 : decode prog_8_method_1_code 72 = .ok (.putfield 34, 3) := by decide +kernel
theorem di_Mod_75 : decode prog_8_method_1_code 75 = .ok (.aload_n 0, 1) := by decide +kernel
theorem di_Mod_76 : decode prog_8_method_1_code 76 = .ok (.iconst 2, 1) := by decide +kernel
theorem di_Mod_77 : decode prog_8_method_1_code 77 = .ok (.newarray .boolean, 2) := by decide +kernel
theorem di_Mod_79 : decode prog_8_method_1_code 79 = .ok (.putfield 37, 3) := by decide +kernel
theorem di_Mod_82 : decode prog_8_method_1_code 82 = .ok (.aload_n 0, 1) := by decide +kernel
theorem di_Mod_83 : decode prog_8_method_1_code 83 = .ok (.bipush 6, 2) := by decide +kernel
theorem di_Mod_85 : decode prog_8_method_1_code 85 = .ok (.newarray .int, 2) := by decide +kernel
theorem di_Mod_87 : decode prog_8_method_1_code 87 = .ok (.putfield 41, 3) := by decide +kernel
theorem di_Mod_90 : decode prog_8_method_1_code 90 = .ok (.aload_n 0, 1) := by decide +kernel
theorem di_Mod_91 : decode prog_8_method_1_code 91 = .ok (.bipush 6, 2) := by decide +kernel
theorem di_Mod_93 : decode prog_8_method_1_code 93 = .ok (.newarray .int, 2) := by decide +kernel
theorem di_Mod_95 : decode prog_8_method_1_code 95 = .ok (.putfield 44, 3) := by decide +kernel
theorem di_Mod_98 : decode prog_8_method_1_code 98 = .ok (.aload_n 0, 1) := by decide +kernel
theorem di_Mod_99 : decode prog_8_method_1_code 99 = .ok (.bipush 6, 2) := by decide +kernel
theorem di_Mod_101 : decode prog_8_method_1_code 101 = .ok (.newarray .int, 2) := by decide +kernel
theorem di_Mod_103 : decode prog_8_method_1_code 103 = .ok (.putfield 47, 3) := by decide +kernel
theorem di_Mod_106 : decode prog_8_method_1_code 106 = .ok (.aload_n 0, 1) := by decide +kernel
theorem di_Mod_107 : decode prog_8_method_1_code 107 = .ok (.bipush 8, 2) := by decide +kernel
theorem di_Mod_109 : decode prog_8_method_1_code 109 = .ok (.newarray .int, 2) := by decide +kernel
theorem di_Mod_111 : decode prog_8_method_1_code 111 = .ok (.putfield 50, 3) := by decide +kernel
theorem di_Mod_114 : decode prog_8_method_1_code 114 = .ok (.aload_n 0, 1) := by decide +kernel
theorem di_Mod_115 : decode prog_8_method_1_code 115 = .ok (.bipush 64, 2) := by decide +kernel
theorem di_Mod_117 : decode prog_8_method_1_code 117 = .ok (.newarray .int, 2) := by decide +kernel
theorem di_Mod_119 : decode prog_8_method_1_code 119 = .ok (.putfield 53, 3) := by decide +kernel
theorem di_Mod_122 : decode prog_8_method_1_code 122 = .ok (.return_, 1) := by decide +kernel
theorem mi_Act : MI y_Act_init prog_2_method_1_code 3 1 := ⟨gw_t 94 (by decide +kernel) (by decide +kernel), gw_t 5 (by decide +kernel) (by decide +kernel), gw_t 93 (by decide +kernel) (by decide +kernel), rfl, by decide +kernel⟩
theorem nc_Act : NC cAct tAct 3 0 yAct := ⟨rfl, uw_Act, ut_Act, gw_t 91 (by decide +kernel) (by decide +kernel), gw_t 5 (by decide +kernel) (by decide +kernel)⟩
theorem mi_Fin : MI y_Fin_init prog_3_method_1_code 1 0 := ⟨gw_t 114 (by decide +kernel) (by decide +kernel), gw_t 6 (by decide +kernel) (by decide +kernel), gw_t 113 (by decide +kernel) (by decide +kernel), rfl, by decide +kernel⟩
theorem nc_Fin : NC cFin tFin 4 1 yFin := ⟨rfl, uw_Fin, ut_Fin, gw_t 111 (by decide +kernel) (by decide +kernel), gw_t 6 (by decide +kernel) (by decide +kernel)⟩
theorem mi_Gro : MI y_Gro_init prog_4_method_1_code 1 0 := ⟨gw_t 37 (by decide +kernel) (by decide +kernel), gw_t 3 (by decide +kernel) (by decide +kernel), gw_t 36 (by decide +kernel) (by decide +kernel), rfl, by decide +kernel⟩
theorem nc_Gro : NC cGro tGro 4 2 yGro := ⟨rfl, uw_Gro, ut_Gro, gw_t 34 (by decide +kernel) (by decide +kernel), gw_t 3 (by decide +kernel) (by decide +kernel)⟩
theorem mi_Pan : MI y_Pan_init prog_5_method_1_code 2 1 := ⟨gw_t 62 (by decide +kernel) (by decide +kernel), gw_t 4 (by decide +kernel) (by decide +kernel), gw_t 61 (by decide +kernel) (by decide +kernel), rfl, by decide +kernel⟩
theorem nc_Pan : NC cPan tPan 6 3 yPan := ⟨rfl, uw_Pan, ut_Pan, gw_t 59 (by decide +kernel) (by decide +kernel), gw_t 4 (by decide +kernel) (by decide +kernel)⟩
theorem mi_Txt : MI y_Txt_init prog_6_method_1_code 1 0 := ⟨gw_t 22 (by decide +kernel) (by decide +kernel), gw_t 2 (by decide +kernel) (by decide +kernel), gw_t 21 (by decide +kernel) (by decide +kernel), rfl, by decide +kernel⟩
theorem nc_Txt : NC cTxt tTxt 2 4 yTxt := ⟨rfl, uw_Txt, ut_Txt, gw_t 19 (by decide +kernel) (by decide +kernel), gw_t 2 (by decide +kernel) (by decide +kernel)⟩
theorem mi_Bri : MI y_Bri_init prog_1_method_1_code 2 0 := ⟨gw_t 14 (by decide +kernel) (by decide +kernel), gw_t 1 (by decide +kernel) (by decide +kernel), gw_t 13 (by decide +kernel) (by decide +kernel), rfl, by decide +kernel⟩
theorem nc_Bri : NC cBri tBri 11 5 yBri := ⟨rfl, uw_Bri, ut_Bri, gw_t 11 (by decide +kernel) (by decide +kernel), gw_t 1 (by decide +kernel) (by decide +kernel)⟩
theorem mi_Mod : MI y_Mod_init prog_8_method_1_code 1 0 := ⟨gw_t 538 (by decide +kernel) (by decide +kernel), gw_t 7 (by decide +kernel) (by decide +kernel), gw_t 537 (by decide +kernel) (by decide +kernel), rfl, by decide +kernel⟩
theorem nc_Mod : NC cMod tMod 31 6 yMod := ⟨rfl, uw_Mod, ut_Mod, gw_t 535 (by decide +kernel) (by decide +kernel), gw_t 7 (by decide +kernel) (by decide +kernel)⟩
theorem ff_Act_11 : FF "BrinePans$Acts" 11 0 0 (.array (.object "BrinePans$Pans")) := ⟨fk_Act_11, cAct, tAct, 3, rfl, gw_t 99 (by decide +kernel) (by decide +kernel), rfl, rfl, by decide +kernel⟩
theorem ff_Fin_9 : FF "BrinePans$Finds" 9 1 0 (.array .int) := ⟨fk_Fin_9, cFin, tFin, 4, rfl, gw_t 116 (by decide +kernel) (by decide +kernel), rfl, rfl, by decide +kernel⟩
theorem ff_Fin_15 : FF "BrinePans$Finds" 15 1 1 (.array .int) := ⟨fk_Fin_15, cFin, tFin, 4, rfl, gw_t 117 (by decide +kernel) (by decide +kernel), rfl, rfl, by decide +kernel⟩
theorem ff_Fin_18 : FF "BrinePans$Finds" 18 1 2 (.array .boolean) := ⟨fk_Fin_18, cFin, tFin, 4, rfl, gw_t 118 (by decide +kernel) (by decide +kernel), rfl, rfl, by decide +kernel⟩
theorem ff_Gro_9 : FF "BrinePans$Ground" 9 2 0 (.array .int) := ⟨fk_Gro_9, cGro, tGro, 4, rfl, gw_t 39 (by decide +kernel) (by decide +kernel), rfl, rfl, by decide +kernel⟩
theorem ff_Gro_15 : FF "BrinePans$Ground" 15 2 1 (.array .int) := ⟨fk_Gro_15, cGro, tGro, 4, rfl, gw_t 42 (by decide +kernel) (by decide +kernel), rfl, rfl, by decide +kernel⟩
theorem ff_Pan_9 : FF "BrinePans$Pans" 9 3 1 (.array .int) := ⟨fk_Pan_9, cPan, tPan, 6, rfl, gw_t 65 (by decide +kernel) (by decide +kernel), rfl, rfl, by decide +kernel⟩
theorem ff_Pan_15 : FF "BrinePans$Pans" 15 3 2 (.array .int) := ⟨fk_Pan_15, cPan, tPan, 6, rfl, gw_t 68 (by decide +kernel) (by decide +kernel), rfl, rfl, by decide +kernel⟩
theorem ff_Pan_28 : FF "BrinePans$Pans" 28 3 0 (.object "BrinePans$Ground") := ⟨fk_Pan_28, cPan, tPan, 6, rfl, gw_t 64 (by decide +kernel) (by decide +kernel), rfl, rfl, by decide +kernel⟩
theorem ff_Txt_9 : FF "BrinePans$Text" 9 4 0 (.array .int) := ⟨fk_Txt_9, cTxt, tTxt, 2, rfl, gw_t 24 (by decide +kernel) (by decide +kernel), rfl, rfl, by decide +kernel⟩
theorem ff_Bri_10 : FF "BrinePans" 10 5 0 (.object "BrinePans$Text") := ⟨fk_Bri_10, cBri, tBri, 11, rfl, gw_t 131 (by decide +kernel) (by decide +kernel), rfl, rfl, by decide +kernel⟩
theorem ff_Bri_19 : FF "BrinePans" 19 5 1 (.object "BrinePans$Ground") := ⟨fk_Bri_19, cBri, tBri, 11, rfl, gw_t 132 (by decide +kernel) (by decide +kernel), rfl, rfl, by decide +kernel⟩
theorem ff_Bri_28 : FF "BrinePans" 28 5 2 (.object "BrinePans$Pans") := ⟨fk_Bri_28, cBri, tBri, 11, rfl, gw_t 133 (by decide +kernel) (by decide +kernel), rfl, rfl, by decide +kernel⟩
theorem ff_Bri_32 : FF "BrinePans" 32 5 3 (.object "BrinePans$Pans") := ⟨fk_Bri_32, cBri, tBri, 11, rfl, gw_t 134 (by decide +kernel) (by decide +kernel), rfl, rfl, by decide +kernel⟩
theorem ff_Bri_38 : FF "BrinePans" 38 5 4 (.object "BrinePans$Acts") := ⟨fk_Bri_38, cBri, tBri, 11, rfl, gw_t 135 (by decide +kernel) (by decide +kernel), rfl, rfl, by decide +kernel⟩
theorem ff_Bri_45 : FF "BrinePans" 45 5 5 (.object "BrinePans$Finds") := ⟨fk_Bri_45, cBri, tBri, 11, rfl, gw_t 136 (by decide +kernel) (by decide +kernel), rfl, rfl, by decide +kernel⟩
theorem ff_Bri_49 : FF "BrinePans" 49 5 6 (.array (.object "BrinePans$Pans")) := ⟨fk_Bri_49, cBri, tBri, 11, rfl, gw_t 137 (by decide +kernel) (by decide +kernel), rfl, rfl, by decide +kernel⟩
theorem ff_Bri_53 : FF "BrinePans" 53 5 7 (.array .boolean) := ⟨fk_Bri_53, cBri, tBri, 11, rfl, gw_t 138 (by decide +kernel) (by decide +kernel), rfl, rfl, by decide +kernel⟩
theorem ff_Bri_57 : FF "BrinePans" 57 5 8 (.array .int) := ⟨fk_Bri_57, cBri, tBri, 11, rfl, gw_t 139 (by decide +kernel) (by decide +kernel), rfl, rfl, by decide +kernel⟩
theorem ff_Bri_61 : FF "BrinePans" 61 5 9 (.array .int) := ⟨fk_Bri_61, cBri, tBri, 11, rfl, gw_t 140 (by decide +kernel) (by decide +kernel), rfl, rfl, by decide +kernel⟩
theorem ff_Mod_7 : FF "BrinePansModel" 7 6 1 (.array .int) := ⟨fk_Mod_7, cMod, tMod, 31, rfl, gw_t 541 (by decide +kernel) (by decide +kernel), rfl, rfl, by decide +kernel⟩
theorem ff_Mod_13 : FF "BrinePansModel" 13 6 5 (.array .int) := ⟨fk_Mod_13, cMod, tMod, 31, rfl, gw_t 545 (by decide +kernel) (by decide +kernel), rfl, rfl, by decide +kernel⟩
theorem ff_Mod_16 : FF "BrinePansModel" 16 6 7 (.array .int) := ⟨fk_Mod_16, cMod, tMod, 31, rfl, gw_t 547 (by decide +kernel) (by decide +kernel), rfl, rfl, by decide +kernel⟩
theorem ff_Mod_19 : FF "BrinePansModel" 19 6 9 (.array .int) := ⟨fk_Mod_19, cMod, tMod, 31, rfl, gw_t 549 (by decide +kernel) (by decide +kernel), rfl, rfl, by decide +kernel⟩
theorem ff_Mod_22 : FF "BrinePansModel" 22 6 11 (.array .int) := ⟨fk_Mod_22, cMod, tMod, 31, rfl, gw_t 551 (by decide +kernel) (by decide +kernel), rfl, rfl, by decide +kernel⟩
theorem ff_Mod_25 : FF "BrinePansModel" 25 6 12 (.array .int) := ⟨fk_Mod_25, cMod, tMod, 31, rfl, gw_t 552 (by decide +kernel) (by decide +kernel), rfl, rfl, by decide +kernel⟩
theorem ff_Mod_28 : FF "BrinePansModel" 28 6 13 (.array .int) := ⟨fk_Mod_28, cMod, tMod, 31, rfl, gw_t 553 (by decide +kernel) (by decide +kernel), rfl, rfl, by decide +kernel⟩
theorem ff_Mod_31 : FF "BrinePansModel" 31 6 14 (.array .int) := ⟨fk_Mod_31, cMod, tMod, 31, rfl, gw_t 554 (by decide +kernel) (by decide +kernel), rfl, rfl, by decide +kernel⟩
theorem ff_Mod_34 : FF "BrinePansModel" 34 6 16 (.array .int) := ⟨fk_Mod_34, cMod, tMod, 31, rfl, gw_t 556 (by decide +kernel) (by decide +kernel), rfl, rfl, by decide +kernel⟩
theorem ff_Mod_37 : FF "BrinePansModel" 37 6 17 (.array .boolean) := ⟨fk_Mod_37, cMod, tMod, 31, rfl, gw_t 557 (by decide +kernel) (by decide +kernel), rfl, rfl, by decide +kernel⟩
theorem ff_Mod_41 : FF "BrinePansModel" 41 6 19 (.array .int) := ⟨fk_Mod_41, cMod, tMod, 31, rfl, gw_t 559 (by decide +kernel) (by decide +kernel), rfl, rfl, by decide +kernel⟩
theorem ff_Mod_44 : FF "BrinePansModel" 44 6 20 (.array .int) := ⟨fk_Mod_44, cMod, tMod, 31, rfl, gw_t 560 (by decide +kernel) (by decide +kernel), rfl, rfl, by decide +kernel⟩
theorem ff_Mod_47 : FF "BrinePansModel" 47 6 21 (.array .int) := ⟨fk_Mod_47, cMod, tMod, 31, rfl, gw_t 561 (by decide +kernel) (by decide +kernel), rfl, rfl, by decide +kernel⟩
theorem ff_Mod_50 : FF "BrinePansModel" 50 6 29 (.array .int) := ⟨fk_Mod_50, cMod, tMod, 31, rfl, gw_t 569 (by decide +kernel) (by decide +kernel), rfl, rfl, by decide +kernel⟩
theorem ff_Mod_53 : FF "BrinePansModel" 53 6 30 (.array .int) := ⟨fk_Mod_53, cMod, tMod, 31, rfl, gw_t 570 (by decide +kernel) (by decide +kernel), rfl, rfl, by decide +kernel⟩
def txL (z : TYs) (q a : Nat) : va_W := [(q, .inr (4, [.ref a, .int 0])), (a, .inl (z.1, 36, .inl (fun _ => 0)))]
def grL (z : TYs) (q k s : Nat) : va_W := [(q, .inr (2, [.ref k, .ref s, .int 0, .int 0])), (k, .inl (z.1, 6, .inl (fun _ => 0))), (s, .inl (z.1, 5, .inl (fun _ => 0)))]
def paL (z : TYs) (g q w s : Nat) : va_W := [(q, .inr (3, [.ref g, .ref w, .ref s, .int 0, .int 0, .int 0])), (w, .inl (z.1, 6, .inl (fun _ => 0))), (s, .inl (z.1, 6, .inl (fun _ => 0)))]
def fiL (z : TYs) (q w c i : Nat) : va_W := [(q, .inr (1, [.ref w, .ref c, .ref i, .int 0])), (w, .inl (z.1, 6, .inl (fun _ => 0))), (c, .inl (z.1, 6, .inl (fun _ => 0))), (i, .inl (z.2.1, 6, .inl (fun _ => 0)))]
abbrev rm_Txt : Room := { frames := 1, cells := 1, slots := 36, locals := 12 }
theorem ci_Txt (D : va_G) (z : TYs) (q : Nat) : CI D z y_Txt_init prog_6_method_1_code 1 rm_Txt 1 36 [.ref q] q (.inr (4, [.null, .int 0])) (fun ws => ∃ a, ws = txL z q a) := by
  refine ci_of (Lv := [(0, .ref q)]) (by decide) rfl rfl (Nat.le_of_ble_eq_true rfl) (fun sz => ?_)
  show JN D z "BrinePans$Text" _ _ _ _ _ _ _ _ _ _ _ _ _ _
  refine n_aload di_Txt_0 rfl (List.mem_of_getElem? (i := 0) rfl) ?_
  refine n_obj di_Txt_1 (gw_t 23 (by decide +kernel) (by decide +kernel)) ⟨(Nat.le_of_ble_eq_true rfl), (Nat.le_of_ble_eq_true rfl)⟩ ?_
  refine n_aload di_Txt_4 rfl (List.mem_of_getElem? (i := 0) rfl) ?_
  refine n_bipush (v := 36) di_Txt_5 (by decide) ?_
  refine n_newI (N := 36) di_Txt_7 (by decide) (by decide) (Nat.le_of_ble_eq_true rfl) (Nat.le_of_ble_eq_true rfl) (Nat.le_of_ble_eq_true rfl) (fun a1 => ?_)
  refine n_to (ws' := [(q, .inr (4, [.null, .int 0])), (a1, .inl (z.1, 36, .inl (fun _ => 0)))]) rfl ?_
  refine n_putF 0 di_Txt_9 ff_Txt_9 rfl rfl rfl (Nat.le_of_ble_eq_true rfl) ?_
  refine n_to (ws' := [(q, .inr (4, [.ref a1, .int 0])), (a1, .inl (z.1, 36, .inl (fun _ => 0)))]) rfl ?_
  refine n_aload di_Txt_12 rfl (List.mem_of_getElem? (i := 0) rfl) ?_
  refine n_iconst (v := 0) di_Txt_13 (by decide) ?_
  refine n_put 0 di_Txt_14 fp_Txt_15 rfl rfl rfl (Nat.le_of_ble_eq_true rfl) ?_
  refine n_to (ws' := [(q, .inr (4, [.ref a1, .int 0])), (a1, .inl (z.1, 36, .inl (fun _ => 0)))]) rfl ?_
  exact n_ret di_Txt_17 ⟨a1, rfl⟩
abbrev rm_Gro : Room := { frames := 1, cells := 2, slots := 11, locals := 12 }
theorem ci_Gro (D : va_G) (z : TYs) (q : Nat) : CI D z y_Gro_init prog_4_method_1_code 1 rm_Gro 2 11 [.ref q] q (.inr (2, [.null, .null, .int 0, .int 0])) (fun ws => ∃ a b, ws = grL z q a b) := by
  refine ci_of (Lv := [(0, .ref q)]) (by decide) rfl rfl (Nat.le_of_ble_eq_true rfl) (fun sz => ?_)
  show JN D z "BrinePans$Ground" _ _ _ _ _ _ _ _ _ _ _ _ _ _
  refine n_aload di_Gro_0 rfl (List.mem_of_getElem? (i := 0) rfl) ?_
  refine n_obj di_Gro_1 (gw_t 38 (by decide +kernel) (by decide +kernel)) ⟨(Nat.le_of_ble_eq_true rfl), (Nat.le_of_ble_eq_true rfl)⟩ ?_
  refine n_aload di_Gro_4 rfl (List.mem_of_getElem? (i := 0) rfl) ?_
  refine n_bipush (v := 6) di_Gro_5 (by decide) ?_
  refine n_newI (N := 6) di_Gro_7 (by decide) (by decide) (Nat.le_of_ble_eq_true rfl) (Nat.le_of_ble_eq_true rfl) (Nat.le_of_ble_eq_true rfl) (fun a1 => ?_)
  refine n_to (ws' := [(q, .inr (2, [.null, .null, .int 0, .int 0])), (a1, .inl (z.1, 6, .inl (fun _ => 0)))]) rfl ?_
  refine n_putF 0 di_Gro_9 ff_Gro_9 rfl rfl rfl (Nat.le_of_ble_eq_true rfl) ?_
  refine n_to (ws' := [(q, .inr (2, [.ref a1, .null, .int 0, .int 0])), (a1, .inl (z.1, 6, .inl (fun _ => 0)))]) rfl ?_
  refine n_aload di_Gro_12 rfl (List.mem_of_getElem? (i := 0) rfl) ?_
  refine n_iconst (v := 5) di_Gro_13 (by decide) ?_
  refine n_newI (N := 5) di_Gro_14 (by decide) (by decide) (Nat.le_of_ble_eq_true rfl) (Nat.le_of_ble_eq_true rfl) (Nat.le_of_ble_eq_true rfl) (fun a2 => ?_)
  refine n_to (ws' := [(q, .inr (2, [.ref a1, .null, .int 0, .int 0])), (a1, .inl (z.1, 6, .inl (fun _ => 0))), (a2, .inl (z.1, 5, .inl (fun _ => 0)))]) rfl ?_
  refine n_putF 0 di_Gro_16 ff_Gro_15 rfl rfl rfl (Nat.le_of_ble_eq_true rfl) ?_
  refine n_to (ws' := [(q, .inr (2, [.ref a1, .ref a2, .int 0, .int 0])), (a1, .inl (z.1, 6, .inl (fun _ => 0))), (a2, .inl (z.1, 5, .inl (fun _ => 0)))]) rfl ?_
  refine n_aload di_Gro_19 rfl (List.mem_of_getElem? (i := 0) rfl) ?_
  refine n_iconst (v := 0) di_Gro_20 (by decide) ?_
  refine n_put 0 di_Gro_21 fp_Gro_18 rfl rfl rfl (Nat.le_of_ble_eq_true rfl) ?_
  refine n_to (ws' := [(q, .inr (2, [.ref a1, .ref a2, .int 0, .int 0])), (a1, .inl (z.1, 6, .inl (fun _ => 0))), (a2, .inl (z.1, 5, .inl (fun _ => 0)))]) rfl ?_
  refine n_aload di_Gro_24 rfl (List.mem_of_getElem? (i := 0) rfl) ?_
  refine n_iconst (v := 0) di_Gro_25 (by decide) ?_
  refine n_put 0 di_Gro_26 fp_Gro_22 rfl rfl rfl (Nat.le_of_ble_eq_true rfl) ?_
  refine n_to (ws' := [(q, .inr (2, [.ref a1, .ref a2, .int 0, .int 0])), (a1, .inl (z.1, 6, .inl (fun _ => 0))), (a2, .inl (z.1, 5, .inl (fun _ => 0)))]) rfl ?_
  exact n_ret di_Gro_29 ⟨a1, a2, rfl⟩
abbrev rm_Pan : Room := { frames := 1, cells := 2, slots := 12, locals := 12 }
theorem ci_Pan (D : va_G) (z : TYs) (q g : Nat) : CI D z y_Pan_init prog_5_method_1_code 2 rm_Pan 2 12 [.ref q, .ref g] q (.inr (3, [.null, .null, .null, .int 0, .int 0, .int 0])) (fun ws => ∃ a b, ws = paL z g q a b) := by
  refine ci_of (Lv := [(0, .ref q), (1, .ref g)]) (by decide) rfl rfl (Nat.le_of_ble_eq_true rfl) (fun sz => ?_)
  show JN D z "BrinePans$Pans" _ _ _ _ _ _ _ _ _ _ _ _ _ _
  refine n_aload di_Pan_0 rfl (List.mem_of_getElem? (i := 0) rfl) ?_
  refine n_obj di_Pan_1 (gw_t 63 (by decide +kernel) (by decide +kernel)) ⟨(Nat.le_of_ble_eq_true rfl), (Nat.le_of_ble_eq_true rfl)⟩ ?_
  refine n_aload di_Pan_4 rfl (List.mem_of_getElem? (i := 0) rfl) ?_
  refine n_bipush (v := 6) di_Pan_5 (by decide) ?_
  refine n_newI (N := 6) di_Pan_7 (by decide) (by decide) (Nat.le_of_ble_eq_true rfl) (Nat.le_of_ble_eq_true rfl) (Nat.le_of_ble_eq_true rfl) (fun a1 => ?_)
  refine n_to (ws' := [(q, .inr (3, [.null, .null, .null, .int 0, .int 0, .int 0])), (a1, .inl (z.1, 6, .inl (fun _ => 0)))]) rfl ?_
  refine n_putF 0 di_Pan_9 ff_Pan_9 rfl rfl rfl (Nat.le_of_ble_eq_true rfl) ?_
  refine n_to (ws' := [(q, .inr (3, [.null, .ref a1, .null, .int 0, .int 0, .int 0])), (a1, .inl (z.1, 6, .inl (fun _ => 0)))]) rfl ?_
  refine n_aload di_Pan_12 rfl (List.mem_of_getElem? (i := 0) rfl) ?_
  refine n_bipush (v := 6) di_Pan_13 (by decide) ?_
  refine n_newI (N := 6) di_Pan_15 (by decide) (by decide) (Nat.le_of_ble_eq_true rfl) (Nat.le_of_ble_eq_true rfl) (Nat.le_of_ble_eq_true rfl) (fun a2 => ?_)
  refine n_to (ws' := [(q, .inr (3, [.null, .ref a1, .null, .int 0, .int 0, .int 0])), (a1, .inl (z.1, 6, .inl (fun _ => 0))), (a2, .inl (z.1, 6, .inl (fun _ => 0)))]) rfl ?_
  refine n_putF 0 di_Pan_17 ff_Pan_15 rfl rfl rfl (Nat.le_of_ble_eq_true rfl) ?_
  refine n_to (ws' := [(q, .inr (3, [.null, .ref a1, .ref a2, .int 0, .int 0, .int 0])), (a1, .inl (z.1, 6, .inl (fun _ => 0))), (a2, .inl (z.1, 6, .inl (fun _ => 0)))]) rfl ?_
  refine n_aload di_Pan_20 rfl (List.mem_of_getElem? (i := 0) rfl) ?_
  refine n_iconst (v := 0) di_Pan_21 (by decide) ?_
  refine n_put 0 di_Pan_22 fp_Pan_18 rfl rfl rfl (Nat.le_of_ble_eq_true rfl) ?_
  refine n_to (ws' := [(q, .inr (3, [.null, .ref a1, .ref a2, .int 0, .int 0, .int 0])), (a1, .inl (z.1, 6, .inl (fun _ => 0))), (a2, .inl (z.1, 6, .inl (fun _ => 0)))]) rfl ?_
  refine n_aload di_Pan_25 rfl (List.mem_of_getElem? (i := 0) rfl) ?_
  refine n_iconst (v := 0) di_Pan_26 (by decide) ?_
  refine n_put 0 di_Pan_27 fp_Pan_22 rfl rfl rfl (Nat.le_of_ble_eq_true rfl) ?_
  refine n_to (ws' := [(q, .inr (3, [.null, .ref a1, .ref a2, .int 0, .int 0, .int 0])), (a1, .inl (z.1, 6, .inl (fun _ => 0))), (a2, .inl (z.1, 6, .inl (fun _ => 0)))]) rfl ?_
  refine n_aload di_Pan_30 rfl (List.mem_of_getElem? (i := 0) rfl) ?_
  refine n_iconst (v := 0) di_Pan_31 (by decide) ?_
  refine n_put 0 di_Pan_32 fp_Pan_25 rfl rfl rfl (Nat.le_of_ble_eq_true rfl) ?_
  refine n_to (ws' := [(q, .inr (3, [.null, .ref a1, .ref a2, .int 0, .int 0, .int 0])), (a1, .inl (z.1, 6, .inl (fun _ => 0))), (a2, .inl (z.1, 6, .inl (fun _ => 0)))]) rfl ?_
  refine n_aload di_Pan_35 rfl (List.mem_of_getElem? (i := 0) rfl) ?_
  refine n_aload di_Pan_36 rfl (List.mem_of_getElem? (i := 1) rfl) ?_
  refine n_putF 0 di_Pan_37 ff_Pan_28 rfl rfl rfl (Nat.le_of_ble_eq_true rfl) ?_
  refine n_to (ws' := [(q, .inr (3, [.ref g, .ref a1, .ref a2, .int 0, .int 0, .int 0])), (a1, .inl (z.1, 6, .inl (fun _ => 0))), (a2, .inl (z.1, 6, .inl (fun _ => 0)))]) rfl ?_
  exact n_ret di_Pan_40 ⟨a1, a2, rfl⟩
abbrev rm_Fin : Room := { frames := 1, cells := 3, slots := 18, locals := 12 }
theorem ci_Fin (D : va_G) (z : TYs) (q : Nat) : CI D z y_Fin_init prog_3_method_1_code 1 rm_Fin 3 18 [.ref q] q (.inr (1, [.null, .null, .null, .int 0])) (fun ws => ∃ a b c, ws = fiL z q a b c) := by
  refine ci_of (Lv := [(0, .ref q)]) (by decide) rfl rfl (Nat.le_of_ble_eq_true rfl) (fun sz => ?_)
  show JN D z "BrinePans$Finds" _ _ _ _ _ _ _ _ _ _ _ _ _ _
  refine n_aload di_Fin_0 rfl (List.mem_of_getElem? (i := 0) rfl) ?_
  refine n_obj di_Fin_1 (gw_t 115 (by decide +kernel) (by decide +kernel)) ⟨(Nat.le_of_ble_eq_true rfl), (Nat.le_of_ble_eq_true rfl)⟩ ?_
  refine n_aload di_Fin_4 rfl (List.mem_of_getElem? (i := 0) rfl) ?_
  refine n_bipush (v := 6) di_Fin_5 (by decide) ?_
  refine n_newI (N := 6) di_Fin_7 (by decide) (by decide) (Nat.le_of_ble_eq_true rfl) (Nat.le_of_ble_eq_true rfl) (Nat.le_of_ble_eq_true rfl) (fun a1 => ?_)
  refine n_to (ws' := [(q, .inr (1, [.null, .null, .null, .int 0])), (a1, .inl (z.1, 6, .inl (fun _ => 0)))]) rfl ?_
  refine n_putF 0 di_Fin_9 ff_Fin_9 rfl rfl rfl (Nat.le_of_ble_eq_true rfl) ?_
  refine n_to (ws' := [(q, .inr (1, [.ref a1, .null, .null, .int 0])), (a1, .inl (z.1, 6, .inl (fun _ => 0)))]) rfl ?_
  refine n_aload di_Fin_12 rfl (List.mem_of_getElem? (i := 0) rfl) ?_
  refine n_bipush (v := 6) di_Fin_13 (by decide) ?_
  refine n_newI (N := 6) di_Fin_15 (by decide) (by decide) (Nat.le_of_ble_eq_true rfl) (Nat.le_of_ble_eq_true rfl) (Nat.le_of_ble_eq_true rfl) (fun a2 => ?_)
  refine n_to (ws' := [(q, .inr (1, [.ref a1, .null, .null, .int 0])), (a1, .inl (z.1, 6, .inl (fun _ => 0))), (a2, .inl (z.1, 6, .inl (fun _ => 0)))]) rfl ?_
  refine n_putF 0 di_Fin_17 ff_Fin_15 rfl rfl rfl (Nat.le_of_ble_eq_true rfl) ?_
  refine n_to (ws' := [(q, .inr (1, [.ref a1, .ref a2, .null, .int 0])), (a1, .inl (z.1, 6, .inl (fun _ => 0))), (a2, .inl (z.1, 6, .inl (fun _ => 0)))]) rfl ?_
  refine n_aload di_Fin_20 rfl (List.mem_of_getElem? (i := 0) rfl) ?_
  refine n_bipush (v := 6) di_Fin_21 (by decide) ?_
  refine n_newZ (N := 6) di_Fin_23 (by decide) (by decide) (Nat.le_of_ble_eq_true rfl) (Nat.le_of_ble_eq_true rfl) (Nat.le_of_ble_eq_true rfl) (fun a3 => ?_)
  refine n_to (ws' := [(q, .inr (1, [.ref a1, .ref a2, .null, .int 0])), (a1, .inl (z.1, 6, .inl (fun _ => 0))), (a2, .inl (z.1, 6, .inl (fun _ => 0))), (a3, .inl (z.2.1, 6, .inl (fun _ => 0)))]) rfl ?_
  refine n_putF 0 di_Fin_25 ff_Fin_18 rfl rfl rfl (Nat.le_of_ble_eq_true rfl) ?_
  refine n_to (ws' := [(q, .inr (1, [.ref a1, .ref a2, .ref a3, .int 0])), (a1, .inl (z.1, 6, .inl (fun _ => 0))), (a2, .inl (z.1, 6, .inl (fun _ => 0))), (a3, .inl (z.2.1, 6, .inl (fun _ => 0)))]) rfl ?_
  refine n_aload di_Fin_28 rfl (List.mem_of_getElem? (i := 0) rfl) ?_
  refine n_iconst (v := 0) di_Fin_29 (by decide) ?_
  refine n_put 0 di_Fin_30 fp_Fin_22 rfl rfl rfl (Nat.le_of_ble_eq_true rfl) ?_
  refine n_to (ws' := [(q, .inr (1, [.ref a1, .ref a2, .ref a3, .int 0])), (a1, .inl (z.1, 6, .inl (fun _ => 0))), (a2, .inl (z.1, 6, .inl (fun _ => 0))), (a3, .inl (z.2.1, 6, .inl (fun _ => 0)))]) rfl ?_
  exact n_ret di_Fin_33 ⟨a1, a2, a3, rfl⟩
def moL (z : TYs) (q a1 a2 a3 a4 a5 a6 a7 a8 a9 a10 a11 a12 a13 a14 a15 : Nat) : va_W := [(q, .inr (6, [.int 0, .ref a1, .int 0, .int 0, .int 0, .ref a2, .int 0, .ref a3, .int 0, .ref a4, .int 0, .ref a5, .ref a6, .ref a7, .ref a8, .int 0, .ref a9, .ref a10, .int 0, .ref a11, .ref a12, .ref a13, .long 0, .int 0, .int 0, .int 0, .int 0, .int 0, .int 0, .ref a14, .ref a15])), (a1, .inl (z.1, 36, .inl (fun _ => 0))), (a2, .inl (z.1, 6, .inl (fun _ => 0))), (a3, .inl (z.1, 5, .inl (fun _ => 0))), (a4, .inl (z.1, 18, .inl (fun _ => 0))), (a5, .inl (z.1, 5, .inl (fun _ => 0))), (a6, .inl (z.1, 15, .inl (fun _ => 0))), (a7, .inl (z.1, 15, .inl (fun _ => 0))), (a8, .inl (z.1, 210, .inl (fun _ => 0))), (a9, .inl (z.1, 30, .inl (fun _ => 0))), (a10, .inl (z.2.1, 2, .inl (fun _ => 0))), (a11, .inl (z.1, 6, .inl (fun _ => 0))), (a12, .inl (z.1, 6, .inl (fun _ => 0))), (a13, .inl (z.1, 6, .inl (fun _ => 0))), (a14, .inl (z.1, 8, .inl (fun _ => 0))), (a15, .inl (z.1, 64, .inl (fun _ => 0)))]
abbrev rm_Mod : Room := { frames := 1, cells := 15, slots := 432, locals := 12 }
theorem ci_Mod (D : va_G) (z : TYs) (q : Nat) : CI D z y_Mod_init prog_8_method_1_code 1 rm_Mod 15 432 [.ref q] q (.inr (6, [.int 0, .null, .int 0, .int 0, .int 0, .null, .int 0, .null, .int 0, .null, .int 0, .null, .null, .null, .null, .int 0, .null, .null, .int 0, .null, .null, .null, .long 0, .int 0, .int 0, .int 0, .int 0, .int 0, .int 0, .null, .null])) (fun ws => ∃ a1 a2 a3 a4 a5 a6 a7 a8 a9 a10 a11 a12 a13 a14 a15, ws = moL z q a1 a2 a3 a4 a5 a6 a7 a8 a9 a10 a11 a12 a13 a14 a15) := by
  refine ci_of (Lv := [(0, .ref q)]) (by decide) rfl rfl (Nat.le_of_ble_eq_true rfl) (fun sz => ?_)
  show JN D z "BrinePansModel" _ _ _ _ _ _ _ _ _ _ _ _ _ _
  refine n_aload di_Mod_0 rfl (List.mem_of_getElem? (i := 0) rfl) ?_
  refine n_obj di_Mod_1 (gw_t 539 (by decide +kernel) (by decide +kernel)) ⟨(Nat.le_of_ble_eq_true rfl), (Nat.le_of_ble_eq_true rfl)⟩ ?_
  refine n_aload di_Mod_4 rfl (List.mem_of_getElem? (i := 0) rfl) ?_
  refine n_bipush (v := 36) di_Mod_5 (by decide) ?_
  refine n_newI (N := 36) di_Mod_7 (by decide) (by decide) (Nat.le_of_ble_eq_true rfl) (Nat.le_of_ble_eq_true rfl) (Nat.le_of_ble_eq_true rfl) (fun a1 => ?_)
  refine n_to (ws' := [(q, .inr (6, [.int 0, .null, .int 0, .int 0, .int 0, .null, .int 0, .null, .int 0, .null, .int 0, .null, .null, .null, .null, .int 0, .null, .null, .int 0, .null, .null, .null, .long 0, .int 0, .int 0, .int 0, .int 0, .int 0, .int 0, .null, .null])), (a1, .inl (z.1, 36, .inl (fun _ => 0)))]) rfl ?_
  refine n_putF 0 di_Mod_9 ff_Mod_7 rfl rfl rfl (Nat.le_of_ble_eq_true rfl) ?_
  refine n_to (ws' := [(q, .inr (6, [.int 0, .ref a1, .int 0, .int 0, .int 0, .null, .int 0, .null, .int 0, .null, .int 0, .null, .null, .null, .null, .int 0, .null, .null, .int 0, .null, .null, .null, .long 0, .int 0, .int 0, .int 0, .int 0, .int 0, .int 0, .null, .null])), (a1, .inl (z.1, 36, .inl (fun _ => 0)))]) rfl ?_
  refine n_aload di_Mod_12 rfl (List.mem_of_getElem? (i := 0) rfl) ?_
  refine n_bipush (v := 6) di_Mod_13 (by decide) ?_
  refine n_newI (N := 6) di_Mod_15 (by decide) (by decide) (Nat.le_of_ble_eq_true rfl) (Nat.le_of_ble_eq_true rfl) (Nat.le_of_ble_eq_true rfl) (fun a2 => ?_)
  refine n_to (ws' := [(q, .inr (6, [.int 0, .ref a1, .int 0, .int 0, .int 0, .null, .int 0, .null, .int 0, .null, .int 0, .null, .null, .null, .null, .int 0, .null, .null, .int 0, .null, .null, .null, .long 0, .int 0, .int 0, .int 0, .int 0, .int 0, .int 0, .null, .null])), (a1, .inl (z.1, 36, .inl (fun _ => 0))), (a2, .inl (z.1, 6, .inl (fun _ => 0)))]) rfl ?_
  refine n_putF 0 di_Mod_17 ff_Mod_13 rfl rfl rfl (Nat.le_of_ble_eq_true rfl) ?_
  refine n_to (ws' := [(q, .inr (6, [.int 0, .ref a1, .int 0, .int 0, .int 0, .ref a2, .int 0, .null, .int 0, .null, .int 0, .null, .null, .null, .null, .int 0, .null, .null, .int 0, .null, .null, .null, .long 0, .int 0, .int 0, .int 0, .int 0, .int 0, .int 0, .null, .null])), (a1, .inl (z.1, 36, .inl (fun _ => 0))), (a2, .inl (z.1, 6, .inl (fun _ => 0)))]) rfl ?_
  refine n_aload di_Mod_20 rfl (List.mem_of_getElem? (i := 0) rfl) ?_
  refine n_iconst (v := 5) di_Mod_21 (by decide) ?_
  refine n_newI (N := 5) di_Mod_22 (by decide) (by decide) (Nat.le_of_ble_eq_true rfl) (Nat.le_of_ble_eq_true rfl) (Nat.le_of_ble_eq_true rfl) (fun a3 => ?_)
  refine n_to (ws' := [(q, .inr (6, [.int 0, .ref a1, .int 0, .int 0, .int 0, .ref a2, .int 0, .null, .int 0, .null, .int 0, .null, .null, .null, .null, .int 0, .null, .null, .int 0, .null, .null, .null, .long 0, .int 0, .int 0, .int 0, .int 0, .int 0, .int 0, .null, .null])), (a1, .inl (z.1, 36, .inl (fun _ => 0))), (a2, .inl (z.1, 6, .inl (fun _ => 0))), (a3, .inl (z.1, 5, .inl (fun _ => 0)))]) rfl ?_
  refine n_putF 0 di_Mod_24 ff_Mod_16 rfl rfl rfl (Nat.le_of_ble_eq_true rfl) ?_
  refine n_to (ws' := [(q, .inr (6, [.int 0, .ref a1, .int 0, .int 0, .int 0, .ref a2, .int 0, .ref a3, .int 0, .null, .int 0, .null, .null, .null, .null, .int 0, .null, .null, .int 0, .null, .null, .null, .long 0, .int 0, .int 0, .int 0, .int 0, .int 0, .int 0, .null, .null])), (a1, .inl (z.1, 36, .inl (fun _ => 0))), (a2, .inl (z.1, 6, .inl (fun _ => 0))), (a3, .inl (z.1, 5, .inl (fun _ => 0)))]) rfl ?_
  refine n_aload di_Mod_27 rfl (List.mem_of_getElem? (i := 0) rfl) ?_
  refine n_bipush (v := 18) di_Mod_28 (by decide) ?_
  refine n_newI (N := 18) di_Mod_30 (by decide) (by decide) (Nat.le_of_ble_eq_true rfl) (Nat.le_of_ble_eq_true rfl) (Nat.le_of_ble_eq_true rfl) (fun a4 => ?_)
  refine n_to (ws' := [(q, .inr (6, [.int 0, .ref a1, .int 0, .int 0, .int 0, .ref a2, .int 0, .ref a3, .int 0, .null, .int 0, .null, .null, .null, .null, .int 0, .null, .null, .int 0, .null, .null, .null, .long 0, .int 0, .int 0, .int 0, .int 0, .int 0, .int 0, .null, .null])), (a1, .inl (z.1, 36, .inl (fun _ => 0))), (a2, .inl (z.1, 6, .inl (fun _ => 0))), (a3, .inl (z.1, 5, .inl (fun _ => 0))), (a4, .inl (z.1, 18, .inl (fun _ => 0)))]) rfl ?_
  refine n_putF 0 di_Mod_32 ff_Mod_19 rfl rfl rfl (Nat.le_of_ble_eq_true rfl) ?_
  refine n_to (ws' := [(q, .inr (6, [.int 0, .ref a1, .int 0, .int 0, .int 0, .ref a2, .int 0, .ref a3, .int 0, .ref a4, .int 0, .null, .null, .null, .null, .int 0, .null, .null, .int 0, .null, .null, .null, .long 0, .int 0, .int 0, .int 0, .int 0, .int 0, .int 0, .null, .null])), (a1, .inl (z.1, 36, .inl (fun _ => 0))), (a2, .inl (z.1, 6, .inl (fun _ => 0))), (a3, .inl (z.1, 5, .inl (fun _ => 0))), (a4, .inl (z.1, 18, .inl (fun _ => 0)))]) rfl ?_
  refine n_aload di_Mod_35 rfl (List.mem_of_getElem? (i := 0) rfl) ?_
  refine n_iconst (v := 5) di_Mod_36 (by decide) ?_
  refine n_newI (N := 5) di_Mod_37 (by decide) (by decide) (Nat.le_of_ble_eq_true rfl) (Nat.le_of_ble_eq_true rfl) (Nat.le_of_ble_eq_true rfl) (fun a5 => ?_)
  refine n_to (ws' := [(q, .inr (6, [.int 0, .ref a1, .int 0, .int 0, .int 0, .ref a2, .int 0, .ref a3, .int 0, .ref a4, .int 0, .null, .null, .null, .null, .int 0, .null, .null, .int 0, .null, .null, .null, .long 0, .int 0, .int 0, .int 0, .int 0, .int 0, .int 0, .null, .null])), (a1, .inl (z.1, 36, .inl (fun _ => 0))), (a2, .inl (z.1, 6, .inl (fun _ => 0))), (a3, .inl (z.1, 5, .inl (fun _ => 0))), (a4, .inl (z.1, 18, .inl (fun _ => 0))), (a5, .inl (z.1, 5, .inl (fun _ => 0)))]) rfl ?_
  refine n_putF 0 di_Mod_39 ff_Mod_22 rfl rfl rfl (Nat.le_of_ble_eq_true rfl) ?_
  refine n_to (ws' := [(q, .inr (6, [.int 0, .ref a1, .int 0, .int 0, .int 0, .ref a2, .int 0, .ref a3, .int 0, .ref a4, .int 0, .ref a5, .null, .null, .null, .int 0, .null, .null, .int 0, .null, .null, .null, .long 0, .int 0, .int 0, .int 0, .int 0, .int 0, .int 0, .null, .null])), (a1, .inl (z.1, 36, .inl (fun _ => 0))), (a2, .inl (z.1, 6, .inl (fun _ => 0))), (a3, .inl (z.1, 5, .inl (fun _ => 0))), (a4, .inl (z.1, 18, .inl (fun _ => 0))), (a5, .inl (z.1, 5, .inl (fun _ => 0)))]) rfl ?_
  refine n_aload di_Mod_42 rfl (List.mem_of_getElem? (i := 0) rfl) ?_
  refine n_bipush (v := 15) di_Mod_43 (by decide) ?_
  refine n_newI (N := 15) di_Mod_45 (by decide) (by decide) (Nat.le_of_ble_eq_true rfl) (Nat.le_of_ble_eq_true rfl) (Nat.le_of_ble_eq_true rfl) (fun a6 => ?_)
  refine n_to (ws' := [(q, .inr (6, [.int 0, .ref a1, .int 0, .int 0, .int 0, .ref a2, .int 0, .ref a3, .int 0, .ref a4, .int 0, .ref a5, .null, .null, .null, .int 0, .null, .null, .int 0, .null, .null, .null, .long 0, .int 0, .int 0, .int 0, .int 0, .int 0, .int 0, .null, .null])), (a1, .inl (z.1, 36, .inl (fun _ => 0))), (a2, .inl (z.1, 6, .inl (fun _ => 0))), (a3, .inl (z.1, 5, .inl (fun _ => 0))), (a4, .inl (z.1, 18, .inl (fun _ => 0))), (a5, .inl (z.1, 5, .inl (fun _ => 0))), (a6, .inl (z.1, 15, .inl (fun _ => 0)))]) rfl ?_
  refine n_putF 0 di_Mod_47 ff_Mod_25 rfl rfl rfl (Nat.le_of_ble_eq_true rfl) ?_
  refine n_to (ws' := [(q, .inr (6, [.int 0, .ref a1, .int 0, .int 0, .int 0, .ref a2, .int 0, .ref a3, .int 0, .ref a4, .int 0, .ref a5, .ref a6, .null, .null, .int 0, .null, .null, .int 0, .null, .null, .null, .long 0, .int 0, .int 0, .int 0, .int 0, .int 0, .int 0, .null, .null])), (a1, .inl (z.1, 36, .inl (fun _ => 0))), (a2, .inl (z.1, 6, .inl (fun _ => 0))), (a3, .inl (z.1, 5, .inl (fun _ => 0))), (a4, .inl (z.1, 18, .inl (fun _ => 0))), (a5, .inl (z.1, 5, .inl (fun _ => 0))), (a6, .inl (z.1, 15, .inl (fun _ => 0)))]) rfl ?_
  refine n_aload di_Mod_50 rfl (List.mem_of_getElem? (i := 0) rfl) ?_
  refine n_bipush (v := 15) di_Mod_51 (by decide) ?_
  refine n_newI (N := 15) di_Mod_53 (by decide) (by decide) (Nat.le_of_ble_eq_true rfl) (Nat.le_of_ble_eq_true rfl) (Nat.le_of_ble_eq_true rfl) (fun a7 => ?_)
  refine n_to (ws' := [(q, .inr (6, [.int 0, .ref a1, .int 0, .int 0, .int 0, .ref a2, .int 0, .ref a3, .int 0, .ref a4, .int 0, .ref a5, .ref a6, .null, .null, .int 0, .null, .null, .int 0, .null, .null, .null, .long 0, .int 0, .int 0, .int 0, .int 0, .int 0, .int 0, .null, .null])), (a1, .inl (z.1, 36, .inl (fun _ => 0))), (a2, .inl (z.1, 6, .inl (fun _ => 0))), (a3, .inl (z.1, 5, .inl (fun _ => 0))), (a4, .inl (z.1, 18, .inl (fun _ => 0))), (a5, .inl (z.1, 5, .inl (fun _ => 0))), (a6, .inl (z.1, 15, .inl (fun _ => 0))), (a7, .inl (z.1, 15, .inl (fun _ => 0)))]) rfl ?_
  refine n_putF 0 di_Mod_55 ff_Mod_28 rfl rfl rfl (Nat.le_of_ble_eq_true rfl) ?_
  refine n_to (ws' := [(q, .inr (6, [.int 0, .ref a1, .int 0, .int 0, .int 0, .ref a2, .int 0, .ref a3, .int 0, .ref a4, .int 0, .ref a5, .ref a6, .ref a7, .null, .int 0, .null, .null, .int 0, .null, .null, .null, .long 0, .int 0, .int 0, .int 0, .int 0, .int 0, .int 0, .null, .null])), (a1, .inl (z.1, 36, .inl (fun _ => 0))), (a2, .inl (z.1, 6, .inl (fun _ => 0))), (a3, .inl (z.1, 5, .inl (fun _ => 0))), (a4, .inl (z.1, 18, .inl (fun _ => 0))), (a5, .inl (z.1, 5, .inl (fun _ => 0))), (a6, .inl (z.1, 15, .inl (fun _ => 0))), (a7, .inl (z.1, 15, .inl (fun _ => 0)))]) rfl ?_
  refine n_aload di_Mod_58 rfl (List.mem_of_getElem? (i := 0) rfl) ?_
  refine n_sipush (v := 210) di_Mod_59 (by decide) ?_
  refine n_newI (N := 210) di_Mod_62 (by decide) (by decide) (Nat.le_of_ble_eq_true rfl) (Nat.le_of_ble_eq_true rfl) (Nat.le_of_ble_eq_true rfl) (fun a8 => ?_)
  refine n_to (ws' := [(q, .inr (6, [.int 0, .ref a1, .int 0, .int 0, .int 0, .ref a2, .int 0, .ref a3, .int 0, .ref a4, .int 0, .ref a5, .ref a6, .ref a7, .null, .int 0, .null, .null, .int 0, .null, .null, .null, .long 0, .int 0, .int 0, .int 0, .int 0, .int 0, .int 0, .null, .null])), (a1, .inl (z.1, 36, .inl (fun _ => 0))), (a2, .inl (z.1, 6, .inl (fun _ => 0))), (a3, .inl (z.1, 5, .inl (fun _ => 0))), (a4, .inl (z.1, 18, .inl (fun _ => 0))), (a5, .inl (z.1, 5, .inl (fun _ => 0))), (a6, .inl (z.1, 15, .inl (fun _ => 0))), (a7, .inl (z.1, 15, .inl (fun _ => 0))), (a8, .inl (z.1, 210, .inl (fun _ => 0)))]) rfl ?_
  refine n_putF 0 di_Mod_64 ff_Mod_31 rfl rfl rfl (Nat.le_of_ble_eq_true rfl) ?_
  refine n_to (ws' := [(q, .inr (6, [.int 0, .ref a1, .int 0, .int 0, .int 0, .ref a2, .int 0, .ref a3, .int 0, .ref a4, .int 0, .ref a5, .ref a6, .ref a7, .ref a8, .int 0, .null, .null, .int 0, .null, .null, .null, .long 0, .int 0, .int 0, .int 0, .int 0, .int 0, .int 0, .null, .null])), (a1, .inl (z.1, 36, .inl (fun _ => 0))), (a2, .inl (z.1, 6, .inl (fun _ => 0))), (a3, .inl (z.1, 5, .inl (fun _ => 0))), (a4, .inl (z.1, 18, .inl (fun _ => 0))), (a5, .inl (z.1, 5, .inl (fun _ => 0))), (a6, .inl (z.1, 15, .inl (fun _ => 0))), (a7, .inl (z.1, 15, .inl (fun _ => 0))), (a8, .inl (z.1, 210, .inl (fun _ => 0)))]) rfl ?_
  refine n_aload di_Mod_67 rfl (List.mem_of_getElem? (i := 0) rfl) ?_
  refine n_bipush (v := 30) di_Mod_68 (by decide) ?_
  refine n_newI (N := 30) di_Mod_70 (by decide) (by decide) (Nat.le_of_ble_eq_true rfl) (Nat.le_of_ble_eq_true rfl) (Nat.le_of_ble_eq_true rfl) (fun a9 => ?_)
  refine n_to (ws' := [(q, .inr (6, [.int 0, .ref a1, .int 0, .int 0, .int 0, .ref a2, .int 0, .ref a3, .int 0, .ref a4, .int 0, .ref a5, .ref a6, .ref a7, .ref a8, .int 0, .null, .null, .int 0, .null, .null, .null, .long 0, .int 0, .int 0, .int 0, .int 0, .int 0, .int 0, .null, .null])), (a1, .inl (z.1, 36, .inl (fun _ => 0))), (a2, .inl (z.1, 6, .inl (fun _ => 0))), (a3, .inl (z.1, 5, .inl (fun _ => 0))), (a4, .inl (z.1, 18, .inl (fun _ => 0))), (a5, .inl (z.1, 5, .inl (fun _ => 0))), (a6, .inl (z.1, 15, .inl (fun _ => 0))), (a7, .inl (z.1, 15, .inl (fun _ => 0))), (a8, .inl (z.1, 210, .inl (fun _ => 0))), (a9, .inl (z.1, 30, .inl (fun _ => 0)))]) rfl ?_
  refine n_putF 0 di_Mod_72 ff_Mod_34 rfl rfl rfl (Nat.le_of_ble_eq_true rfl) ?_
  refine n_to (ws' := [(q, .inr (6, [.int 0, .ref a1, .int 0, .int 0, .int 0, .ref a2, .int 0, .ref a3, .int 0, .ref a4, .int 0, .ref a5, .ref a6, .ref a7, .ref a8, .int 0, .ref a9, .null, .int 0, .null, .null, .null, .long 0, .int 0, .int 0, .int 0, .int 0, .int 0, .int 0, .null, .null])), (a1, .inl (z.1, 36, .inl (fun _ => 0))), (a2, .inl (z.1, 6, .inl (fun _ => 0))), (a3, .inl (z.1, 5, .inl (fun _ => 0))), (a4, .inl (z.1, 18, .inl (fun _ => 0))), (a5, .inl (z.1, 5, .inl (fun _ => 0))), (a6, .inl (z.1, 15, .inl (fun _ => 0))), (a7, .inl (z.1, 15, .inl (fun _ => 0))), (a8, .inl (z.1, 210, .inl (fun _ => 0))), (a9, .inl (z.1, 30, .inl (fun _ => 0)))]) rfl ?_
  refine n_aload di_Mod_75 rfl (List.mem_of_getElem? (i := 0) rfl) ?_
  refine n_iconst (v := 2) di_Mod_76 (by decide) ?_
  refine n_newZ (N := 2) di_Mod_77 (by decide) (by decide) (Nat.le_of_ble_eq_true rfl) (Nat.le_of_ble_eq_true rfl) (Nat.le_of_ble_eq_true rfl) (fun a10 => ?_)
  refine n_to (ws' := [(q, .inr (6, [.int 0, .ref a1, .int 0, .int 0, .int 0, .ref a2, .int 0, .ref a3, .int 0, .ref a4, .int 0, .ref a5, .ref a6, .ref a7, .ref a8, .int 0, .ref a9, .null, .int 0, .null, .null, .null, .long 0, .int 0, .int 0, .int 0, .int 0, .int 0, .int 0, .null, .null])), (a1, .inl (z.1, 36, .inl (fun _ => 0))), (a2, .inl (z.1, 6, .inl (fun _ => 0))), (a3, .inl (z.1, 5, .inl (fun _ => 0))), (a4, .inl (z.1, 18, .inl (fun _ => 0))), (a5, .inl (z.1, 5, .inl (fun _ => 0))), (a6, .inl (z.1, 15, .inl (fun _ => 0))), (a7, .inl (z.1, 15, .inl (fun _ => 0))), (a8, .inl (z.1, 210, .inl (fun _ => 0))), (a9, .inl (z.1, 30, .inl (fun _ => 0))), (a10, .inl (z.2.1, 2, .inl (fun _ => 0)))]) rfl ?_
  refine n_putF 0 di_Mod_79 ff_Mod_37 rfl rfl rfl (Nat.le_of_ble_eq_true rfl) ?_
  refine n_to (ws' := [(q, .inr (6, [.int 0, .ref a1, .int 0, .int 0, .int 0, .ref a2, .int 0, .ref a3, .int 0, .ref a4, .int 0, .ref a5, .ref a6, .ref a7, .ref a8, .int 0, .ref a9, .ref a10, .int 0, .null, .null, .null, .long 0, .int 0, .int 0, .int 0, .int 0, .int 0, .int 0, .null, .null])), (a1, .inl (z.1, 36, .inl (fun _ => 0))), (a2, .inl (z.1, 6, .inl (fun _ => 0))), (a3, .inl (z.1, 5, .inl (fun _ => 0))), (a4, .inl (z.1, 18, .inl (fun _ => 0))), (a5, .inl (z.1, 5, .inl (fun _ => 0))), (a6, .inl (z.1, 15, .inl (fun _ => 0))), (a7, .inl (z.1, 15, .inl (fun _ => 0))), (a8, .inl (z.1, 210, .inl (fun _ => 0))), (a9, .inl (z.1, 30, .inl (fun _ => 0))), (a10, .inl (z.2.1, 2, .inl (fun _ => 0)))]) rfl ?_
  refine n_aload di_Mod_82 rfl (List.mem_of_getElem? (i := 0) rfl) ?_
  refine n_bipush (v := 6) di_Mod_83 (by decide) ?_
  refine n_newI (N := 6) di_Mod_85 (by decide) (by decide) (Nat.le_of_ble_eq_true rfl) (Nat.le_of_ble_eq_true rfl) (Nat.le_of_ble_eq_true rfl) (fun a11 => ?_)
  refine n_to (ws' := [(q, .inr (6, [.int 0, .ref a1, .int 0, .int 0, .int 0, .ref a2, .int 0, .ref a3, .int 0, .ref a4, .int 0, .ref a5, .ref a6, .ref a7, .ref a8, .int 0, .ref a9, .ref a10, .int 0, .null, .null, .null, .long 0, .int 0, .int 0, .int 0, .int 0, .int 0, .int 0, .null, .null])), (a1, .inl (z.1, 36, .inl (fun _ => 0))), (a2, .inl (z.1, 6, .inl (fun _ => 0))), (a3, .inl (z.1, 5, .inl (fun _ => 0))), (a4, .inl (z.1, 18, .inl (fun _ => 0))), (a5, .inl (z.1, 5, .inl (fun _ => 0))), (a6, .inl (z.1, 15, .inl (fun _ => 0))), (a7, .inl (z.1, 15, .inl (fun _ => 0))), (a8, .inl (z.1, 210, .inl (fun _ => 0))), (a9, .inl (z.1, 30, .inl (fun _ => 0))), (a10, .inl (z.2.1, 2, .inl (fun _ => 0))), (a11, .inl (z.1, 6, .inl (fun _ => 0)))]) rfl ?_
  refine n_putF 0 di_Mod_87 ff_Mod_41 rfl rfl rfl (Nat.le_of_ble_eq_true rfl) ?_
  refine n_to (ws' := [(q, .inr (6, [.int 0, .ref a1, .int 0, .int 0, .int 0, .ref a2, .int 0, .ref a3, .int 0, .ref a4, .int 0, .ref a5, .ref a6, .ref a7, .ref a8, .int 0, .ref a9, .ref a10, .int 0, .ref a11, .null, .null, .long 0, .int 0, .int 0, .int 0, .int 0, .int 0, .int 0, .null, .null])), (a1, .inl (z.1, 36, .inl (fun _ => 0))), (a2, .inl (z.1, 6, .inl (fun _ => 0))), (a3, .inl (z.1, 5, .inl (fun _ => 0))), (a4, .inl (z.1, 18, .inl (fun _ => 0))), (a5, .inl (z.1, 5, .inl (fun _ => 0))), (a6, .inl (z.1, 15, .inl (fun _ => 0))), (a7, .inl (z.1, 15, .inl (fun _ => 0))), (a8, .inl (z.1, 210, .inl (fun _ => 0))), (a9, .inl (z.1, 30, .inl (fun _ => 0))), (a10, .inl (z.2.1, 2, .inl (fun _ => 0))), (a11, .inl (z.1, 6, .inl (fun _ => 0)))]) rfl ?_
  refine n_aload di_Mod_90 rfl (List.mem_of_getElem? (i := 0) rfl) ?_
  refine n_bipush (v := 6) di_Mod_91 (by decide) ?_
  refine n_newI (N := 6) di_Mod_93 (by decide) (by decide) (Nat.le_of_ble_eq_true rfl) (Nat.le_of_ble_eq_true rfl) (Nat.le_of_ble_eq_true rfl) (fun a12 => ?_)
  refine n_to (ws' := [(q, .inr (6, [.int 0, .ref a1, .int 0, .int 0, .int 0, .ref a2, .int 0, .ref a3, .int 0, .ref a4, .int 0, .ref a5, .ref a6, .ref a7, .ref a8, .int 0, .ref a9, .ref a10, .int 0, .ref a11, .null, .null, .long 0, .int 0, .int 0, .int 0, .int 0, .int 0, .int 0, .null, .null])), (a1, .inl (z.1, 36, .inl (fun _ => 0))), (a2, .inl (z.1, 6, .inl (fun _ => 0))), (a3, .inl (z.1, 5, .inl (fun _ => 0))), (a4, .inl (z.1, 18, .inl (fun _ => 0))), (a5, .inl (z.1, 5, .inl (fun _ => 0))), (a6, .inl (z.1, 15, .inl (fun _ => 0))), (a7, .inl (z.1, 15, .inl (fun _ => 0))), (a8, .inl (z.1, 210, .inl (fun _ => 0))), (a9, .inl (z.1, 30, .inl (fun _ => 0))), (a10, .inl (z.2.1, 2, .inl (fun _ => 0))), (a11, .inl (z.1, 6, .inl (fun _ => 0))), (a12, .inl (z.1, 6, .inl (fun _ => 0)))]) rfl ?_
  refine n_putF 0 di_Mod_95 ff_Mod_44 rfl rfl rfl (Nat.le_of_ble_eq_true rfl) ?_
  refine n_to (ws' := [(q, .inr (6, [.int 0, .ref a1, .int 0, .int 0, .int 0, .ref a2, .int 0, .ref a3, .int 0, .ref a4, .int 0, .ref a5, .ref a6, .ref a7, .ref a8, .int 0, .ref a9, .ref a10, .int 0, .ref a11, .ref a12, .null, .long 0, .int 0, .int 0, .int 0, .int 0, .int 0, .int 0, .null, .null])), (a1, .inl (z.1, 36, .inl (fun _ => 0))), (a2, .inl (z.1, 6, .inl (fun _ => 0))), (a3, .inl (z.1, 5, .inl (fun _ => 0))), (a4, .inl (z.1, 18, .inl (fun _ => 0))), (a5, .inl (z.1, 5, .inl (fun _ => 0))), (a6, .inl (z.1, 15, .inl (fun _ => 0))), (a7, .inl (z.1, 15, .inl (fun _ => 0))), (a8, .inl (z.1, 210, .inl (fun _ => 0))), (a9, .inl (z.1, 30, .inl (fun _ => 0))), (a10, .inl (z.2.1, 2, .inl (fun _ => 0))), (a11, .inl (z.1, 6, .inl (fun _ => 0))), (a12, .inl (z.1, 6, .inl (fun _ => 0)))]) rfl ?_
  refine n_aload di_Mod_98 rfl (List.mem_of_getElem? (i := 0) rfl) ?_
  refine n_bipush (v := 6) di_Mod_99 (by decide) ?_
  refine n_newI (N := 6) di_Mod_101 (by decide) (by decide) (Nat.le_of_ble_eq_true rfl) (Nat.le_of_ble_eq_true rfl) (Nat.le_of_ble_eq_true rfl) (fun a13 => ?_)
  refine n_to (ws' := [(q, .inr (6, [.int 0, .ref a1, .int 0, .int 0, .int 0, .ref a2, .int 0, .ref a3, .int 0, .ref a4, .int 0, .ref a5, .ref a6, .ref a7, .ref a8, .int 0, .ref a9, .ref a10, .int 0, .ref a11, .ref a12, .null, .long 0, .int 0, .int 0, .int 0, .int 0, .int 0, .int 0, .null, .null])), (a1, .inl (z.1, 36, .inl (fun _ => 0))), (a2, .inl (z.1, 6, .inl (fun _ => 0))), (a3, .inl (z.1, 5, .inl (fun _ => 0))), (a4, .inl (z.1, 18, .inl (fun _ => 0))), (a5, .inl (z.1, 5, .inl (fun _ => 0))), (a6, .inl (z.1, 15, .inl (fun _ => 0))), (a7, .inl (z.1, 15, .inl (fun _ => 0))), (a8, .inl (z.1, 210, .inl (fun _ => 0))), (a9, .inl (z.1, 30, .inl (fun _ => 0))), (a10, .inl (z.2.1, 2, .inl (fun _ => 0))), (a11, .inl (z.1, 6, .inl (fun _ => 0))), (a12, .inl (z.1, 6, .inl (fun _ => 0))), (a13, .inl (z.1, 6, .inl (fun _ => 0)))]) rfl ?_
  refine n_putF 0 di_Mod_103 ff_Mod_47 rfl rfl rfl (Nat.le_of_ble_eq_true rfl) ?_
  refine n_to (ws' := [(q, .inr (6, [.int 0, .ref a1, .int 0, .int 0, .int 0, .ref a2, .int 0, .ref a3, .int 0, .ref a4, .int 0, .ref a5, .ref a6, .ref a7, .ref a8, .int 0, .ref a9, .ref a10, .int 0, .ref a11, .ref a12, .ref a13, .long 0, .int 0, .int 0, .int 0, .int 0, .int 0, .int 0, .null, .null])), (a1, .inl (z.1, 36, .inl (fun _ => 0))), (a2, .inl (z.1, 6, .inl (fun _ => 0))), (a3, .inl (z.1, 5, .inl (fun _ => 0))), (a4, .inl (z.1, 18, .inl (fun _ => 0))), (a5, .inl (z.1, 5, .inl (fun _ => 0))), (a6, .inl (z.1, 15, .inl (fun _ => 0))), (a7, .inl (z.1, 15, .inl (fun _ => 0))), (a8, .inl (z.1, 210, .inl (fun _ => 0))), (a9, .inl (z.1, 30, .inl (fun _ => 0))), (a10, .inl (z.2.1, 2, .inl (fun _ => 0))), (a11, .inl (z.1, 6, .inl (fun _ => 0))), (a12, .inl (z.1, 6, .inl (fun _ => 0))), (a13, .inl (z.1, 6, .inl (fun _ => 0)))]) rfl ?_
  refine n_aload di_Mod_106 rfl (List.mem_of_getElem? (i := 0) rfl) ?_
  refine n_bipush (v := 8) di_Mod_107 (by decide) ?_
  refine n_newI (N := 8) di_Mod_109 (by decide) (by decide) (Nat.le_of_ble_eq_true rfl) (Nat.le_of_ble_eq_true rfl) (Nat.le_of_ble_eq_true rfl) (fun a14 => ?_)
  refine n_to (ws' := [(q, .inr (6, [.int 0, .ref a1, .int 0, .int 0, .int 0, .ref a2, .int 0, .ref a3, .int 0, .ref a4, .int 0, .ref a5, .ref a6, .ref a7, .ref a8, .int 0, .ref a9, .ref a10, .int 0, .ref a11, .ref a12, .ref a13, .long 0, .int 0, .int 0, .int 0, .int 0, .int 0, .int 0, .null, .null])), (a1, .inl (z.1, 36, .inl (fun _ => 0))), (a2, .inl (z.1, 6, .inl (fun _ => 0))), (a3, .inl (z.1, 5, .inl (fun _ => 0))), (a4, .inl (z.1, 18, .inl (fun _ => 0))), (a5, .inl (z.1, 5, .inl (fun _ => 0))), (a6, .inl (z.1, 15, .inl (fun _ => 0))), (a7, .inl (z.1, 15, .inl (fun _ => 0))), (a8, .inl (z.1, 210, .inl (fun _ => 0))), (a9, .inl (z.1, 30, .inl (fun _ => 0))), (a10, .inl (z.2.1, 2, .inl (fun _ => 0))), (a11, .inl (z.1, 6, .inl (fun _ => 0))), (a12, .inl (z.1, 6, .inl (fun _ => 0))), (a13, .inl (z.1, 6, .inl (fun _ => 0))), (a14, .inl (z.1, 8, .inl (fun _ => 0)))]) rfl ?_
  refine n_putF 0 di_Mod_111 ff_Mod_50 rfl rfl rfl (Nat.le_of_ble_eq_true rfl) ?_
  refine n_to (ws' := [(q, .inr (6, [.int 0, .ref a1, .int 0, .int 0, .int 0, .ref a2, .int 0, .ref a3, .int 0, .ref a4, .int 0, .ref a5, .ref a6, .ref a7, .ref a8, .int 0, .ref a9, .ref a10, .int 0, .ref a11, .ref a12, .ref a13, .long 0, .int 0, .int 0, .int 0, .int 0, .int 0, .int 0, .ref a14, .null])), (a1, .inl (z.1, 36, .inl (fun _ => 0))), (a2, .inl (z.1, 6, .inl (fun _ => 0))), (a3, .inl (z.1, 5, .inl (fun _ => 0))), (a4, .inl (z.1, 18, .inl (fun _ => 0))), (a5, .inl (z.1, 5, .inl (fun _ => 0))), (a6, .inl (z.1, 15, .inl (fun _ => 0))), (a7, .inl (z.1, 15, .inl (fun _ => 0))), (a8, .inl (z.1, 210, .inl (fun _ => 0))), (a9, .inl (z.1, 30, .inl (fun _ => 0))), (a10, .inl (z.2.1, 2, .inl (fun _ => 0))), (a11, .inl (z.1, 6, .inl (fun _ => 0))), (a12, .inl (z.1, 6, .inl (fun _ => 0))), (a13, .inl (z.1, 6, .inl (fun _ => 0))), (a14, .inl (z.1, 8, .inl (fun _ => 0)))]) rfl ?_
  refine n_aload di_Mod_114 rfl (List.mem_of_getElem? (i := 0) rfl) ?_
  refine n_bipush (v := 64) di_Mod_115 (by decide) ?_
  refine n_newI (N := 64) di_Mod_117 (by decide) (by decide) (Nat.le_of_ble_eq_true rfl) (Nat.le_of_ble_eq_true rfl) (Nat.le_of_ble_eq_true rfl) (fun a15 => ?_)
  refine n_to (ws' := [(q, .inr (6, [.int 0, .ref a1, .int 0, .int 0, .int 0, .ref a2, .int 0, .ref a3, .int 0, .ref a4, .int 0, .ref a5, .ref a6, .ref a7, .ref a8, .int 0, .ref a9, .ref a10, .int 0, .ref a11, .ref a12, .ref a13, .long 0, .int 0, .int 0, .int 0, .int 0, .int 0, .int 0, .ref a14, .null])), (a1, .inl (z.1, 36, .inl (fun _ => 0))), (a2, .inl (z.1, 6, .inl (fun _ => 0))), (a3, .inl (z.1, 5, .inl (fun _ => 0))), (a4, .inl (z.1, 18, .inl (fun _ => 0))), (a5, .inl (z.1, 5, .inl (fun _ => 0))), (a6, .inl (z.1, 15, .inl (fun _ => 0))), (a7, .inl (z.1, 15, .inl (fun _ => 0))), (a8, .inl (z.1, 210, .inl (fun _ => 0))), (a9, .inl (z.1, 30, .inl (fun _ => 0))), (a10, .inl (z.2.1, 2, .inl (fun _ => 0))), (a11, .inl (z.1, 6, .inl (fun _ => 0))), (a12, .inl (z.1, 6, .inl (fun _ => 0))), (a13, .inl (z.1, 6, .inl (fun _ => 0))), (a14, .inl (z.1, 8, .inl (fun _ => 0))), (a15, .inl (z.1, 64, .inl (fun _ => 0)))]) rfl ?_
  refine n_putF 0 di_Mod_119 ff_Mod_53 rfl rfl rfl (Nat.le_of_ble_eq_true rfl) ?_
  refine n_to (ws' := [(q, .inr (6, [.int 0, .ref a1, .int 0, .int 0, .int 0, .ref a2, .int 0, .ref a3, .int 0, .ref a4, .int 0, .ref a5, .ref a6, .ref a7, .ref a8, .int 0, .ref a9, .ref a10, .int 0, .ref a11, .ref a12, .ref a13, .long 0, .int 0, .int 0, .int 0, .int 0, .int 0, .int 0, .ref a14, .ref a15])), (a1, .inl (z.1, 36, .inl (fun _ => 0))), (a2, .inl (z.1, 6, .inl (fun _ => 0))), (a3, .inl (z.1, 5, .inl (fun _ => 0))), (a4, .inl (z.1, 18, .inl (fun _ => 0))), (a5, .inl (z.1, 5, .inl (fun _ => 0))), (a6, .inl (z.1, 15, .inl (fun _ => 0))), (a7, .inl (z.1, 15, .inl (fun _ => 0))), (a8, .inl (z.1, 210, .inl (fun _ => 0))), (a9, .inl (z.1, 30, .inl (fun _ => 0))), (a10, .inl (z.2.1, 2, .inl (fun _ => 0))), (a11, .inl (z.1, 6, .inl (fun _ => 0))), (a12, .inl (z.1, 6, .inl (fun _ => 0))), (a13, .inl (z.1, 6, .inl (fun _ => 0))), (a14, .inl (z.1, 8, .inl (fun _ => 0))), (a15, .inl (z.1, 64, .inl (fun _ => 0)))]) rfl ?_
  exact n_ret di_Mod_122 ⟨a1, a2, a3, a4, a5, a6, a7, a8, a9, a10, a11, a12, a13, a14, a15, rfl⟩
